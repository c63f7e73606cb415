-- the world's shape, and facts of the tables by their places
def ax_kX1 (a : Nat) : List ax_S := [.inl (1, [(0, 0), (0, 0), (0, 0), (0, 0), (0, 0), (2, a + 1), (2, a + 2), (2, a + 3), (2, a + 4), (2, a + 5), (2, a + 6), (2, a + 10), (2, a + 14), (2, a + 15), (2, a + 16), (2, a + 17), (2, a + 18)]), .inr (1, 3, []), .inr (0, 3, []), .inr (0, 3, []), .inr (0, 3, []), .inr (0, 3, []), .inr (7, 3, [a + 7, a + 8, a + 9]), .inr (0, 5, []), .inr (0, 5, []), .inr (0, 5, []), .inr (7, 3, [a + 11, a + 12, a + 13]), .inr (0, 5, []), .inr (0, 5, []), .inr (0, 5, []), .inr (0, 6, []), .inr (1, 4, []), .inr (0, 4, []), .inr (0, 4, []), .inr (0, 6, [])]
def ax_kX7 (a : Nat) : List ax_S := [.inl (7, [(0, 0), (0, 0), (0, 0), (0, 0), (0, 0), (0, 0), (0, 0), (2, a + 1), (2, a + 2), (2, a + 3), (2, a + 4), (2, a + 5), (2, a + 6), (2, a + 7), (2, a + 8), (2, a + 9), (2, a + 10), (2, a + 11), (2, a + 12)]), .inr (0, 4, []), .inr (0, 4, []), .inr (0, 4, []), .inr (0, 4, []), .inr (0, 3, []), .inr (0, 3, []), .inr (0, 3, []), .inr (0, 6, []), .inr (1, 7, []), .inr (0, 7, []), .inr (0, 7, []), .inr (0, 7, [])]
def ax_kX6 (a : Nat) : List ax_S := [.inl (6, [(2, a + 1), (0, 0)]), .inr (6, 12, [a + 2, a + 4, a + 6, a + 8, a + 10, a + 12, a + 14, a + 16, a + 18, a + 20, a + 22, a + 24]), .inl (8, [(2, a + 3), (0, 0), (1, 0)]), .inr (0, 3, []), .inl (8, [(2, a + 5), (0, 0), (1, 0)]), .inr (0, 3, []), .inl (8, [(2, a + 7), (0, 0), (1, 0)]), .inr (0, 3, []), .inl (8, [(2, a + 9), (0, 0), (1, 0)]), .inr (0, 3, []), .inl (8, [(2, a + 11), (0, 0), (1, 0)]), .inr (0, 3, []), .inl (8, [(2, a + 13), (0, 0), (1, 0)]), .inr (0, 3, []), .inl (8, [(2, a + 15), (0, 0), (1, 0)]), .inr (0, 3, []), .inl (8, [(2, a + 17), (0, 0), (1, 0)]), .inr (0, 3, []), .inl (8, [(2, a + 19), (0, 0), (1, 0)]), .inr (0, 3, []), .inl (8, [(2, a + 21), (0, 0), (1, 0)]), .inr (0, 3, []), .inl (8, [(2, a + 23), (0, 0), (1, 0)]), .inr (0, 3, []), .inl (8, [(2, a + 25), (0, 0), (1, 0)]), .inr (0, 3, [])]
def ax_kX8 (a : Nat) : List ax_S := [.inl (8, [(2, a + 1), (0, 0), (1, 0)]), .inr (0, 3, [])]
def ax_kX4 (a : Nat) : List ax_S := [.inl (4, [(2, a + 1), (2, a + 2), (2, a + 3)]), .inr (0, 100, []), .inr (0, 100, []), .inr (0, 100, [])]
def ax_L0 : List ax_S := ([.inl (11, [(2, 1), (2, 2), (3, 0), (3, 0), (2, 42), (0, 0), (2, 173), (2, 186), (2, 199), (0, 0), (2, 212), (2, 216), (2, 220), (2, 742), (2, 743), (2, 745), (2, 755), (2, 757), (1, 0)]), .inl (10, [(2, 2)]), .inl (9, [(2, 3), (0, 0), (0, 0), (0, 0), (0, 0)]), .inr (0, 320, [])]) ++ (ax_kX1 4) ++ (ax_kX1 23) ++ ([.inr (4, 5, [43, 69, 95, 121, 147])]) ++ (ax_kX6 43) ++ (ax_kX6 69) ++ (ax_kX6 95) ++ (ax_kX6 121) ++ (ax_kX6 147) ++ (ax_kX7 173) ++ (ax_kX7 186) ++ (ax_kX7 199)
def ax_L1 : List ax_S := (ax_kX4 212) ++ (ax_kX4 216) ++ ([.inl (3, [(2, 221), (0, 0), (0, 0)]), .inr (5, 40, [222, 235, 248, 261, 274, 287, 300, 313, 326, 339, 352, 365, 378, 391, 404, 417, 430, 443, 456, 469, 482, 495, 508, 521, 534, 547, 560, 573, 586, 599, 612, 625, 638, 651, 664, 677, 690, 703, 716, 729])]) ++ (ax_kX7 222) ++ (ax_kX7 235) ++ (ax_kX7 248) ++ (ax_kX7 261) ++ (ax_kX7 274) ++ (ax_kX7 287) ++ (ax_kX7 300) ++ (ax_kX7 313) ++ (ax_kX7 326)
def ax_L2 : List ax_S := (ax_kX7 339) ++ (ax_kX7 352) ++ (ax_kX7 365) ++ (ax_kX7 378) ++ (ax_kX7 391) ++ (ax_kX7 404) ++ (ax_kX7 417) ++ (ax_kX7 430) ++ (ax_kX7 443) ++ (ax_kX7 456) ++ (ax_kX7 469) ++ (ax_kX7 482)
def ax_L3 : List ax_S := (ax_kX7 495) ++ (ax_kX7 508) ++ (ax_kX7 521) ++ (ax_kX7 534) ++ (ax_kX7 547) ++ (ax_kX7 560) ++ (ax_kX7 573) ++ (ax_kX7 586) ++ (ax_kX7 599) ++ (ax_kX7 612) ++ (ax_kX7 625) ++ (ax_kX7 638)
def ax_L4 : List ax_S := (ax_kX7 651) ++ (ax_kX7 664) ++ (ax_kX7 677) ++ (ax_kX7 690) ++ (ax_kX7 703) ++ (ax_kX7 716) ++ (ax_kX7 729) ++ ([.inl (0, [(2, 743), (2, 745)]), .inl (2, [(2, 744)]), .inr (0, 4, []), .inl (5, [(2, 746), (2, 747), (0, 0), (2, 748), (2, 749), (2, 750), (2, 751), (2, 752), (2, 753), (2, 754), (0, 0)]), .inr (0, 4, []), .inr (0, 4, []), .inr (0, 4, []), .inr (0, 3, []), .inr (0, 3, []), .inr (0, 6, []), .inr (0, 1296, []), .inr (0, 1296, []), .inr (0, 1296, [])]) ++ (ax_kX8 755) ++ ([.inr (0, 4, []), .inl (12, [(0, 0), (2, 759), (0, 0), (0, 0), (0, 0), (0, 0), (1, 0), (2, 760), (2, 761), (2, 762), (2, 763), (2, 764), (2, 765), (2, 766), (2, 767), (2, 768), (2, 769), (2, 770), (2, 771), (2, 772), (0, 0), (0, 0), (0, 0), (0, 0), (0, 0), (0, 0), (0, 0), (2, 773), (2, 774), (2, 775), (0, 0), (2, 776), (2, 777), (2, 778), (2, 779), (0, 0), (0, 0), (0, 0), (0, 0), (0, 0), (2, 780), (1, 0), (0, 0), (1, 0), (2, 781), (2, 782), (2, 783), (0, 0), (2, 784), (2, 785), (2, 786)]), .inr (2, 320, []), .inr (0, 6, []), .inr (0, 6, []), .inr (0, 12, []), .inr (0, 12, []), .inr (0, 30, []), .inr (0, 30, []), .inr (0, 8, []), .inr (0, 8, []), .inr (0, 4, []), .inr (1, 3, []), .inr (1, 3, []), .inr (1, 4, []), .inr (1, 4, []), .inr (0, 240, []), .inr (0, 5, []), .inr (1, 60, []), .inr (0, 256, []), .inr (0, 256, []), .inr (0, 256, []), .inr (0, 10240, []), .inr (0, 4, []), .inr (0, 4, []), .inr (3, 4, []), .inr (0, 4, []), .inr (0, 1296, []), .inr (0, 1296, []), .inr (0, 1296, []), .inr (1, 1, [])])
def ax_L : List ax_S := ax_L0 ++ (ax_L1 ++ (ax_L2 ++ (ax_L3 ++ (ax_L4))))
def SHp (k : Nat) : ax_S := ax_L.getD k (.inr (9, 0, []))
theorem sX1_0 : ∀ a ∈ ax_iX1, a < 788 ∧ SHp (a) = .inl (1, [(0, 0), (0, 0), (0, 0), (0, 0), (0, 0), (2, a + 1), (2, a + 2), (2, a + 3), (2, a + 4), (2, a + 5), (2, a + 6), (2, a + 10), (2, a + 14), (2, a + 15), (2, a + 16), (2, a + 17), (2, a + 18)]) := by decide +kernel
theorem sX1_1 : ∀ a ∈ ax_iX1, a + 1 < 788 ∧ SHp (a + 1) = .inr (1, 3, []) := by decide +kernel
theorem sX1_2 : ∀ a ∈ ax_iX1, a + 2 < 788 ∧ SHp (a + 2) = .inr (0, 3, []) := by decide +kernel
theorem sX1_3 : ∀ a ∈ ax_iX1, a + 3 < 788 ∧ SHp (a + 3) = .inr (0, 3, []) := by decide +kernel
theorem sX1_4 : ∀ a ∈ ax_iX1, a + 4 < 788 ∧ SHp (a + 4) = .inr (0, 3, []) := by decide +kernel
theorem sX1_5 : ∀ a ∈ ax_iX1, a + 5 < 788 ∧ SHp (a + 5) = .inr (0, 3, []) := by decide +kernel
theorem sX1_6 : ∀ a ∈ ax_iX1, a + 6 < 788 ∧ SHp (a + 6) = .inr (7, 3, [a + 7, a + 8, a + 9]) := by decide +kernel
theorem sX1_7 : ∀ a ∈ ax_iX1, a + 7 < 788 ∧ SHp (a + 7) = .inr (0, 5, []) := by decide +kernel
theorem sX1_8 : ∀ a ∈ ax_iX1, a + 8 < 788 ∧ SHp (a + 8) = .inr (0, 5, []) := by decide +kernel
theorem sX1_9 : ∀ a ∈ ax_iX1, a + 9 < 788 ∧ SHp (a + 9) = .inr (0, 5, []) := by decide +kernel
theorem sX1_10 : ∀ a ∈ ax_iX1, a + 10 < 788 ∧ SHp (a + 10) = .inr (7, 3, [a + 11, a + 12, a + 13]) := by decide +kernel
theorem sX1_11 : ∀ a ∈ ax_iX1, a + 11 < 788 ∧ SHp (a + 11) = .inr (0, 5, []) := by decide +kernel
theorem sX1_12 : ∀ a ∈ ax_iX1, a + 12 < 788 ∧ SHp (a + 12) = .inr (0, 5, []) := by decide +kernel
theorem sX1_13 : ∀ a ∈ ax_iX1, a + 13 < 788 ∧ SHp (a + 13) = .inr (0, 5, []) := by decide +kernel
theorem sX1_14 : ∀ a ∈ ax_iX1, a + 14 < 788 ∧ SHp (a + 14) = .inr (0, 6, []) := by decide +kernel
theorem sX1_15 : ∀ a ∈ ax_iX1, a + 15 < 788 ∧ SHp (a + 15) = .inr (1, 4, []) := by decide +kernel
theorem sX1_16 : ∀ a ∈ ax_iX1, a + 16 < 788 ∧ SHp (a + 16) = .inr (0, 4, []) := by decide +kernel
theorem sX1_17 : ∀ a ∈ ax_iX1, a + 17 < 788 ∧ SHp (a + 17) = .inr (0, 4, []) := by decide +kernel
theorem sX1_18 : ∀ a ∈ ax_iX1, a + 18 < 788 ∧ SHp (a + 18) = .inr (0, 6, []) := by decide +kernel
theorem sX7_0 : ∀ a ∈ ax_iX7, a < 788 ∧ SHp (a) = .inl (7, [(0, 0), (0, 0), (0, 0), (0, 0), (0, 0), (0, 0), (0, 0), (2, a + 1), (2, a + 2), (2, a + 3), (2, a + 4), (2, a + 5), (2, a + 6), (2, a + 7), (2, a + 8), (2, a + 9), (2, a + 10), (2, a + 11), (2, a + 12)]) := by decide +kernel
theorem sX7_1 : ∀ a ∈ ax_iX7, a + 1 < 788 ∧ SHp (a + 1) = .inr (0, 4, []) := by decide +kernel
theorem sX7_2 : ∀ a ∈ ax_iX7, a + 2 < 788 ∧ SHp (a + 2) = .inr (0, 4, []) := by decide +kernel
theorem sX7_3 : ∀ a ∈ ax_iX7, a + 3 < 788 ∧ SHp (a + 3) = .inr (0, 4, []) := by decide +kernel
theorem sX7_4 : ∀ a ∈ ax_iX7, a + 4 < 788 ∧ SHp (a + 4) = .inr (0, 4, []) := by decide +kernel
theorem sX7_5 : ∀ a ∈ ax_iX7, a + 5 < 788 ∧ SHp (a + 5) = .inr (0, 3, []) := by decide +kernel
theorem sX7_6 : ∀ a ∈ ax_iX7, a + 6 < 788 ∧ SHp (a + 6) = .inr (0, 3, []) := by decide +kernel
theorem sX7_7 : ∀ a ∈ ax_iX7, a + 7 < 788 ∧ SHp (a + 7) = .inr (0, 3, []) := by decide +kernel
theorem sX7_8 : ∀ a ∈ ax_iX7, a + 8 < 788 ∧ SHp (a + 8) = .inr (0, 6, []) := by decide +kernel
theorem sX7_9 : ∀ a ∈ ax_iX7, a + 9 < 788 ∧ SHp (a + 9) = .inr (1, 7, []) := by decide +kernel
theorem sX7_10 : ∀ a ∈ ax_iX7, a + 10 < 788 ∧ SHp (a + 10) = .inr (0, 7, []) := by decide +kernel
theorem sX7_11 : ∀ a ∈ ax_iX7, a + 11 < 788 ∧ SHp (a + 11) = .inr (0, 7, []) := by decide +kernel
theorem sX7_12 : ∀ a ∈ ax_iX7, a + 12 < 788 ∧ SHp (a + 12) = .inr (0, 7, []) := by decide +kernel
theorem sX6_0 : ∀ a ∈ ax_iX6, a < 788 ∧ SHp (a) = .inl (6, [(2, a + 1), (0, 0)]) := by decide +kernel
theorem sX6_1 : ∀ a ∈ ax_iX6, a + 1 < 788 ∧ SHp (a + 1) = .inr (6, 12, [a + 2, a + 4, a + 6, a + 8, a + 10, a + 12, a + 14, a + 16, a + 18, a + 20, a + 22, a + 24]) := by decide +kernel
theorem sX8_0 : ∀ a ∈ ax_iX8, a < 788 ∧ SHp (a) = .inl (8, [(2, a + 1), (0, 0), (1, 0)]) := by decide +kernel
theorem sX8_1 : ∀ a ∈ ax_iX8, a + 1 < 788 ∧ SHp (a + 1) = .inr (0, 3, []) := by decide +kernel
theorem sX4_0 : ∀ a ∈ ax_iX4, a < 788 ∧ SHp (a) = .inl (4, [(2, a + 1), (2, a + 2), (2, a + 3)]) := by decide +kernel
theorem sX4_1 : ∀ a ∈ ax_iX4, a + 1 < 788 ∧ SHp (a + 1) = .inr (0, 100, []) := by decide +kernel
theorem sX4_2 : ∀ a ∈ ax_iX4, a + 2 < 788 ∧ SHp (a + 2) = .inr (0, 100, []) := by decide +kernel
theorem sX4_3 : ∀ a ∈ ax_iX4, a + 3 < 788 ∧ SHp (a + 3) = .inr (0, 100, []) := by decide +kernel
theorem s_0 : 0 < 788 ∧ SHp 0 = .inl (11, [(2, 1), (2, 2), (3, 0), (3, 0), (2, 42), (0, 0), (2, 173), (2, 186), (2, 199), (0, 0), (2, 212), (2, 216), (2, 220), (2, 742), (2, 743), (2, 745), (2, 755), (2, 757), (1, 0)]) := by decide +kernel
theorem s_1 : 1 < 788 ∧ SHp 1 = .inl (10, [(2, 2)]) := by decide +kernel
theorem s_2 : 2 < 788 ∧ SHp 2 = .inl (9, [(2, 3), (0, 0), (0, 0), (0, 0), (0, 0)]) := by decide +kernel
theorem s_3 : 3 < 788 ∧ SHp 3 = .inr (0, 320, []) := by decide +kernel
theorem s_42 : 42 < 788 ∧ SHp 42 = .inr (4, 5, [43, 69, 95, 121, 147]) := by decide +kernel
theorem s_220 : 220 < 788 ∧ SHp 220 = .inl (3, [(2, 221), (0, 0), (0, 0)]) := by decide +kernel
theorem s_221 : 221 < 788 ∧ SHp 221 = .inr (5, 40, [222, 235, 248, 261, 274, 287, 300, 313, 326, 339, 352, 365, 378, 391, 404, 417, 430, 443, 456, 469, 482, 495, 508, 521, 534, 547, 560, 573, 586, 599, 612, 625, 638, 651, 664, 677, 690, 703, 716, 729]) := by decide +kernel
theorem s_742 : 742 < 788 ∧ SHp 742 = .inl (0, [(2, 743), (2, 745)]) := by decide +kernel
theorem s_743 : 743 < 788 ∧ SHp 743 = .inl (2, [(2, 744)]) := by decide +kernel
theorem s_744 : 744 < 788 ∧ SHp 744 = .inr (0, 4, []) := by decide +kernel
theorem s_745 : 745 < 788 ∧ SHp 745 = .inl (5, [(2, 746), (2, 747), (0, 0), (2, 748), (2, 749), (2, 750), (2, 751), (2, 752), (2, 753), (2, 754), (0, 0)]) := by decide +kernel
theorem s_746 : 746 < 788 ∧ SHp 746 = .inr (0, 4, []) := by decide +kernel
theorem s_747 : 747 < 788 ∧ SHp 747 = .inr (0, 4, []) := by decide +kernel
theorem s_748 : 748 < 788 ∧ SHp 748 = .inr (0, 4, []) := by decide +kernel
theorem s_749 : 749 < 788 ∧ SHp 749 = .inr (0, 3, []) := by decide +kernel
theorem s_750 : 750 < 788 ∧ SHp 750 = .inr (0, 3, []) := by decide +kernel
theorem s_751 : 751 < 788 ∧ SHp 751 = .inr (0, 6, []) := by decide +kernel
theorem s_752 : 752 < 788 ∧ SHp 752 = .inr (0, 1296, []) := by decide +kernel
theorem s_753 : 753 < 788 ∧ SHp 753 = .inr (0, 1296, []) := by decide +kernel
theorem s_754 : 754 < 788 ∧ SHp 754 = .inr (0, 1296, []) := by decide +kernel
theorem s_757 : 757 < 788 ∧ SHp 757 = .inr (0, 4, []) := by decide +kernel
theorem s_758 : 758 < 788 ∧ SHp 758 = .inl (12, [(0, 0), (2, 759), (0, 0), (0, 0), (0, 0), (0, 0), (1, 0), (2, 760), (2, 761), (2, 762), (2, 763), (2, 764), (2, 765), (2, 766), (2, 767), (2, 768), (2, 769), (2, 770), (2, 771), (2, 772), (0, 0), (0, 0), (0, 0), (0, 0), (0, 0), (0, 0), (0, 0), (2, 773), (2, 774), (2, 775), (0, 0), (2, 776), (2, 777), (2, 778), (2, 779), (0, 0), (0, 0), (0, 0), (0, 0), (0, 0), (2, 780), (1, 0), (0, 0), (1, 0), (2, 781), (2, 782), (2, 783), (0, 0), (2, 784), (2, 785), (2, 786)]) := by decide +kernel
theorem s_759 : 759 < 788 ∧ SHp 759 = .inr (2, 320, []) := by decide +kernel
theorem s_760 : 760 < 788 ∧ SHp 760 = .inr (0, 6, []) := by decide +kernel
theorem s_761 : 761 < 788 ∧ SHp 761 = .inr (0, 6, []) := by decide +kernel
theorem s_762 : 762 < 788 ∧ SHp 762 = .inr (0, 12, []) := by decide +kernel
theorem s_763 : 763 < 788 ∧ SHp 763 = .inr (0, 12, []) := by decide +kernel
theorem s_764 : 764 < 788 ∧ SHp 764 = .inr (0, 30, []) := by decide +kernel
theorem s_765 : 765 < 788 ∧ SHp 765 = .inr (0, 30, []) := by decide +kernel
theorem s_766 : 766 < 788 ∧ SHp 766 = .inr (0, 8, []) := by decide +kernel
theorem s_767 : 767 < 788 ∧ SHp 767 = .inr (0, 8, []) := by decide +kernel
theorem s_768 : 768 < 788 ∧ SHp 768 = .inr (0, 4, []) := by decide +kernel
theorem s_769 : 769 < 788 ∧ SHp 769 = .inr (1, 3, []) := by decide +kernel
theorem s_770 : 770 < 788 ∧ SHp 770 = .inr (1, 3, []) := by decide +kernel
theorem s_771 : 771 < 788 ∧ SHp 771 = .inr (1, 4, []) := by decide +kernel
theorem s_772 : 772 < 788 ∧ SHp 772 = .inr (1, 4, []) := by decide +kernel
theorem s_773 : 773 < 788 ∧ SHp 773 = .inr (0, 240, []) := by decide +kernel
theorem s_774 : 774 < 788 ∧ SHp 774 = .inr (0, 5, []) := by decide +kernel
theorem s_775 : 775 < 788 ∧ SHp 775 = .inr (1, 60, []) := by decide +kernel
theorem s_776 : 776 < 788 ∧ SHp 776 = .inr (0, 256, []) := by decide +kernel
theorem s_777 : 777 < 788 ∧ SHp 777 = .inr (0, 256, []) := by decide +kernel
theorem s_778 : 778 < 788 ∧ SHp 778 = .inr (0, 256, []) := by decide +kernel
theorem s_779 : 779 < 788 ∧ SHp 779 = .inr (0, 10240, []) := by decide +kernel
theorem s_780 : 780 < 788 ∧ SHp 780 = .inr (0, 4, []) := by decide +kernel
theorem s_781 : 781 < 788 ∧ SHp 781 = .inr (0, 4, []) := by decide +kernel
theorem s_782 : 782 < 788 ∧ SHp 782 = .inr (3, 4, []) := by decide +kernel
theorem s_783 : 783 < 788 ∧ SHp 783 = .inr (0, 4, []) := by decide +kernel
theorem s_784 : 784 < 788 ∧ SHp 784 = .inr (0, 1296, []) := by decide +kernel
theorem s_785 : 785 < 788 ∧ SHp 785 = .inr (0, 1296, []) := by decide +kernel
theorem s_786 : 786 < 788 ∧ SHp 786 = .inr (0, 1296, []) := by decide +kernel
theorem s_787 : 787 < 788 ∧ SHp 787 = .inr (1, 1, []) := by decide +kernel
theorem sX6_step : ∀ a ∈ ax_iX6, ∀ i : Nat, i < 12 → a + 2 + 2 * i ∈ ax_iX8 := by decide +kernel
theorem s_script : ∀ i : Nat, i < 5 → 43 + 26 * i ∈ ax_iX6 := by decide +kernel
theorem s_row : ∀ i : Nat, i < 40 → 222 + 13 * i ∈ ax_iX7 := by decide +kernel
theorem tg_script : ∀ i : Nat, i < 5 → ([43, 69, 95, 121, 147] : List Nat)[i]? = some (43 + 26 * i) := by decide
theorem tg_row : ∀ i : Nat, i < 40 → ([222, 235, 248, 261, 274, 287, 300, 313, 326, 339, 352, 365, 378, 391, 404, 417, 430, 443, 456, 469, 482, 495, 508, 521, 534, 547, 560, 573, 586, 599, 612, 625, 638, 651, 664, 677, 690, 703, 716, 729] : List Nat)[i]? = some (222 + 13 * i) := by decide +kernel
theorem tg_steps (a i : Nat) (hi : i < 12) : ([a + 2, a + 4, a + 6, a + 8, a + 10, a + 12, a + 14, a + 16, a + 18, a + 20, a + 22, a + 24] : List Nat)[i]? = some (a + 2 + 2 * i) := by
  have : i = 0 ∨ i = 1 ∨ i = 2 ∨ i = 3 ∨ i = 4 ∨ i = 5 ∨ i = 6 ∨ i = 7 ∨ i = 8 ∨ i = 9 ∨ i = 10 ∨ i = 11 := by omega
  rcases this with rfl | rfl | rfl | rfl | rfl | rfl | rfl | rfl | rfl | rfl | rfl | rfl <;> rfl
theorem tg_pts7 (a i : Nat) (hi : i < 3) : ([a + 7, a + 8, a + 9] : List Nat)[i]? = some (a + 7 + i) := by
  have : i = 0 ∨ i = 1 ∨ i = 2 := by omega
  rcases this with rfl | rfl | rfl <;> rfl
theorem tg_pts11 (a i : Nat) (hi : i < 3) : ([a + 11, a + 12, a + 13] : List Nat)[i]? = some (a + 11 + i) := by
  have : i = 0 ∨ i = 1 ∨ i = 2 := by omega
  rcases this with rfl | rfl | rfl <;> rfl
theorem sX1_pt7 (a : Nat) (h : a ∈ ax_iX1) (i : Nat) (hi : i < 3) : a + 7 + i < 788 ∧ SHp (a + 7 + i) = .inr (0, 5, []) := by
  have : i = 0 ∨ i = 1 ∨ i = 2 := by omega
  rcases this with rfl | rfl | rfl
  · exact sX1_7 a h
  · exact sX1_8 a h
  · exact sX1_9 a h
theorem sX1_pt11 (a : Nat) (h : a ∈ ax_iX1) (i : Nat) (hi : i < 3) : a + 11 + i < 788 ∧ SHp (a + 11 + i) = .inr (0, 5, []) := by
  have : i = 0 ∨ i = 1 ∨ i = 2 := by omega
  rcases this with rfl | rfl | rfl
  · exact sX1_11 a h
  · exact sX1_12 a h
  · exact sX1_13 a h
