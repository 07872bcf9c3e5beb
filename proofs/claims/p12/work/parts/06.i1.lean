theorem inX10_init_RX10 : ∀ w ∈ u_ws RX10 TX10 57, w ∈ wsX10_init := fun w h => List.mem_cons_of_mem _ (List.mem_append_right _ h)
noncomputable def hsM0 : List gC := []
noncomputable def sgM0 : gS := s00
theorem zrM0 : Zr sgM0 0 := fun _ _ => ⟨rfl, rfl⟩
noncomputable def hsM1 : List gC := hsM0 ++ [(3, 10, 0, [2, 0, 0, 0, 0, 0, 0, 0, 0, 2, 2, 2, 2, 2, 2, 2, 2, 2, 2, 2, 2, 0, 2, 2, 2, 2, 2, 2, 2, 2, 2, 2, 2, 2, 0, 2, 0, 2, 2, 2, 1, 0, 2, 0, 2, 2, 2, 2, 2, 2, 2, 2, 0, 2, 1, 2, 0])]
noncomputable def hsM2 : List gC := hsM1 ++ [(0, 0, 1600, [])]
theorem atM2_0 : hsM2[0]? = some (3, 10, 0, [2, 0, 0, 0, 0, 0, 0, 0, 0, 2, 2, 2, 2, 2, 2, 2, 2, 2, 2, 2, 2, 0, 2, 2, 2, 2, 2, 2, 2, 2, 2, 2, 2, 2, 0, 2, 0, 2, 2, 2, 1, 0, 2, 0, 2, 2, 2, 2, 2, 2, 2, 2, 0, 2, 1, 2, 0]) := by decide +kernel
noncomputable def hsM3 : List gC := hsM2.set 0 (3, 10, 0, [4, 0, 0, 0, 0, 0, 0, 0, 0, 2, 2, 2, 2, 2, 2, 2, 2, 2, 2, 2, 2, 0, 2, 2, 2, 2, 2, 2, 2, 2, 2, 2, 2, 2, 0, 2, 0, 2, 2, 2, 1, 0, 2, 0, 2, 2, 2, 2, 2, 2, 2, 2, 0, 2, 1, 2, 0])
theorem atM3_0 : hsM3[0]? = some (3, 10, 0, [4, 0, 0, 0, 0, 0, 0, 0, 0, 2, 2, 2, 2, 2, 2, 2, 2, 2, 2, 2, 2, 0, 2, 2, 2, 2, 2, 2, 2, 2, 2, 2, 2, 2, 0, 2, 0, 2, 2, 2, 1, 0, 2, 0, 2, 2, 2, 2, 2, 2, 2, 2, 0, 2, 1, 2, 0]) := by decide +kernel
noncomputable def sgM1 : gS := gsI sgM0 0 8 (-1)
theorem zrM1 : Zr sgM1 2 := Zr_I (Zr_mono zrM0 (by decide)) (by decide)
noncomputable def hsM4 : List gC := hsM3 ++ [(0, 1, 5, [])]
theorem atM4_2 : hsM4[2]? = some (0, 1, 5, []) := by decide +kernel
noncomputable def sgM2 : gS := gsI sgM1 2 0 115
theorem zrM2 : Zr sgM2 3 := Zr_I (Zr_mono zrM1 (by decide)) (by decide)
noncomputable def sgM3 : gS := gsI sgM2 2 1 116
theorem zrM3 : Zr sgM3 3 := Zr_I (Zr_mono zrM2 (by decide)) (by decide)
noncomputable def sgM4 : gS := gsI sgM3 2 2 114
theorem zrM4 : Zr sgM4 3 := Zr_I (Zr_mono zrM3 (by decide)) (by decide)
noncomputable def sgM5 : gS := gsI sgM4 2 3 105
theorem zrM5 : Zr sgM5 3 := Zr_I (Zr_mono zrM4 (by decide)) (by decide)
noncomputable def sgM6 : gS := gsI sgM5 2 4 112
theorem zrM6 : Zr sgM6 3 := Zr_I (Zr_mono zrM5 (by decide)) (by decide)
theorem atM4_0 : hsM4[0]? = some (3, 10, 0, [4, 0, 0, 0, 0, 0, 0, 0, 0, 2, 2, 2, 2, 2, 2, 2, 2, 2, 2, 2, 2, 0, 2, 2, 2, 2, 2, 2, 2, 2, 2, 2, 2, 2, 0, 2, 0, 2, 2, 2, 1, 0, 2, 0, 2, 2, 2, 2, 2, 2, 2, 2, 0, 2, 1, 2, 0]) := by decide +kernel
noncomputable def hsM5 : List gC := hsM4.set 0 (3, 10, 0, [4, 0, 0, 0, 0, 0, 0, 0, 0, 5, 2, 2, 2, 2, 2, 2, 2, 2, 2, 2, 2, 0, 2, 2, 2, 2, 2, 2, 2, 2, 2, 2, 2, 2, 0, 2, 0, 2, 2, 2, 1, 0, 2, 0, 2, 2, 2, 2, 2, 2, 2, 2, 0, 2, 1, 2, 0])
noncomputable def hsM6 : List gC := hsM5 ++ [(0, 1, 7, [])]
theorem atM6_3 : hsM6[3]? = some (0, 1, 7, []) := by decide +kernel
noncomputable def sgM7 : gS := gsI sgM6 3 0 112
theorem zrM7 : Zr sgM7 4 := Zr_I (Zr_mono zrM6 (by decide)) (by decide)
noncomputable def sgM8 : gS := gsI sgM7 3 1 105
theorem zrM8 : Zr sgM8 4 := Zr_I (Zr_mono zrM7 (by decide)) (by decide)
noncomputable def sgM9 : gS := gsI sgM8 3 2 99
theorem zrM9 : Zr sgM9 4 := Zr_I (Zr_mono zrM8 (by decide)) (by decide)
noncomputable def sgM10 : gS := gsI sgM9 3 3 116
theorem zrM10 : Zr sgM10 4 := Zr_I (Zr_mono zrM9 (by decide)) (by decide)
noncomputable def sgM11 : gS := gsI sgM10 3 4 117
theorem zrM11 : Zr sgM11 4 := Zr_I (Zr_mono zrM10 (by decide)) (by decide)
noncomputable def sgM12 : gS := gsI sgM11 3 5 114
theorem zrM12 : Zr sgM12 4 := Zr_I (Zr_mono zrM11 (by decide)) (by decide)
noncomputable def sgM13 : gS := gsI sgM12 3 6 101
theorem zrM13 : Zr sgM13 4 := Zr_I (Zr_mono zrM12 (by decide)) (by decide)
theorem atM6_0 : hsM6[0]? = some (3, 10, 0, [4, 0, 0, 0, 0, 0, 0, 0, 0, 5, 2, 2, 2, 2, 2, 2, 2, 2, 2, 2, 2, 0, 2, 2, 2, 2, 2, 2, 2, 2, 2, 2, 2, 2, 0, 2, 0, 2, 2, 2, 1, 0, 2, 0, 2, 2, 2, 2, 2, 2, 2, 2, 0, 2, 1, 2, 0]) := by decide +kernel
noncomputable def hsM7 : List gC := hsM6.set 0 (3, 10, 0, [4, 0, 0, 0, 0, 0, 0, 0, 0, 5, 6, 2, 2, 2, 2, 2, 2, 2, 2, 2, 2, 0, 2, 2, 2, 2, 2, 2, 2, 2, 2, 2, 2, 2, 0, 2, 0, 2, 2, 2, 1, 0, 2, 0, 2, 2, 2, 2, 2, 2, 2, 2, 0, 2, 1, 2, 0])
noncomputable def hsM8 : List gC := hsM7 ++ [(0, 1, 2, [])]
theorem atM8_4 : hsM8[4]? = some (0, 1, 2, []) := by decide +kernel
noncomputable def sgM14 : gS := gsI sgM13 4 0 105
theorem zrM14 : Zr sgM14 5 := Zr_I (Zr_mono zrM13 (by decide)) (by decide)
noncomputable def sgM15 : gS := gsI sgM14 4 1 110
theorem zrM15 : Zr sgM15 5 := Zr_I (Zr_mono zrM14 (by decide)) (by decide)
theorem atM8_0 : hsM8[0]? = some (3, 10, 0, [4, 0, 0, 0, 0, 0, 0, 0, 0, 5, 6, 2, 2, 2, 2, 2, 2, 2, 2, 2, 2, 0, 2, 2, 2, 2, 2, 2, 2, 2, 2, 2, 2, 2, 0, 2, 0, 2, 2, 2, 1, 0, 2, 0, 2, 2, 2, 2, 2, 2, 2, 2, 0, 2, 1, 2, 0]) := by decide +kernel
noncomputable def hsM9 : List gC := hsM8.set 0 (3, 10, 0, [4, 0, 0, 0, 0, 0, 0, 0, 0, 5, 6, 7, 2, 2, 2, 2, 2, 2, 2, 2, 2, 0, 2, 2, 2, 2, 2, 2, 2, 2, 2, 2, 2, 2, 0, 2, 0, 2, 2, 2, 1, 0, 2, 0, 2, 2, 2, 2, 2, 2, 2, 2, 0, 2, 1, 2, 0])
noncomputable def hsM10 : List gC := hsM9 ++ [(0, 1, 4, [])]
theorem atM10_5 : hsM10[5]? = some (0, 1, 4, []) := by decide +kernel
noncomputable def sgM16 : gS := gsI sgM15 5 0 116
theorem zrM16 : Zr sgM16 6 := Zr_I (Zr_mono zrM15 (by decide)) (by decide)
noncomputable def sgM17 : gS := gsI sgM16 5 1 117
theorem zrM17 : Zr sgM17 6 := Zr_I (Zr_mono zrM16 (by decide)) (by decide)
noncomputable def sgM18 : gS := gsI sgM17 5 2 114
theorem zrM18 : Zr sgM18 6 := Zr_I (Zr_mono zrM17 (by decide)) (by decide)
noncomputable def sgM19 : gS := gsI sgM18 5 3 110
theorem zrM19 : Zr sgM19 6 := Zr_I (Zr_mono zrM18 (by decide)) (by decide)
theorem atM10_0 : hsM10[0]? = some (3, 10, 0, [4, 0, 0, 0, 0, 0, 0, 0, 0, 5, 6, 7, 2, 2, 2, 2, 2, 2, 2, 2, 2, 0, 2, 2, 2, 2, 2, 2, 2, 2, 2, 2, 2, 2, 0, 2, 0, 2, 2, 2, 1, 0, 2, 0, 2, 2, 2, 2, 2, 2, 2, 2, 0, 2, 1, 2, 0]) := by decide +kernel
noncomputable def hsM11 : List gC := hsM10.set 0 (3, 10, 0, [4, 0, 0, 0, 0, 0, 0, 0, 0, 5, 6, 7, 8, 2, 2, 2, 2, 2, 2, 2, 2, 0, 2, 2, 2, 2, 2, 2, 2, 2, 2, 2, 2, 2, 0, 2, 0, 2, 2, 2, 1, 0, 2, 0, 2, 2, 2, 2, 2, 2, 2, 2, 0, 2, 1, 2, 0])
noncomputable def hsM12 : List gC := hsM11 ++ [(0, 1, 3, [])]
theorem atM12_6 : hsM12[6]? = some (0, 1, 3, []) := by decide +kernel
noncomputable def sgM20 : gS := gsI sgM19 6 0 97
theorem zrM20 : Zr sgM20 7 := Zr_I (Zr_mono zrM19 (by decide)) (by decide)
noncomputable def sgM21 : gS := gsI sgM20 6 1 110
theorem zrM21 : Zr sgM21 7 := Zr_I (Zr_mono zrM20 (by decide)) (by decide)
noncomputable def sgM22 : gS := gsI sgM21 6 2 121
theorem zrM22 : Zr sgM22 7 := Zr_I (Zr_mono zrM21 (by decide)) (by decide)
theorem atM12_0 : hsM12[0]? = some (3, 10, 0, [4, 0, 0, 0, 0, 0, 0, 0, 0, 5, 6, 7, 8, 2, 2, 2, 2, 2, 2, 2, 2, 0, 2, 2, 2, 2, 2, 2, 2, 2, 2, 2, 2, 2, 0, 2, 0, 2, 2, 2, 1, 0, 2, 0, 2, 2, 2, 2, 2, 2, 2, 2, 0, 2, 1, 2, 0]) := by decide +kernel
noncomputable def hsM13 : List gC := hsM12.set 0 (3, 10, 0, [4, 0, 0, 0, 0, 0, 0, 0, 0, 5, 6, 7, 8, 9, 2, 2, 2, 2, 2, 2, 2, 0, 2, 2, 2, 2, 2, 2, 2, 2, 2, 2, 2, 2, 0, 2, 0, 2, 2, 2, 1, 0, 2, 0, 2, 2, 2, 2, 2, 2, 2, 2, 0, 2, 1, 2, 0])
noncomputable def hsM14 : List gC := hsM13 ++ [(0, 1, 5, [])]
theorem atM14_7 : hsM14[7]? = some (0, 1, 5, []) := by decide +kernel
noncomputable def sgM23 : gS := gsI sgM22 7 0 112
theorem zrM23 : Zr sgM23 8 := Zr_I (Zr_mono zrM22 (by decide)) (by decide)
noncomputable def sgM24 : gS := gsI sgM23 7 1 111
theorem zrM24 : Zr sgM24 8 := Zr_I (Zr_mono zrM23 (by decide)) (by decide)
noncomputable def sgM25 : gS := gsI sgM24 7 2 105
theorem zrM25 : Zr sgM25 8 := Zr_I (Zr_mono zrM24 (by decide)) (by decide)
noncomputable def sgM26 : gS := gsI sgM25 7 3 110
theorem zrM26 : Zr sgM26 8 := Zr_I (Zr_mono zrM25 (by decide)) (by decide)
noncomputable def sgM27 : gS := gsI sgM26 7 4 116
theorem zrM27 : Zr sgM27 8 := Zr_I (Zr_mono zrM26 (by decide)) (by decide)
theorem atM14_0 : hsM14[0]? = some (3, 10, 0, [4, 0, 0, 0, 0, 0, 0, 0, 0, 5, 6, 7, 8, 9, 2, 2, 2, 2, 2, 2, 2, 0, 2, 2, 2, 2, 2, 2, 2, 2, 2, 2, 2, 2, 0, 2, 0, 2, 2, 2, 1, 0, 2, 0, 2, 2, 2, 2, 2, 2, 2, 2, 0, 2, 1, 2, 0]) := by decide +kernel
noncomputable def hsM15 : List gC := hsM14.set 0 (3, 10, 0, [4, 0, 0, 0, 0, 0, 0, 0, 0, 5, 6, 7, 8, 9, 10, 2, 2, 2, 2, 2, 2, 0, 2, 2, 2, 2, 2, 2, 2, 2, 2, 2, 2, 2, 0, 2, 0, 2, 2, 2, 1, 0, 2, 0, 2, 2, 2, 2, 2, 2, 2, 2, 0, 2, 1, 2, 0])
noncomputable def hsM16 : List gC := hsM15 ++ [(0, 1, 3, [])]
theorem atM16_8 : hsM16[8]? = some (0, 1, 3, []) := by decide +kernel
noncomputable def sgM28 : gS := gsI sgM27 8 0 114
theorem zrM28 : Zr sgM28 9 := Zr_I (Zr_mono zrM27 (by decide)) (by decide)
noncomputable def sgM29 : gS := gsI sgM28 8 1 111
theorem zrM29 : Zr sgM29 9 := Zr_I (Zr_mono zrM28 (by decide)) (by decide)
noncomputable def sgM30 : gS := gsI sgM29 8 2 119
theorem zrM30 : Zr sgM30 9 := Zr_I (Zr_mono zrM29 (by decide)) (by decide)
theorem atM16_0 : hsM16[0]? = some (3, 10, 0, [4, 0, 0, 0, 0, 0, 0, 0, 0, 5, 6, 7, 8, 9, 10, 2, 2, 2, 2, 2, 2, 0, 2, 2, 2, 2, 2, 2, 2, 2, 2, 2, 2, 2, 0, 2, 0, 2, 2, 2, 1, 0, 2, 0, 2, 2, 2, 2, 2, 2, 2, 2, 0, 2, 1, 2, 0]) := by decide +kernel
noncomputable def hsM17 : List gC := hsM16.set 0 (3, 10, 0, [4, 0, 0, 0, 0, 0, 0, 0, 0, 5, 6, 7, 8, 9, 10, 11, 2, 2, 2, 2, 2, 0, 2, 2, 2, 2, 2, 2, 2, 2, 2, 2, 2, 2, 0, 2, 0, 2, 2, 2, 1, 0, 2, 0, 2, 2, 2, 2, 2, 2, 2, 2, 0, 2, 1, 2, 0])
noncomputable def hsM18 : List gC := hsM17 ++ [(0, 1, 2, [])]
theorem atM18_9 : hsM18[9]? = some (0, 1, 2, []) := by decide +kernel
noncomputable def sgM31 : gS := gsI sgM30 9 0 97
theorem zrM31 : Zr sgM31 10 := Zr_I (Zr_mono zrM30 (by decide)) (by decide)
noncomputable def sgM32 : gS := gsI sgM31 9 1 116
theorem zrM32 : Zr sgM32 10 := Zr_I (Zr_mono zrM31 (by decide)) (by decide)
theorem atM18_0 : hsM18[0]? = some (3, 10, 0, [4, 0, 0, 0, 0, 0, 0, 0, 0, 5, 6, 7, 8, 9, 10, 11, 2, 2, 2, 2, 2, 0, 2, 2, 2, 2, 2, 2, 2, 2, 2, 2, 2, 2, 0, 2, 0, 2, 2, 2, 1, 0, 2, 0, 2, 2, 2, 2, 2, 2, 2, 2, 0, 2, 1, 2, 0]) := by decide +kernel
noncomputable def hsM19 : List gC := hsM18.set 0 (3, 10, 0, [4, 0, 0, 0, 0, 0, 0, 0, 0, 5, 6, 7, 8, 9, 10, 11, 12, 2, 2, 2, 2, 0, 2, 2, 2, 2, 2, 2, 2, 2, 2, 2, 2, 2, 0, 2, 0, 2, 2, 2, 1, 0, 2, 0, 2, 2, 2, 2, 2, 2, 2, 2, 0, 2, 1, 2, 0])
noncomputable def hsM20 : List gC := hsM19 ++ [(0, 1, 6, [])]
theorem atM20_10 : hsM20[10]? = some (0, 1, 6, []) := by decide +kernel
noncomputable def sgM33 : gS := gsI sgM32 10 0 119
theorem zrM33 : Zr sgM33 11 := Zr_I (Zr_mono zrM32 (by decide)) (by decide)
noncomputable def sgM34 : gS := gsI sgM33 10 1 101
theorem zrM34 : Zr sgM34 11 := Zr_I (Zr_mono zrM33 (by decide)) (by decide)
noncomputable def sgM35 : gS := gsI sgM34 10 2 105
theorem zrM35 : Zr sgM35 11 := Zr_I (Zr_mono zrM34 (by decide)) (by decide)
noncomputable def sgM36 : gS := gsI sgM35 10 3 103
theorem zrM36 : Zr sgM36 11 := Zr_I (Zr_mono zrM35 (by decide)) (by decide)
noncomputable def sgM37 : gS := gsI sgM36 10 4 104
theorem zrM37 : Zr sgM37 11 := Zr_I (Zr_mono zrM36 (by decide)) (by decide)
noncomputable def sgM38 : gS := gsI sgM37 10 5 116
theorem zrM38 : Zr sgM38 11 := Zr_I (Zr_mono zrM37 (by decide)) (by decide)
theorem atM20_0 : hsM20[0]? = some (3, 10, 0, [4, 0, 0, 0, 0, 0, 0, 0, 0, 5, 6, 7, 8, 9, 10, 11, 12, 2, 2, 2, 2, 0, 2, 2, 2, 2, 2, 2, 2, 2, 2, 2, 2, 2, 0, 2, 0, 2, 2, 2, 1, 0, 2, 0, 2, 2, 2, 2, 2, 2, 2, 2, 0, 2, 1, 2, 0]) := by decide +kernel
noncomputable def hsM21 : List gC := hsM20.set 0 (3, 10, 0, [4, 0, 0, 0, 0, 0, 0, 0, 0, 5, 6, 7, 8, 9, 10, 11, 12, 13, 2, 2, 2, 0, 2, 2, 2, 2, 2, 2, 2, 2, 2, 2, 2, 2, 0, 2, 0, 2, 2, 2, 1, 0, 2, 0, 2, 2, 2, 2, 2, 2, 2, 2, 0, 2, 1, 2, 0])
noncomputable def hsM22 : List gC := hsM21 ++ [(0, 1, 7, [])]
theorem atM22_11 : hsM22[11]? = some (0, 1, 7, []) := by decide +kernel
noncomputable def sgM39 : gS := gsI sgM38 11 0 99
theorem zrM39 : Zr sgM39 12 := Zr_I (Zr_mono zrM38 (by decide)) (by decide)
noncomputable def sgM40 : gS := gsI sgM39 11 1 111
theorem zrM40 : Zr sgM40 12 := Zr_I (Zr_mono zrM39 (by decide)) (by decide)
noncomputable def sgM41 : gS := gsI sgM40 11 2 110
theorem zrM41 : Zr sgM41 12 := Zr_I (Zr_mono zrM40 (by decide)) (by decide)
noncomputable def sgM42 : gS := gsI sgM41 11 3 116
theorem zrM42 : Zr sgM42 12 := Zr_I (Zr_mono zrM41 (by decide)) (by decide)
noncomputable def sgM43 : gS := gsI sgM42 11 4 114
theorem zrM43 : Zr sgM43 12 := Zr_I (Zr_mono zrM42 (by decide)) (by decide)
noncomputable def sgM44 : gS := gsI sgM43 11 5 111
theorem zrM44 : Zr sgM44 12 := Zr_I (Zr_mono zrM43 (by decide)) (by decide)
noncomputable def sgM45 : gS := gsI sgM44 11 6 108
theorem zrM45 : Zr sgM45 12 := Zr_I (Zr_mono zrM44 (by decide)) (by decide)
theorem atM22_0 : hsM22[0]? = some (3, 10, 0, [4, 0, 0, 0, 0, 0, 0, 0, 0, 5, 6, 7, 8, 9, 10, 11, 12, 13, 2, 2, 2, 0, 2, 2, 2, 2, 2, 2, 2, 2, 2, 2, 2, 2, 0, 2, 0, 2, 2, 2, 1, 0, 2, 0, 2, 2, 2, 2, 2, 2, 2, 2, 0, 2, 1, 2, 0]) := by decide +kernel
noncomputable def hsM23 : List gC := hsM22.set 0 (3, 10, 0, [4, 0, 0, 0, 0, 0, 0, 0, 0, 5, 6, 7, 8, 9, 10, 11, 12, 13, 14, 2, 2, 0, 2, 2, 2, 2, 2, 2, 2, 2, 2, 2, 2, 2, 0, 2, 0, 2, 2, 2, 1, 0, 2, 0, 2, 2, 2, 2, 2, 2, 2, 2, 0, 2, 1, 2, 0])
noncomputable def hsM24 : List gC := hsM23 ++ [(0, 1, 3, [])]
theorem atM24_12 : hsM24[12]? = some (0, 1, 3, []) := by decide +kernel
noncomputable def sgM46 : gS := gsI sgM45 12 0 115
theorem zrM46 : Zr sgM46 13 := Zr_I (Zr_mono zrM45 (by decide)) (by decide)
noncomputable def sgM47 : gS := gsI sgM46 12 1 101
theorem zrM47 : Zr sgM47 13 := Zr_I (Zr_mono zrM46 (by decide)) (by decide)
noncomputable def sgM48 : gS := gsI sgM47 12 2 116
theorem zrM48 : Zr sgM48 13 := Zr_I (Zr_mono zrM47 (by decide)) (by decide)
theorem atM24_0 : hsM24[0]? = some (3, 10, 0, [4, 0, 0, 0, 0, 0, 0, 0, 0, 5, 6, 7, 8, 9, 10, 11, 12, 13, 14, 2, 2, 0, 2, 2, 2, 2, 2, 2, 2, 2, 2, 2, 2, 2, 0, 2, 0, 2, 2, 2, 1, 0, 2, 0, 2, 2, 2, 2, 2, 2, 2, 2, 0, 2, 1, 2, 0]) := by decide +kernel
noncomputable def hsM25 : List gC := hsM24.set 0 (3, 10, 0, [4, 0, 0, 0, 0, 0, 0, 0, 0, 5, 6, 7, 8, 9, 10, 11, 12, 13, 14, 15, 2, 0, 2, 2, 2, 2, 2, 2, 2, 2, 2, 2, 2, 2, 0, 2, 0, 2, 2, 2, 1, 0, 2, 0, 2, 2, 2, 2, 2, 2, 2, 2, 0, 2, 1, 2, 0])
noncomputable def hsM26 : List gC := hsM25 ++ [(0, 1, 6, [])]
theorem atM26_13 : hsM26[13]? = some (0, 1, 6, []) := by decide +kernel
noncomputable def sgM49 : gS := gsI sgM48 13 0 99
theorem zrM49 : Zr sgM49 14 := Zr_I (Zr_mono zrM48 (by decide)) (by decide)
noncomputable def sgM50 : gS := gsI sgM49 13 1 101
theorem zrM50 : Zr sgM50 14 := Zr_I (Zr_mono zrM49 (by decide)) (by decide)
noncomputable def sgM51 : gS := gsI sgM50 13 2 110
theorem zrM51 : Zr sgM51 14 := Zr_I (Zr_mono zrM50 (by decide)) (by decide)
noncomputable def sgM52 : gS := gsI sgM51 13 3 116
theorem zrM52 : Zr sgM52 14 := Zr_I (Zr_mono zrM51 (by decide)) (by decide)
noncomputable def sgM53 : gS := gsI sgM52 13 4 114
theorem zrM53 : Zr sgM53 14 := Zr_I (Zr_mono zrM52 (by decide)) (by decide)
noncomputable def sgM54 : gS := gsI sgM53 13 5 101
theorem zrM54 : Zr sgM54 14 := Zr_I (Zr_mono zrM53 (by decide)) (by decide)
theorem atM26_0 : hsM26[0]? = some (3, 10, 0, [4, 0, 0, 0, 0, 0, 0, 0, 0, 5, 6, 7, 8, 9, 10, 11, 12, 13, 14, 15, 2, 0, 2, 2, 2, 2, 2, 2, 2, 2, 2, 2, 2, 2, 0, 2, 0, 2, 2, 2, 1, 0, 2, 0, 2, 2, 2, 2, 2, 2, 2, 2, 0, 2, 1, 2, 0]) := by decide +kernel
noncomputable def hsM27 : List gC := hsM26.set 0 (3, 10, 0, [4, 0, 0, 0, 0, 0, 0, 0, 0, 5, 6, 7, 8, 9, 10, 11, 12, 13, 14, 15, 16, 0, 2, 2, 2, 2, 2, 2, 2, 2, 2, 2, 2, 2, 0, 2, 0, 2, 2, 2, 1, 0, 2, 0, 2, 2, 2, 2, 2, 2, 2, 2, 0, 2, 1, 2, 0])
noncomputable def hsM28 : List gC := hsM27 ++ [(1, 2, 120, [])]
theorem atM28_0 : hsM28[0]? = some (3, 10, 0, [4, 0, 0, 0, 0, 0, 0, 0, 0, 5, 6, 7, 8, 9, 10, 11, 12, 13, 14, 15, 16, 0, 2, 2, 2, 2, 2, 2, 2, 2, 2, 2, 2, 2, 0, 2, 0, 2, 2, 2, 1, 0, 2, 0, 2, 2, 2, 2, 2, 2, 2, 2, 0, 2, 1, 2, 0]) := by decide +kernel
noncomputable def hsM29 : List gC := hsM28.set 0 (3, 10, 0, [4, 0, 0, 0, 0, 0, 0, 0, 0, 5, 6, 7, 8, 9, 10, 11, 12, 13, 14, 15, 16, 0, 17, 2, 2, 2, 2, 2, 2, 2, 2, 2, 2, 2, 0, 2, 0, 2, 2, 2, 1, 0, 2, 0, 2, 2, 2, 2, 2, 2, 2, 2, 0, 2, 1, 2, 0])
noncomputable def hsM30 : List gC := hsM29 ++ [(0, 0, 12, [])]
theorem atM30_0 : hsM30[0]? = some (3, 10, 0, [4, 0, 0, 0, 0, 0, 0, 0, 0, 5, 6, 7, 8, 9, 10, 11, 12, 13, 14, 15, 16, 0, 17, 2, 2, 2, 2, 2, 2, 2, 2, 2, 2, 2, 0, 2, 0, 2, 2, 2, 1, 0, 2, 0, 2, 2, 2, 2, 2, 2, 2, 2, 0, 2, 1, 2, 0]) := by decide +kernel
noncomputable def hsM31 : List gC := hsM30.set 0 (3, 10, 0, [4, 0, 0, 0, 0, 0, 0, 0, 0, 5, 6, 7, 8, 9, 10, 11, 12, 13, 14, 15, 16, 0, 17, 18, 2, 2, 2, 2, 2, 2, 2, 2, 2, 2, 0, 2, 0, 2, 2, 2, 1, 0, 2, 0, 2, 2, 2, 2, 2, 2, 2, 2, 0, 2, 1, 2, 0])
noncomputable def hsM32 : List gC := hsM31 ++ [(0, 0, 24, [])]
theorem atM32_0 : hsM32[0]? = some (3, 10, 0, [4, 0, 0, 0, 0, 0, 0, 0, 0, 5, 6, 7, 8, 9, 10, 11, 12, 13, 14, 15, 16, 0, 17, 18, 2, 2, 2, 2, 2, 2, 2, 2, 2, 2, 0, 2, 0, 2, 2, 2, 1, 0, 2, 0, 2, 2, 2, 2, 2, 2, 2, 2, 0, 2, 1, 2, 0]) := by decide +kernel
noncomputable def hsM33 : List gC := hsM32.set 0 (3, 10, 0, [4, 0, 0, 0, 0, 0, 0, 0, 0, 5, 6, 7, 8, 9, 10, 11, 12, 13, 14, 15, 16, 0, 17, 18, 19, 2, 2, 2, 2, 2, 2, 2, 2, 2, 0, 2, 0, 2, 2, 2, 1, 0, 2, 0, 2, 2, 2, 2, 2, 2, 2, 2, 0, 2, 1, 2, 0])
noncomputable def hsM34 : List gC := hsM33 ++ [(0, 0, 24, [])]
theorem atM34_0 : hsM34[0]? = some (3, 10, 0, [4, 0, 0, 0, 0, 0, 0, 0, 0, 5, 6, 7, 8, 9, 10, 11, 12, 13, 14, 15, 16, 0, 17, 18, 19, 2, 2, 2, 2, 2, 2, 2, 2, 2, 0, 2, 0, 2, 2, 2, 1, 0, 2, 0, 2, 2, 2, 2, 2, 2, 2, 2, 0, 2, 1, 2, 0]) := by decide +kernel
noncomputable def hsM35 : List gC := hsM34.set 0 (3, 10, 0, [4, 0, 0, 0, 0, 0, 0, 0, 0, 5, 6, 7, 8, 9, 10, 11, 12, 13, 14, 15, 16, 0, 17, 18, 19, 20, 2, 2, 2, 2, 2, 2, 2, 2, 0, 2, 0, 2, 2, 2, 1, 0, 2, 0, 2, 2, 2, 2, 2, 2, 2, 2, 0, 2, 1, 2, 0])
noncomputable def hsM36 : List gC := hsM35 ++ [(0, 0, 24, [])]
theorem atM36_0 : hsM36[0]? = some (3, 10, 0, [4, 0, 0, 0, 0, 0, 0, 0, 0, 5, 6, 7, 8, 9, 10, 11, 12, 13, 14, 15, 16, 0, 17, 18, 19, 20, 2, 2, 2, 2, 2, 2, 2, 2, 0, 2, 0, 2, 2, 2, 1, 0, 2, 0, 2, 2, 2, 2, 2, 2, 2, 2, 0, 2, 1, 2, 0]) := by decide +kernel
noncomputable def hsM37 : List gC := hsM36.set 0 (3, 10, 0, [4, 0, 0, 0, 0, 0, 0, 0, 0, 5, 6, 7, 8, 9, 10, 11, 12, 13, 14, 15, 16, 0, 17, 18, 19, 20, 21, 2, 2, 2, 2, 2, 2, 2, 0, 2, 0, 2, 2, 2, 1, 0, 2, 0, 2, 2, 2, 2, 2, 2, 2, 2, 0, 2, 1, 2, 0])
noncomputable def hsM38 : List gC := hsM37 ++ [(0, 0, 48, [])]
theorem atM38_0 : hsM38[0]? = some (3, 10, 0, [4, 0, 0, 0, 0, 0, 0, 0, 0, 5, 6, 7, 8, 9, 10, 11, 12, 13, 14, 15, 16, 0, 17, 18, 19, 20, 21, 2, 2, 2, 2, 2, 2, 2, 0, 2, 0, 2, 2, 2, 1, 0, 2, 0, 2, 2, 2, 2, 2, 2, 2, 2, 0, 2, 1, 2, 0]) := by decide +kernel
noncomputable def hsM39 : List gC := hsM38.set 0 (3, 10, 0, [4, 0, 0, 0, 0, 0, 0, 0, 0, 5, 6, 7, 8, 9, 10, 11, 12, 13, 14, 15, 16, 0, 17, 18, 19, 20, 21, 22, 2, 2, 2, 2, 2, 2, 0, 2, 0, 2, 2, 2, 1, 0, 2, 0, 2, 2, 2, 2, 2, 2, 2, 2, 0, 2, 1, 2, 0])
noncomputable def hsM40 : List gC := hsM39 ++ [(0, 0, 40, [])]
theorem atM40_0 : hsM40[0]? = some (3, 10, 0, [4, 0, 0, 0, 0, 0, 0, 0, 0, 5, 6, 7, 8, 9, 10, 11, 12, 13, 14, 15, 16, 0, 17, 18, 19, 20, 21, 22, 2, 2, 2, 2, 2, 2, 0, 2, 0, 2, 2, 2, 1, 0, 2, 0, 2, 2, 2, 2, 2, 2, 2, 2, 0, 2, 1, 2, 0]) := by decide +kernel
noncomputable def hsM41 : List gC := hsM40.set 0 (3, 10, 0, [4, 0, 0, 0, 0, 0, 0, 0, 0, 5, 6, 7, 8, 9, 10, 11, 12, 13, 14, 15, 16, 0, 17, 18, 19, 20, 21, 22, 23, 2, 2, 2, 2, 2, 0, 2, 0, 2, 2, 2, 1, 0, 2, 0, 2, 2, 2, 2, 2, 2, 2, 2, 0, 2, 1, 2, 0])
noncomputable def hsM42 : List gC := hsM41 ++ [(0, 0, 80, [])]
theorem atM42_0 : hsM42[0]? = some (3, 10, 0, [4, 0, 0, 0, 0, 0, 0, 0, 0, 5, 6, 7, 8, 9, 10, 11, 12, 13, 14, 15, 16, 0, 17, 18, 19, 20, 21, 22, 23, 2, 2, 2, 2, 2, 0, 2, 0, 2, 2, 2, 1, 0, 2, 0, 2, 2, 2, 2, 2, 2, 2, 2, 0, 2, 1, 2, 0]) := by decide +kernel
noncomputable def hsM43 : List gC := hsM42.set 0 (3, 10, 0, [4, 0, 0, 0, 0, 0, 0, 0, 0, 5, 6, 7, 8, 9, 10, 11, 12, 13, 14, 15, 16, 0, 17, 18, 19, 20, 21, 22, 23, 24, 2, 2, 2, 2, 0, 2, 0, 2, 2, 2, 1, 0, 2, 0, 2, 2, 2, 2, 2, 2, 2, 2, 0, 2, 1, 2, 0])
noncomputable def hsM44 : List gC := hsM43 ++ [(0, 0, 120, [])]
theorem atM44_0 : hsM44[0]? = some (3, 10, 0, [4, 0, 0, 0, 0, 0, 0, 0, 0, 5, 6, 7, 8, 9, 10, 11, 12, 13, 14, 15, 16, 0, 17, 18, 19, 20, 21, 22, 23, 24, 2, 2, 2, 2, 0, 2, 0, 2, 2, 2, 1, 0, 2, 0, 2, 2, 2, 2, 2, 2, 2, 2, 0, 2, 1, 2, 0]) := by decide +kernel
noncomputable def hsM45 : List gC := hsM44.set 0 (3, 10, 0, [4, 0, 0, 0, 0, 0, 0, 0, 0, 5, 6, 7, 8, 9, 10, 11, 12, 13, 14, 15, 16, 0, 17, 18, 19, 20, 21, 22, 23, 24, 25, 2, 2, 2, 0, 2, 0, 2, 2, 2, 1, 0, 2, 0, 2, 2, 2, 2, 2, 2, 2, 2, 0, 2, 1, 2, 0])
noncomputable def hsM46 : List gC := hsM45 ++ [(0, 0, 120, [])]
theorem atM46_0 : hsM46[0]? = some (3, 10, 0, [4, 0, 0, 0, 0, 0, 0, 0, 0, 5, 6, 7, 8, 9, 10, 11, 12, 13, 14, 15, 16, 0, 17, 18, 19, 20, 21, 22, 23, 24, 25, 2, 2, 2, 0, 2, 0, 2, 2, 2, 1, 0, 2, 0, 2, 2, 2, 2, 2, 2, 2, 2, 0, 2, 1, 2, 0]) := by decide +kernel
noncomputable def hsM47 : List gC := hsM46.set 0 (3, 10, 0, [4, 0, 0, 0, 0, 0, 0, 0, 0, 5, 6, 7, 8, 9, 10, 11, 12, 13, 14, 15, 16, 0, 17, 18, 19, 20, 21, 22, 23, 24, 25, 26, 2, 2, 0, 2, 0, 2, 2, 2, 1, 0, 2, 0, 2, 2, 2, 2, 2, 2, 2, 2, 0, 2, 1, 2, 0])
noncomputable def hsM48 : List gC := hsM47 ++ [(0, 0, 240, [])]
theorem atM48_0 : hsM48[0]? = some (3, 10, 0, [4, 0, 0, 0, 0, 0, 0, 0, 0, 5, 6, 7, 8, 9, 10, 11, 12, 13, 14, 15, 16, 0, 17, 18, 19, 20, 21, 22, 23, 24, 25, 26, 2, 2, 0, 2, 0, 2, 2, 2, 1, 0, 2, 0, 2, 2, 2, 2, 2, 2, 2, 2, 0, 2, 1, 2, 0]) := by decide +kernel
noncomputable def hsM49 : List gC := hsM48.set 0 (3, 10, 0, [4, 0, 0, 0, 0, 0, 0, 0, 0, 5, 6, 7, 8, 9, 10, 11, 12, 13, 14, 15, 16, 0, 17, 18, 19, 20, 21, 22, 23, 24, 25, 26, 27, 2, 0, 2, 0, 2, 2, 2, 1, 0, 2, 0, 2, 2, 2, 2, 2, 2, 2, 2, 0, 2, 1, 2, 0])
noncomputable def hsM50 : List gC := hsM49 ++ [(0, 0, 120, [])]
theorem atM50_0 : hsM50[0]? = some (3, 10, 0, [4, 0, 0, 0, 0, 0, 0, 0, 0, 5, 6, 7, 8, 9, 10, 11, 12, 13, 14, 15, 16, 0, 17, 18, 19, 20, 21, 22, 23, 24, 25, 26, 27, 2, 0, 2, 0, 2, 2, 2, 1, 0, 2, 0, 2, 2, 2, 2, 2, 2, 2, 2, 0, 2, 1, 2, 0]) := by decide +kernel
noncomputable def hsM51 : List gC := hsM50.set 0 (3, 10, 0, [4, 0, 0, 0, 0, 0, 0, 0, 0, 5, 6, 7, 8, 9, 10, 11, 12, 13, 14, 15, 16, 0, 17, 18, 19, 20, 21, 22, 23, 24, 25, 26, 27, 28, 0, 2, 0, 2, 2, 2, 1, 0, 2, 0, 2, 2, 2, 2, 2, 2, 2, 2, 0, 2, 1, 2, 0])
noncomputable def hsM52 : List gC := hsM51 ++ [(0, 3, 60, [])]
theorem atM52_0 : hsM52[0]? = some (3, 10, 0, [4, 0, 0, 0, 0, 0, 0, 0, 0, 5, 6, 7, 8, 9, 10, 11, 12, 13, 14, 15, 16, 0, 17, 18, 19, 20, 21, 22, 23, 24, 25, 26, 27, 28, 0, 2, 0, 2, 2, 2, 1, 0, 2, 0, 2, 2, 2, 2, 2, 2, 2, 2, 0, 2, 1, 2, 0]) := by decide +kernel
noncomputable def hsM53 : List gC := hsM52.set 0 (3, 10, 0, [4, 0, 0, 0, 0, 0, 0, 0, 0, 5, 6, 7, 8, 9, 10, 11, 12, 13, 14, 15, 16, 0, 17, 18, 19, 20, 21, 22, 23, 24, 25, 26, 27, 28, 0, 29, 0, 2, 2, 2, 1, 0, 2, 0, 2, 2, 2, 2, 2, 2, 2, 2, 0, 2, 1, 2, 0])
theorem atM53_0 : hsM53[0]? = some (3, 10, 0, [4, 0, 0, 0, 0, 0, 0, 0, 0, 5, 6, 7, 8, 9, 10, 11, 12, 13, 14, 15, 16, 0, 17, 18, 19, 20, 21, 22, 23, 24, 25, 26, 27, 28, 0, 29, 0, 2, 2, 2, 1, 0, 2, 0, 2, 2, 2, 2, 2, 2, 2, 2, 0, 2, 1, 2, 0]) := by decide +kernel
noncomputable def sgM55 : gS := gsI sgM54 0 36 3
theorem zrM55 : Zr sgM55 27 := Zr_I (Zr_mono zrM54 (by decide)) (by decide)
noncomputable def hsM54 : List gC := hsM53 ++ [(0, 0, 12, [])]
theorem atM54_0 : hsM54[0]? = some (3, 10, 0, [4, 0, 0, 0, 0, 0, 0, 0, 0, 5, 6, 7, 8, 9, 10, 11, 12, 13, 14, 15, 16, 0, 17, 18, 19, 20, 21, 22, 23, 24, 25, 26, 27, 28, 0, 29, 0, 2, 2, 2, 1, 0, 2, 0, 2, 2, 2, 2, 2, 2, 2, 2, 0, 2, 1, 2, 0]) := by decide +kernel
noncomputable def hsM55 : List gC := hsM54.set 0 (3, 10, 0, [4, 0, 0, 0, 0, 0, 0, 0, 0, 5, 6, 7, 8, 9, 10, 11, 12, 13, 14, 15, 16, 0, 17, 18, 19, 20, 21, 22, 23, 24, 25, 26, 27, 28, 0, 29, 0, 30, 2, 2, 1, 0, 2, 0, 2, 2, 2, 2, 2, 2, 2, 2, 0, 2, 1, 2, 0])
noncomputable def hsM56 : List gC := hsM55 ++ [(0, 0, 76, [])]
theorem atM56_0 : hsM56[0]? = some (3, 10, 0, [4, 0, 0, 0, 0, 0, 0, 0, 0, 5, 6, 7, 8, 9, 10, 11, 12, 13, 14, 15, 16, 0, 17, 18, 19, 20, 21, 22, 23, 24, 25, 26, 27, 28, 0, 29, 0, 30, 2, 2, 1, 0, 2, 0, 2, 2, 2, 2, 2, 2, 2, 2, 0, 2, 1, 2, 0]) := by decide +kernel
noncomputable def hsM57 : List gC := hsM56.set 0 (3, 10, 0, [4, 0, 0, 0, 0, 0, 0, 0, 0, 5, 6, 7, 8, 9, 10, 11, 12, 13, 14, 15, 16, 0, 17, 18, 19, 20, 21, 22, 23, 24, 25, 26, 27, 28, 0, 29, 0, 30, 31, 2, 1, 0, 2, 0, 2, 2, 2, 2, 2, 2, 2, 2, 0, 2, 1, 2, 0])
noncomputable def hsM58 : List gC := hsM57 ++ [(0, 3, 12, [])]
theorem atM58_0 : hsM58[0]? = some (3, 10, 0, [4, 0, 0, 0, 0, 0, 0, 0, 0, 5, 6, 7, 8, 9, 10, 11, 12, 13, 14, 15, 16, 0, 17, 18, 19, 20, 21, 22, 23, 24, 25, 26, 27, 28, 0, 29, 0, 30, 31, 2, 1, 0, 2, 0, 2, 2, 2, 2, 2, 2, 2, 2, 0, 2, 1, 2, 0]) := by decide +kernel
noncomputable def hsM59 : List gC := hsM58.set 0 (3, 10, 0, [4, 0, 0, 0, 0, 0, 0, 0, 0, 5, 6, 7, 8, 9, 10, 11, 12, 13, 14, 15, 16, 0, 17, 18, 19, 20, 21, 22, 23, 24, 25, 26, 27, 28, 0, 29, 0, 30, 31, 32, 1, 0, 2, 0, 2, 2, 2, 2, 2, 2, 2, 2, 0, 2, 1, 2, 0])
noncomputable def hsM60 : List gC := hsM59 ++ [(0, 0, 38, [])]
theorem atM60_0 : hsM60[0]? = some (3, 10, 0, [4, 0, 0, 0, 0, 0, 0, 0, 0, 5, 6, 7, 8, 9, 10, 11, 12, 13, 14, 15, 16, 0, 17, 18, 19, 20, 21, 22, 23, 24, 25, 26, 27, 28, 0, 29, 0, 30, 31, 32, 1, 0, 2, 0, 2, 2, 2, 2, 2, 2, 2, 2, 0, 2, 1, 2, 0]) := by decide +kernel
noncomputable def hsM61 : List gC := hsM60.set 0 (3, 10, 0, [4, 0, 0, 0, 0, 0, 0, 0, 0, 5, 6, 7, 8, 9, 10, 11, 12, 13, 14, 15, 16, 0, 17, 18, 19, 20, 21, 22, 23, 24, 25, 26, 27, 28, 0, 29, 0, 30, 31, 32, 1, 0, 33, 0, 2, 2, 2, 2, 2, 2, 2, 2, 0, 2, 1, 2, 0])
noncomputable def hsM62 : List gC := hsM61 ++ [(1, 2, 1520, [])]
theorem atM62_0 : hsM62[0]? = some (3, 10, 0, [4, 0, 0, 0, 0, 0, 0, 0, 0, 5, 6, 7, 8, 9, 10, 11, 12, 13, 14, 15, 16, 0, 17, 18, 19, 20, 21, 22, 23, 24, 25, 26, 27, 28, 0, 29, 0, 30, 31, 32, 1, 0, 33, 0, 2, 2, 2, 2, 2, 2, 2, 2, 0, 2, 1, 2, 0]) := by decide +kernel
noncomputable def hsM63 : List gC := hsM62.set 0 (3, 10, 0, [4, 0, 0, 0, 0, 0, 0, 0, 0, 5, 6, 7, 8, 9, 10, 11, 12, 13, 14, 15, 16, 0, 17, 18, 19, 20, 21, 22, 23, 24, 25, 26, 27, 28, 0, 29, 0, 30, 31, 32, 1, 0, 33, 0, 34, 2, 2, 2, 2, 2, 2, 2, 0, 2, 1, 2, 0])
noncomputable def hsM64 : List gC := hsM63 ++ [(0, 0, 32, [])]
theorem atM64_0 : hsM64[0]? = some (3, 10, 0, [4, 0, 0, 0, 0, 0, 0, 0, 0, 5, 6, 7, 8, 9, 10, 11, 12, 13, 14, 15, 16, 0, 17, 18, 19, 20, 21, 22, 23, 24, 25, 26, 27, 28, 0, 29, 0, 30, 31, 32, 1, 0, 33, 0, 34, 2, 2, 2, 2, 2, 2, 2, 0, 2, 1, 2, 0]) := by decide +kernel
noncomputable def hsM65 : List gC := hsM64.set 0 (3, 10, 0, [4, 0, 0, 0, 0, 0, 0, 0, 0, 5, 6, 7, 8, 9, 10, 11, 12, 13, 14, 15, 16, 0, 17, 18, 19, 20, 21, 22, 23, 24, 25, 26, 27, 28, 0, 29, 0, 30, 31, 32, 1, 0, 33, 0, 34, 35, 2, 2, 2, 2, 2, 2, 0, 2, 1, 2, 0])
noncomputable def hsM66 : List gC := hsM65 ++ [(0, 3, 60, [])]
theorem atM66_0 : hsM66[0]? = some (3, 10, 0, [4, 0, 0, 0, 0, 0, 0, 0, 0, 5, 6, 7, 8, 9, 10, 11, 12, 13, 14, 15, 16, 0, 17, 18, 19, 20, 21, 22, 23, 24, 25, 26, 27, 28, 0, 29, 0, 30, 31, 32, 1, 0, 33, 0, 34, 35, 2, 2, 2, 2, 2, 2, 0, 2, 1, 2, 0]) := by decide +kernel
noncomputable def hsM67 : List gC := hsM66.set 0 (3, 10, 0, [4, 0, 0, 0, 0, 0, 0, 0, 0, 5, 6, 7, 8, 9, 10, 11, 12, 13, 14, 15, 16, 0, 17, 18, 19, 20, 21, 22, 23, 24, 25, 26, 27, 28, 0, 29, 0, 30, 31, 32, 1, 0, 33, 0, 34, 35, 36, 2, 2, 2, 2, 2, 0, 2, 1, 2, 0])
noncomputable def hsM68 : List gC := hsM67 ++ [(0, 0, 12, [])]
theorem atM68_0 : hsM68[0]? = some (3, 10, 0, [4, 0, 0, 0, 0, 0, 0, 0, 0, 5, 6, 7, 8, 9, 10, 11, 12, 13, 14, 15, 16, 0, 17, 18, 19, 20, 21, 22, 23, 24, 25, 26, 27, 28, 0, 29, 0, 30, 31, 32, 1, 0, 33, 0, 34, 35, 36, 2, 2, 2, 2, 2, 0, 2, 1, 2, 0]) := by decide +kernel
noncomputable def hsM69 : List gC := hsM68.set 0 (3, 10, 0, [4, 0, 0, 0, 0, 0, 0, 0, 0, 5, 6, 7, 8, 9, 10, 11, 12, 13, 14, 15, 16, 0, 17, 18, 19, 20, 21, 22, 23, 24, 25, 26, 27, 28, 0, 29, 0, 30, 31, 32, 1, 0, 33, 0, 34, 35, 36, 37, 2, 2, 2, 2, 0, 2, 1, 2, 0])
noncomputable def hsM70 : List gC := hsM69 ++ [(0, 0, 12, [])]
theorem atM70_0 : hsM70[0]? = some (3, 10, 0, [4, 0, 0, 0, 0, 0, 0, 0, 0, 5, 6, 7, 8, 9, 10, 11, 12, 13, 14, 15, 16, 0, 17, 18, 19, 20, 21, 22, 23, 24, 25, 26, 27, 28, 0, 29, 0, 30, 31, 32, 1, 0, 33, 0, 34, 35, 36, 37, 2, 2, 2, 2, 0, 2, 1, 2, 0]) := by decide +kernel
noncomputable def hsM71 : List gC := hsM70.set 0 (3, 10, 0, [4, 0, 0, 0, 0, 0, 0, 0, 0, 5, 6, 7, 8, 9, 10, 11, 12, 13, 14, 15, 16, 0, 17, 18, 19, 20, 21, 22, 23, 24, 25, 26, 27, 28, 0, 29, 0, 30, 31, 32, 1, 0, 33, 0, 34, 35, 36, 37, 38, 2, 2, 2, 0, 2, 1, 2, 0])
noncomputable def hsM72 : List gC := hsM71 ++ [(0, 3, 60, [])]
theorem atM72_0 : hsM72[0]? = some (3, 10, 0, [4, 0, 0, 0, 0, 0, 0, 0, 0, 5, 6, 7, 8, 9, 10, 11, 12, 13, 14, 15, 16, 0, 17, 18, 19, 20, 21, 22, 23, 24, 25, 26, 27, 28, 0, 29, 0, 30, 31, 32, 1, 0, 33, 0, 34, 35, 36, 37, 38, 2, 2, 2, 0, 2, 1, 2, 0]) := by decide +kernel
noncomputable def hsM73 : List gC := hsM72.set 0 (3, 10, 0, [4, 0, 0, 0, 0, 0, 0, 0, 0, 5, 6, 7, 8, 9, 10, 11, 12, 13, 14, 15, 16, 0, 17, 18, 19, 20, 21, 22, 23, 24, 25, 26, 27, 28, 0, 29, 0, 30, 31, 32, 1, 0, 33, 0, 34, 35, 36, 37, 38, 39, 2, 2, 0, 2, 1, 2, 0])
noncomputable def hsM74 : List gC := hsM73 ++ [(0, 0, 76, [])]
theorem atM74_0 : hsM74[0]? = some (3, 10, 0, [4, 0, 0, 0, 0, 0, 0, 0, 0, 5, 6, 7, 8, 9, 10, 11, 12, 13, 14, 15, 16, 0, 17, 18, 19, 20, 21, 22, 23, 24, 25, 26, 27, 28, 0, 29, 0, 30, 31, 32, 1, 0, 33, 0, 34, 35, 36, 37, 38, 39, 2, 2, 0, 2, 1, 2, 0]) := by decide +kernel
noncomputable def hsM75 : List gC := hsM74.set 0 (3, 10, 0, [4, 0, 0, 0, 0, 0, 0, 0, 0, 5, 6, 7, 8, 9, 10, 11, 12, 13, 14, 15, 16, 0, 17, 18, 19, 20, 21, 22, 23, 24, 25, 26, 27, 28, 0, 29, 0, 30, 31, 32, 1, 0, 33, 0, 34, 35, 36, 37, 38, 39, 40, 2, 0, 2, 1, 2, 0])
noncomputable def hsM76 : List gC := hsM75 ++ [(0, 0, 12, [])]
theorem atM76_0 : hsM76[0]? = some (3, 10, 0, [4, 0, 0, 0, 0, 0, 0, 0, 0, 5, 6, 7, 8, 9, 10, 11, 12, 13, 14, 15, 16, 0, 17, 18, 19, 20, 21, 22, 23, 24, 25, 26, 27, 28, 0, 29, 0, 30, 31, 32, 1, 0, 33, 0, 34, 35, 36, 37, 38, 39, 40, 2, 0, 2, 1, 2, 0]) := by decide +kernel
noncomputable def hsM77 : List gC := hsM76.set 0 (3, 10, 0, [4, 0, 0, 0, 0, 0, 0, 0, 0, 5, 6, 7, 8, 9, 10, 11, 12, 13, 14, 15, 16, 0, 17, 18, 19, 20, 21, 22, 23, 24, 25, 26, 27, 28, 0, 29, 0, 30, 31, 32, 1, 0, 33, 0, 34, 35, 36, 37, 38, 39, 40, 41, 0, 2, 1, 2, 0])
noncomputable def hsM78 : List gC := hsM77 ++ [(0, 0, 24, [])]
theorem atM78_0 : hsM78[0]? = some (3, 10, 0, [4, 0, 0, 0, 0, 0, 0, 0, 0, 5, 6, 7, 8, 9, 10, 11, 12, 13, 14, 15, 16, 0, 17, 18, 19, 20, 21, 22, 23, 24, 25, 26, 27, 28, 0, 29, 0, 30, 31, 32, 1, 0, 33, 0, 34, 35, 36, 37, 38, 39, 40, 41, 0, 2, 1, 2, 0]) := by decide +kernel
noncomputable def hsM79 : List gC := hsM78.set 0 (3, 10, 0, [4, 0, 0, 0, 0, 0, 0, 0, 0, 5, 6, 7, 8, 9, 10, 11, 12, 13, 14, 15, 16, 0, 17, 18, 19, 20, 21, 22, 23, 24, 25, 26, 27, 28, 0, 29, 0, 30, 31, 32, 1, 0, 33, 0, 34, 35, 36, 37, 38, 39, 40, 41, 0, 42, 1, 2, 0])
noncomputable def hsM80 : List gC := hsM79 ++ [(0, 0, 400, [])]
theorem atM80_0 : hsM80[0]? = some (3, 10, 0, [4, 0, 0, 0, 0, 0, 0, 0, 0, 5, 6, 7, 8, 9, 10, 11, 12, 13, 14, 15, 16, 0, 17, 18, 19, 20, 21, 22, 23, 24, 25, 26, 27, 28, 0, 29, 0, 30, 31, 32, 1, 0, 33, 0, 34, 35, 36, 37, 38, 39, 40, 41, 0, 42, 1, 2, 0]) := by decide +kernel
noncomputable def hsM81 : List gC := hsM80.set 0 (3, 10, 0, [4, 0, 0, 0, 0, 0, 0, 0, 0, 5, 6, 7, 8, 9, 10, 11, 12, 13, 14, 15, 16, 0, 17, 18, 19, 20, 21, 22, 23, 24, 25, 26, 27, 28, 0, 29, 0, 30, 31, 32, 1, 0, 33, 0, 34, 35, 36, 37, 38, 39, 40, 41, 0, 42, 1, 43, 0])
noncomputable abbrev rmIM1 : Room := { frames := 1, cells := 40, slots := 5031, locals := 20 }
set_option maxRecDepth 100000 in
set_option maxHeartbeats 8000000 in
theorem kIM1 (l : Launch) (G : gG) (b0 : Nat) (hb : ∀ k, G.2.1 k = b0 + k) (hT : G.2.2.1.map (fun q => q.2) = zM.2.1) : yC l yX10_init wsX10_init rmIM1 G vwCl b0 [.ref (G.2.1 0)] hsM1 sgM0 hsM81 sgM55 40 5031 := by
  refine yEnter (maxL := 1) (by decide +kernel) rfl rfl hb hT (Nat.le_of_ble_eq_true rfl) rfl (fun M X hl hin => ?_)
  subst hl
  refine yy_aload_n X (j := 0) dX10_init_0 rfl rfl ?_
  refine yy_objInit X (List.mem_of_getElem? (i := 1) rfl) (List.mem_of_getElem? (i := 2) rfl) (List.mem_of_getElem? (i := 3) rfl) dX10_init_1 ⟨Nat.le_of_ble_eq_true rfl, Nat.le_of_ble_eq_true rfl⟩ ?_
  refine yy_aload_n X (j := 0) dX10_init_4 rfl rfl ?_
  refine yy_sipush X (v := 1600) dX10_init_5 (by decide) ?_
  refine yy_newa X (ki := 0) (t := 0) (N := 1600) (n := 1) (atype := .int) (ty := .int) (sh' := hsM2) (cells' := 1) (slots' := 1600) dX10_init_8 rfl (fun C h => by cases h) rfl (List.mem_of_getElem? (i := 4) rfl) (by decide) (by decide) (Nat.le_of_ble_eq_true rfl) (by decide +kernel) (zrM0 _ (Nat.le_of_ble_eq_true rfl)).1 (zrM0 _ (Nat.le_of_ble_eq_true rfl)).2 (Or.inl ⟨rfl, rfl⟩) rfl rfl rfl ⟨Nat.le_of_ble_eq_true rfl, Nat.le_of_ble_eq_true rfl⟩ ?_
  refine yy_putF X hin (ref := "PictureBlockModel") (T := TX10) (k := 0) (j := 0) (ty := tyX10 0) (sh' := hsM3) (σ' := sgM0) dX10_init_10 inX10_init_RX10 tyX10 tyX10_ok nmX10 atM2_0 rfl (by decide) (List.mem_of_getElem? (i := 5) rfl) rfl rfl rfl (tyX10_ok 0 (by decide)) rfl rfl (by decide) (by decide +kernel) (hSet_R (k2 := 1) atM2_0 rfl rfl rfl) ?_
  refine yy_aload_n X (j := 0) dX10_init_13 rfl rfl ?_
  refine yy_iconst X (v := (-1)) dX10_init_14 (by decide) ?_
  refine yy_put X (ref := "PictureBlockModel") (T := TX10) (k := 0) (j := 8) (ty := tyX10 8) (sh' := hsM3) (σ' := sgM1) dX10_init_15 inX10_init_RX10 tyX10 tyX10_ok nmX10 atM3_0 rfl (by decide) (List.mem_of_getElem? (i := 6) rfl) rfl rfl (tyX10_ok 8 (by decide)) rfl rfl (by decide) rfl (hSet_I atM3_0 rfl (-1)) ?_
  refine yy_aload_n X (j := 0) dX10_init_18 rfl rfl ?_
  refine yy_iconst X (v := 5) dX10_init_19 (by decide) ?_
  refine yy_newa X (ki := 0) (t := 1) (N := 5) (n := 2) (atype := .char) (ty := .char) (sh' := hsM4) (cells' := 2) (slots' := 1605) dX10_init_20 rfl (fun C h => by cases h) rfl (List.mem_of_getElem? (i := 7) rfl) (by decide) (by decide) (Nat.le_of_ble_eq_true rfl) (by decide +kernel) (zrM1 _ (Nat.le_of_ble_eq_true rfl)).1 (zrM1 _ (Nat.le_of_ble_eq_true rfl)).2 (Or.inl ⟨rfl, rfl⟩) rfl rfl rfl ⟨Nat.le_of_ble_eq_true rfl, Nat.le_of_ble_eq_true rfl⟩ ?_
  refine yy_dup X rfl dX10_init_22 ?_
  refine yy_iconst X (v := 0) dX10_init_23 (by decide) ?_
  refine yy_bipush X (v := 115) dX10_init_24 (by decide) ?_
  refine yy_cast X (v := 115) (k := 2) (i' := 0) (σ' := sgM2) dX10_init_26 atM4_2 rfl (by decide) (by decide) rfl rfl ?_
  refine yy_dup X rfl dX10_init_27 ?_
  refine yy_iconst X (v := 1) dX10_init_28 (by decide) ?_
  refine yy_bipush X (v := 116) dX10_init_29 (by decide) ?_
  refine yy_cast X (v := 116) (k := 2) (i' := 1) (σ' := sgM3) dX10_init_31 atM4_2 rfl (by decide) (by decide) rfl rfl ?_
  refine yy_dup X rfl dX10_init_32 ?_
  refine yy_iconst X (v := 2) dX10_init_33 (by decide) ?_
  refine yy_bipush X (v := 114) dX10_init_34 (by decide) ?_
  refine yy_cast X (v := 114) (k := 2) (i' := 2) (σ' := sgM4) dX10_init_36 atM4_2 rfl (by decide) (by decide) rfl rfl ?_
  refine yy_dup X rfl dX10_init_37 ?_
  refine yy_iconst X (v := 3) dX10_init_38 (by decide) ?_
  refine yy_bipush X (v := 105) dX10_init_39 (by decide) ?_
  refine yy_cast X (v := 105) (k := 2) (i' := 3) (σ' := sgM5) dX10_init_41 atM4_2 rfl (by decide) (by decide) rfl rfl ?_
  refine yy_dup X rfl dX10_init_42 ?_
  refine yy_iconst X (v := 4) dX10_init_43 (by decide) ?_
  refine yy_bipush X (v := 112) dX10_init_44 (by decide) ?_
  refine yy_cast X (v := 112) (k := 2) (i' := 4) (σ' := sgM6) dX10_init_46 atM4_2 rfl (by decide) (by decide) rfl rfl ?_
  refine yy_putF X hin (ref := "PictureBlockModel") (T := TX10) (k := 0) (j := 9) (ty := tyX10 9) (sh' := hsM5) (σ' := sgM6) dX10_init_47 inX10_init_RX10 tyX10 tyX10_ok nmX10 atM4_0 rfl (by decide) (List.mem_of_getElem? (i := 8) rfl) rfl rfl rfl (tyX10_ok 9 (by decide)) rfl rfl (by decide) (by decide +kernel) (hSet_R (k2 := 2) atM4_0 rfl rfl rfl) ?_
  refine yy_aload_n X (j := 0) dX10_init_50 rfl rfl ?_
  refine yy_bipush X (v := 7) dX10_init_51 (by decide) ?_
  refine yy_newa X (ki := 0) (t := 1) (N := 7) (n := 3) (atype := .char) (ty := .char) (sh' := hsM6) (cells' := 3) (slots' := 1612) dX10_init_53 rfl (fun C h => by cases h) rfl (List.mem_of_getElem? (i := 7) rfl) (by decide) (by decide) (Nat.le_of_ble_eq_true rfl) (by decide +kernel) (zrM6 _ (Nat.le_of_ble_eq_true rfl)).1 (zrM6 _ (Nat.le_of_ble_eq_true rfl)).2 (Or.inl ⟨rfl, rfl⟩) rfl rfl rfl ⟨Nat.le_of_ble_eq_true rfl, Nat.le_of_ble_eq_true rfl⟩ ?_
  refine yy_dup X rfl dX10_init_55 ?_
  refine yy_iconst X (v := 0) dX10_init_56 (by decide) ?_
  refine yy_bipush X (v := 112) dX10_init_57 (by decide) ?_
  refine yy_cast X (v := 112) (k := 3) (i' := 0) (σ' := sgM7) dX10_init_59 atM6_3 rfl (by decide) (by decide) rfl rfl ?_
  refine yy_dup X rfl dX10_init_60 ?_
  refine yy_iconst X (v := 1) dX10_init_61 (by decide) ?_
  refine yy_bipush X (v := 105) dX10_init_62 (by decide) ?_
  refine yy_cast X (v := 105) (k := 3) (i' := 1) (σ' := sgM8) dX10_init_64 atM6_3 rfl (by decide) (by decide) rfl rfl ?_
  refine yy_dup X rfl dX10_init_65 ?_
  refine yy_iconst X (v := 2) dX10_init_66 (by decide) ?_
  refine yy_bipush X (v := 99) dX10_init_67 (by decide) ?_
  refine yy_cast X (v := 99) (k := 3) (i' := 2) (σ' := sgM9) dX10_init_69 atM6_3 rfl (by decide) (by decide) rfl rfl ?_
  refine yy_dup X rfl dX10_init_70 ?_
  refine yy_iconst X (v := 3) dX10_init_71 (by decide) ?_
  refine yy_bipush X (v := 116) dX10_init_72 (by decide) ?_
  refine yy_cast X (v := 116) (k := 3) (i' := 3) (σ' := sgM10) dX10_init_74 atM6_3 rfl (by decide) (by decide) rfl rfl ?_
  refine yy_dup X rfl dX10_init_75 ?_
  refine yy_iconst X (v := 4) dX10_init_76 (by decide) ?_
  refine yy_bipush X (v := 117) dX10_init_77 (by decide) ?_
  refine yy_cast X (v := 117) (k := 3) (i' := 4) (σ' := sgM11) dX10_init_79 atM6_3 rfl (by decide) (by decide) rfl rfl ?_
  refine yy_dup X rfl dX10_init_80 ?_
  refine yy_iconst X (v := 5) dX10_init_81 (by decide) ?_
  refine yy_bipush X (v := 114) dX10_init_82 (by decide) ?_
  refine yy_cast X (v := 114) (k := 3) (i' := 5) (σ' := sgM12) dX10_init_84 atM6_3 rfl (by decide) (by decide) rfl rfl ?_
  refine yy_dup X rfl dX10_init_85 ?_
  refine yy_bipush X (v := 6) dX10_init_86 (by decide) ?_
  refine yy_bipush X (v := 101) dX10_init_88 (by decide) ?_
  refine yy_cast X (v := 101) (k := 3) (i' := 6) (σ' := sgM13) dX10_init_90 atM6_3 rfl (by decide) (by decide) rfl rfl ?_
  refine yy_putF X hin (ref := "PictureBlockModel") (T := TX10) (k := 0) (j := 10) (ty := tyX10 10) (sh' := hsM7) (σ' := sgM13) dX10_init_91 inX10_init_RX10 tyX10 tyX10_ok nmX10 atM6_0 rfl (by decide) (List.mem_of_getElem? (i := 9) rfl) rfl rfl rfl (tyX10_ok 10 (by decide)) rfl rfl (by decide) (by decide +kernel) (hSet_R (k2 := 3) atM6_0 rfl rfl rfl) ?_
  refine yy_aload_n X (j := 0) dX10_init_94 rfl rfl ?_
  refine yy_iconst X (v := 2) dX10_init_95 (by decide) ?_
  refine yy_newa X (ki := 0) (t := 1) (N := 2) (n := 4) (atype := .char) (ty := .char) (sh' := hsM8) (cells' := 4) (slots' := 1614) dX10_init_96 rfl (fun C h => by cases h) rfl (List.mem_of_getElem? (i := 7) rfl) (by decide) (by decide) (Nat.le_of_ble_eq_true rfl) (by decide +kernel) (zrM13 _ (Nat.le_of_ble_eq_true rfl)).1 (zrM13 _ (Nat.le_of_ble_eq_true rfl)).2 (Or.inl ⟨rfl, rfl⟩) rfl rfl rfl ⟨Nat.le_of_ble_eq_true rfl, Nat.le_of_ble_eq_true rfl⟩ ?_
  refine yy_dup X rfl dX10_init_98 ?_
  refine yy_iconst X (v := 0) dX10_init_99 (by decide) ?_
  refine yy_bipush X (v := 105) dX10_init_100 (by decide) ?_
  refine yy_cast X (v := 105) (k := 4) (i' := 0) (σ' := sgM14) dX10_init_102 atM8_4 rfl (by decide) (by decide) rfl rfl ?_
  refine yy_dup X rfl dX10_init_103 ?_
  refine yy_iconst X (v := 1) dX10_init_104 (by decide) ?_
  refine yy_bipush X (v := 110) dX10_init_105 (by decide) ?_
  refine yy_cast X (v := 110) (k := 4) (i' := 1) (σ' := sgM15) dX10_init_107 atM8_4 rfl (by decide) (by decide) rfl rfl ?_
  refine yy_putF X hin (ref := "PictureBlockModel") (T := TX10) (k := 0) (j := 11) (ty := tyX10 11) (sh' := hsM9) (σ' := sgM15) dX10_init_108 inX10_init_RX10 tyX10 tyX10_ok nmX10 atM8_0 rfl (by decide) (List.mem_of_getElem? (i := 10) rfl) rfl rfl rfl (tyX10_ok 11 (by decide)) rfl rfl (by decide) (by decide +kernel) (hSet_R (k2 := 4) atM8_0 rfl rfl rfl) ?_
  refine yy_aload_n X (j := 0) dX10_init_111 rfl rfl ?_
  refine yy_iconst X (v := 4) dX10_init_112 (by decide) ?_
  refine yy_newa X (ki := 0) (t := 1) (N := 4) (n := 5) (atype := .char) (ty := .char) (sh' := hsM10) (cells' := 5) (slots' := 1618) dX10_init_113 rfl (fun C h => by cases h) rfl (List.mem_of_getElem? (i := 7) rfl) (by decide) (by decide) (Nat.le_of_ble_eq_true rfl) (by decide +kernel) (zrM15 _ (Nat.le_of_ble_eq_true rfl)).1 (zrM15 _ (Nat.le_of_ble_eq_true rfl)).2 (Or.inl ⟨rfl, rfl⟩) rfl rfl rfl ⟨Nat.le_of_ble_eq_true rfl, Nat.le_of_ble_eq_true rfl⟩ ?_
  refine yy_dup X rfl dX10_init_115 ?_
  refine yy_iconst X (v := 0) dX10_init_116 (by decide) ?_
  refine yy_bipush X (v := 116) dX10_init_117 (by decide) ?_
  refine yy_cast X (v := 116) (k := 5) (i' := 0) (σ' := sgM16) dX10_init_119 atM10_5 rfl (by decide) (by decide) rfl rfl ?_
  refine yy_dup X rfl dX10_init_120 ?_
  refine yy_iconst X (v := 1) dX10_init_121 (by decide) ?_
  refine yy_bipush X (v := 117) dX10_init_122 (by decide) ?_
  refine yy_cast X (v := 117) (k := 5) (i' := 1) (σ' := sgM17) dX10_init_124 atM10_5 rfl (by decide) (by decide) rfl rfl ?_
  refine yy_dup X rfl dX10_init_125 ?_
  refine yy_iconst X (v := 2) dX10_init_126 (by decide) ?_
  refine yy_bipush X (v := 114) dX10_init_127 (by decide) ?_
  refine yy_cast X (v := 114) (k := 5) (i' := 2) (σ' := sgM18) dX10_init_129 atM10_5 rfl (by decide) (by decide) rfl rfl ?_
  refine yy_dup X rfl dX10_init_130 ?_
  refine yy_iconst X (v := 3) dX10_init_131 (by decide) ?_
  refine yy_bipush X (v := 110) dX10_init_132 (by decide) ?_
  refine yy_cast X (v := 110) (k := 5) (i' := 3) (σ' := sgM19) dX10_init_134 atM10_5 rfl (by decide) (by decide) rfl rfl ?_
  refine yy_putF X hin (ref := "PictureBlockModel") (T := TX10) (k := 0) (j := 12) (ty := tyX10 12) (sh' := hsM11) (σ' := sgM19) dX10_init_135 inX10_init_RX10 tyX10 tyX10_ok nmX10 atM10_0 rfl (by decide) (List.mem_of_getElem? (i := 11) rfl) rfl rfl rfl (tyX10_ok 12 (by decide)) rfl rfl (by decide) (by decide +kernel) (hSet_R (k2 := 5) atM10_0 rfl rfl rfl) ?_
  refine yy_aload_n X (j := 0) dX10_init_138 rfl rfl ?_
  refine yy_iconst X (v := 3) dX10_init_139 (by decide) ?_
  refine yy_newa X (ki := 0) (t := 1) (N := 3) (n := 6) (atype := .char) (ty := .char) (sh' := hsM12) (cells' := 6) (slots' := 1621) dX10_init_140 rfl (fun C h => by cases h) rfl (List.mem_of_getElem? (i := 7) rfl) (by decide) (by decide) (Nat.le_of_ble_eq_true rfl) (by decide +kernel) (zrM19 _ (Nat.le_of_ble_eq_true rfl)).1 (zrM19 _ (Nat.le_of_ble_eq_true rfl)).2 (Or.inl ⟨rfl, rfl⟩) rfl rfl rfl ⟨Nat.le_of_ble_eq_true rfl, Nat.le_of_ble_eq_true rfl⟩ ?_
  refine yy_dup X rfl dX10_init_142 ?_
  refine yy_iconst X (v := 0) dX10_init_143 (by decide) ?_
  refine yy_bipush X (v := 97) dX10_init_144 (by decide) ?_
  refine yy_cast X (v := 97) (k := 6) (i' := 0) (σ' := sgM20) dX10_init_146 atM12_6 rfl (by decide) (by decide) rfl rfl ?_
  refine yy_dup X rfl dX10_init_147 ?_
  refine yy_iconst X (v := 1) dX10_init_148 (by decide) ?_
  refine yy_bipush X (v := 110) dX10_init_149 (by decide) ?_
  refine yy_cast X (v := 110) (k := 6) (i' := 1) (σ' := sgM21) dX10_init_151 atM12_6 rfl (by decide) (by decide) rfl rfl ?_
  refine yy_dup X rfl dX10_init_152 ?_
  refine yy_iconst X (v := 2) dX10_init_153 (by decide) ?_
  refine yy_bipush X (v := 121) dX10_init_154 (by decide) ?_
  refine yy_cast X (v := 121) (k := 6) (i' := 2) (σ' := sgM22) dX10_init_156 atM12_6 rfl (by decide) (by decide) rfl rfl ?_
  refine yy_putF X hin (ref := "PictureBlockModel") (T := TX10) (k := 0) (j := 13) (ty := tyX10 13) (sh' := hsM13) (σ' := sgM22) dX10_init_157 inX10_init_RX10 tyX10 tyX10_ok nmX10 atM12_0 rfl (by decide) (List.mem_of_getElem? (i := 12) rfl) rfl rfl rfl (tyX10_ok 13 (by decide)) rfl rfl (by decide) (by decide +kernel) (hSet_R (k2 := 6) atM12_0 rfl rfl rfl) ?_
  refine yy_aload_n X (j := 0) dX10_init_160 rfl rfl ?_
  refine yy_iconst X (v := 5) dX10_init_161 (by decide) ?_
  refine yy_newa X (ki := 0) (t := 1) (N := 5) (n := 7) (atype := .char) (ty := .char) (sh' := hsM14) (cells' := 7) (slots' := 1626) dX10_init_162 rfl (fun C h => by cases h) rfl (List.mem_of_getElem? (i := 7) rfl) (by decide) (by decide) (Nat.le_of_ble_eq_true rfl) (by decide +kernel) (zrM22 _ (Nat.le_of_ble_eq_true rfl)).1 (zrM22 _ (Nat.le_of_ble_eq_true rfl)).2 (Or.inl ⟨rfl, rfl⟩) rfl rfl rfl ⟨Nat.le_of_ble_eq_true rfl, Nat.le_of_ble_eq_true rfl⟩ ?_
  refine yy_dup X rfl dX10_init_164 ?_
  refine yy_iconst X (v := 0) dX10_init_165 (by decide) ?_
  refine yy_bipush X (v := 112) dX10_init_166 (by decide) ?_
  refine yy_cast X (v := 112) (k := 7) (i' := 0) (σ' := sgM23) dX10_init_168 atM14_7 rfl (by decide) (by decide) rfl rfl ?_
  refine yy_dup X rfl dX10_init_169 ?_
  refine yy_iconst X (v := 1) dX10_init_170 (by decide) ?_
  refine yy_bipush X (v := 111) dX10_init_171 (by decide) ?_
  refine yy_cast X (v := 111) (k := 7) (i' := 1) (σ' := sgM24) dX10_init_173 atM14_7 rfl (by decide) (by decide) rfl rfl ?_
  refine yy_dup X rfl dX10_init_174 ?_
  refine yy_iconst X (v := 2) dX10_init_175 (by decide) ?_
  refine yy_bipush X (v := 105) dX10_init_176 (by decide) ?_
  refine yy_cast X (v := 105) (k := 7) (i' := 2) (σ' := sgM25) dX10_init_178 atM14_7 rfl (by decide) (by decide) rfl rfl ?_
  refine yy_dup X rfl dX10_init_179 ?_
  refine yy_iconst X (v := 3) dX10_init_180 (by decide) ?_
  refine yy_bipush X (v := 110) dX10_init_181 (by decide) ?_
  refine yy_cast X (v := 110) (k := 7) (i' := 3) (σ' := sgM26) dX10_init_183 atM14_7 rfl (by decide) (by decide) rfl rfl ?_
  refine yy_dup X rfl dX10_init_184 ?_
  refine yy_iconst X (v := 4) dX10_init_185 (by decide) ?_
  refine yy_bipush X (v := 116) dX10_init_186 (by decide) ?_
  refine yy_cast X (v := 116) (k := 7) (i' := 4) (σ' := sgM27) dX10_init_188 atM14_7 rfl (by decide) (by decide) rfl rfl ?_
  refine yy_putF X hin (ref := "PictureBlockModel") (T := TX10) (k := 0) (j := 14) (ty := tyX10 14) (sh' := hsM15) (σ' := sgM27) dX10_init_189 inX10_init_RX10 tyX10 tyX10_ok nmX10 atM14_0 rfl (by decide) (List.mem_of_getElem? (i := 13) rfl) rfl rfl rfl (tyX10_ok 14 (by decide)) rfl rfl (by decide) (by decide +kernel) (hSet_R (k2 := 7) atM14_0 rfl rfl rfl) ?_
  refine yy_aload_n X (j := 0) dX10_init_192 rfl rfl ?_
  refine yy_iconst X (v := 3) dX10_init_193 (by decide) ?_
  refine yy_newa X (ki := 0) (t := 1) (N := 3) (n := 8) (atype := .char) (ty := .char) (sh' := hsM16) (cells' := 8) (slots' := 1629) dX10_init_194 rfl (fun C h => by cases h) rfl (List.mem_of_getElem? (i := 7) rfl) (by decide) (by decide) (Nat.le_of_ble_eq_true rfl) (by decide +kernel) (zrM27 _ (Nat.le_of_ble_eq_true rfl)).1 (zrM27 _ (Nat.le_of_ble_eq_true rfl)).2 (Or.inl ⟨rfl, rfl⟩) rfl rfl rfl ⟨Nat.le_of_ble_eq_true rfl, Nat.le_of_ble_eq_true rfl⟩ ?_
  refine yy_dup X rfl dX10_init_196 ?_
  refine yy_iconst X (v := 0) dX10_init_197 (by decide) ?_
  refine yy_bipush X (v := 114) dX10_init_198 (by decide) ?_
  refine yy_cast X (v := 114) (k := 8) (i' := 0) (σ' := sgM28) dX10_init_200 atM16_8 rfl (by decide) (by decide) rfl rfl ?_
  refine yy_dup X rfl dX10_init_201 ?_
  refine yy_iconst X (v := 1) dX10_init_202 (by decide) ?_
  refine yy_bipush X (v := 111) dX10_init_203 (by decide) ?_
  refine yy_cast X (v := 111) (k := 8) (i' := 1) (σ' := sgM29) dX10_init_205 atM16_8 rfl (by decide) (by decide) rfl rfl ?_
  refine yy_dup X rfl dX10_init_206 ?_
  refine yy_iconst X (v := 2) dX10_init_207 (by decide) ?_
  refine yy_bipush X (v := 119) dX10_init_208 (by decide) ?_
  refine yy_cast X (v := 119) (k := 8) (i' := 2) (σ' := sgM30) dX10_init_210 atM16_8 rfl (by decide) (by decide) rfl rfl ?_
  refine yy_putF X hin (ref := "PictureBlockModel") (T := TX10) (k := 0) (j := 15) (ty := tyX10 15) (sh' := hsM17) (σ' := sgM30) dX10_init_211 inX10_init_RX10 tyX10 tyX10_ok nmX10 atM16_0 rfl (by decide) (List.mem_of_getElem? (i := 14) rfl) rfl rfl rfl (tyX10_ok 15 (by decide)) rfl rfl (by decide) (by decide +kernel) (hSet_R (k2 := 8) atM16_0 rfl rfl rfl) ?_
  refine yy_aload_n X (j := 0) dX10_init_214 rfl rfl ?_
  refine yy_iconst X (v := 2) dX10_init_215 (by decide) ?_
  refine yy_newa X (ki := 0) (t := 1) (N := 2) (n := 9) (atype := .char) (ty := .char) (sh' := hsM18) (cells' := 9) (slots' := 1631) dX10_init_216 rfl (fun C h => by cases h) rfl (List.mem_of_getElem? (i := 7) rfl) (by decide) (by decide) (Nat.le_of_ble_eq_true rfl) (by decide +kernel) (zrM30 _ (Nat.le_of_ble_eq_true rfl)).1 (zrM30 _ (Nat.le_of_ble_eq_true rfl)).2 (Or.inl ⟨rfl, rfl⟩) rfl rfl rfl ⟨Nat.le_of_ble_eq_true rfl, Nat.le_of_ble_eq_true rfl⟩ ?_
  refine yy_dup X rfl dX10_init_218 ?_
  refine yy_iconst X (v := 0) dX10_init_219 (by decide) ?_
  refine yy_bipush X (v := 97) dX10_init_220 (by decide) ?_
  refine yy_cast X (v := 97) (k := 9) (i' := 0) (σ' := sgM31) dX10_init_222 atM18_9 rfl (by decide) (by decide) rfl rfl ?_
  refine yy_dup X rfl dX10_init_223 ?_
  refine yy_iconst X (v := 1) dX10_init_224 (by decide) ?_
  refine yy_bipush X (v := 116) dX10_init_225 (by decide) ?_
  refine yy_cast X (v := 116) (k := 9) (i' := 1) (σ' := sgM32) dX10_init_227 atM18_9 rfl (by decide) (by decide) rfl rfl ?_
  refine yy_putF X hin (ref := "PictureBlockModel") (T := TX10) (k := 0) (j := 16) (ty := tyX10 16) (sh' := hsM19) (σ' := sgM32) dX10_init_228 inX10_init_RX10 tyX10 tyX10_ok nmX10 atM18_0 rfl (by decide) (List.mem_of_getElem? (i := 15) rfl) rfl rfl rfl (tyX10_ok 16 (by decide)) rfl rfl (by decide) (by decide +kernel) (hSet_R (k2 := 9) atM18_0 rfl rfl rfl) ?_
  refine yy_aload_n X (j := 0) dX10_init_231 rfl rfl ?_
  refine yy_bipush X (v := 6) dX10_init_232 (by decide) ?_
  refine yy_newa X (ki := 0) (t := 1) (N := 6) (n := 10) (atype := .char) (ty := .char) (sh' := hsM20) (cells' := 10) (slots' := 1637) dX10_init_234 rfl (fun C h => by cases h) rfl (List.mem_of_getElem? (i := 7) rfl) (by decide) (by decide) (Nat.le_of_ble_eq_true rfl) (by decide +kernel) (zrM32 _ (Nat.le_of_ble_eq_true rfl)).1 (zrM32 _ (Nat.le_of_ble_eq_true rfl)).2 (Or.inl ⟨rfl, rfl⟩) rfl rfl rfl ⟨Nat.le_of_ble_eq_true rfl, Nat.le_of_ble_eq_true rfl⟩ ?_
  refine yy_dup X rfl dX10_init_236 ?_
  refine yy_iconst X (v := 0) dX10_init_237 (by decide) ?_
  refine yy_bipush X (v := 119) dX10_init_238 (by decide) ?_
  refine yy_cast X (v := 119) (k := 10) (i' := 0) (σ' := sgM33) dX10_init_240 atM20_10 rfl (by decide) (by decide) rfl rfl ?_
  refine yy_dup X rfl dX10_init_241 ?_
  refine yy_iconst X (v := 1) dX10_init_242 (by decide) ?_
  refine yy_bipush X (v := 101) dX10_init_243 (by decide) ?_
  refine yy_cast X (v := 101) (k := 10) (i' := 1) (σ' := sgM34) dX10_init_245 atM20_10 rfl (by decide) (by decide) rfl rfl ?_
  refine yy_dup X rfl dX10_init_246 ?_
  refine yy_iconst X (v := 2) dX10_init_247 (by decide) ?_
  refine yy_bipush X (v := 105) dX10_init_248 (by decide) ?_
  refine yy_cast X (v := 105) (k := 10) (i' := 2) (σ' := sgM35) dX10_init_250 atM20_10 rfl (by decide) (by decide) rfl rfl ?_
  refine yy_dup X rfl dX10_init_251 ?_
  refine yy_iconst X (v := 3) dX10_init_252 (by decide) ?_
  refine yy_bipush X (v := 103) dX10_init_253 (by decide) ?_
  refine yy_cast X (v := 103) (k := 10) (i' := 3) (σ' := sgM36) dX10_init_255 atM20_10 rfl (by decide) (by decide) rfl rfl ?_
  refine yy_dup X rfl dX10_init_256 ?_
  refine yy_iconst X (v := 4) dX10_init_257 (by decide) ?_
  refine yy_bipush X (v := 104) dX10_init_258 (by decide) ?_
  refine yy_cast X (v := 104) (k := 10) (i' := 4) (σ' := sgM37) dX10_init_260 atM20_10 rfl (by decide) (by decide) rfl rfl ?_
  refine yy_dup X rfl dX10_init_261 ?_
  refine yy_iconst X (v := 5) dX10_init_262 (by decide) ?_
  refine yy_bipush X (v := 116) dX10_init_263 (by decide) ?_
  refine yy_cast X (v := 116) (k := 10) (i' := 5) (σ' := sgM38) dX10_init_265 atM20_10 rfl (by decide) (by decide) rfl rfl ?_
  refine yy_putF X hin (ref := "PictureBlockModel") (T := TX10) (k := 0) (j := 17) (ty := tyX10 17) (sh' := hsM21) (σ' := sgM38) dX10_init_266 inX10_init_RX10 tyX10 tyX10_ok nmX10 atM20_0 rfl (by decide) (List.mem_of_getElem? (i := 16) rfl) rfl rfl rfl (tyX10_ok 17 (by decide)) rfl rfl (by decide) (by decide +kernel) (hSet_R (k2 := 10) atM20_0 rfl rfl rfl) ?_
  refine yy_aload_n X (j := 0) dX10_init_269 rfl rfl ?_
  refine yy_bipush X (v := 7) dX10_init_270 (by decide) ?_
  refine yy_newa X (ki := 0) (t := 1) (N := 7) (n := 11) (atype := .char) (ty := .char) (sh' := hsM22) (cells' := 11) (slots' := 1644) dX10_init_272 rfl (fun C h => by cases h) rfl (List.mem_of_getElem? (i := 7) rfl) (by decide) (by decide) (Nat.le_of_ble_eq_true rfl) (by decide +kernel) (zrM38 _ (Nat.le_of_ble_eq_true rfl)).1 (zrM38 _ (Nat.le_of_ble_eq_true rfl)).2 (Or.inl ⟨rfl, rfl⟩) rfl rfl rfl ⟨Nat.le_of_ble_eq_true rfl, Nat.le_of_ble_eq_true rfl⟩ ?_
  refine yy_dup X rfl dX10_init_274 ?_
  refine yy_iconst X (v := 0) dX10_init_275 (by decide) ?_
  refine yy_bipush X (v := 99) dX10_init_276 (by decide) ?_
  refine yy_cast X (v := 99) (k := 11) (i' := 0) (σ' := sgM39) dX10_init_278 atM22_11 rfl (by decide) (by decide) rfl rfl ?_
  refine yy_dup X rfl dX10_init_279 ?_
  refine yy_iconst X (v := 1) dX10_init_280 (by decide) ?_
  refine yy_bipush X (v := 111) dX10_init_281 (by decide) ?_
  refine yy_cast X (v := 111) (k := 11) (i' := 1) (σ' := sgM40) dX10_init_283 atM22_11 rfl (by decide) (by decide) rfl rfl ?_
  refine yy_dup X rfl dX10_init_284 ?_
  refine yy_iconst X (v := 2) dX10_init_285 (by decide) ?_
  refine yy_bipush X (v := 110) dX10_init_286 (by decide) ?_
  refine yy_cast X (v := 110) (k := 11) (i' := 2) (σ' := sgM41) dX10_init_288 atM22_11 rfl (by decide) (by decide) rfl rfl ?_
  refine yy_dup X rfl dX10_init_289 ?_
  refine yy_iconst X (v := 3) dX10_init_290 (by decide) ?_
  refine yy_bipush X (v := 116) dX10_init_291 (by decide) ?_
  refine yy_cast X (v := 116) (k := 11) (i' := 3) (σ' := sgM42) dX10_init_293 atM22_11 rfl (by decide) (by decide) rfl rfl ?_
  refine yy_dup X rfl dX10_init_294 ?_
  refine yy_iconst X (v := 4) dX10_init_295 (by decide) ?_
  refine yy_bipush X (v := 114) dX10_init_296 (by decide) ?_
  refine yy_cast X (v := 114) (k := 11) (i' := 4) (σ' := sgM43) dX10_init_298 atM22_11 rfl (by decide) (by decide) rfl rfl ?_
  refine yy_dup X rfl dX10_init_299 ?_
  refine yy_iconst X (v := 5) dX10_init_300 (by decide) ?_
  refine yy_bipush X (v := 111) dX10_init_301 (by decide) ?_
  refine yy_cast X (v := 111) (k := 11) (i' := 5) (σ' := sgM44) dX10_init_303 atM22_11 rfl (by decide) (by decide) rfl rfl ?_
  refine yy_dup X rfl dX10_init_304 ?_
  refine yy_bipush X (v := 6) dX10_init_305 (by decide) ?_
  refine yy_bipush X (v := 108) dX10_init_307 (by decide) ?_
  refine yy_cast X (v := 108) (k := 11) (i' := 6) (σ' := sgM45) dX10_init_309 atM22_11 rfl (by decide) (by decide) rfl rfl ?_
  refine yy_putF X hin (ref := "PictureBlockModel") (T := TX10) (k := 0) (j := 18) (ty := tyX10 18) (sh' := hsM23) (σ' := sgM45) dX10_init_310 inX10_init_RX10 tyX10 tyX10_ok nmX10 atM22_0 rfl (by decide) (List.mem_of_getElem? (i := 17) rfl) rfl rfl rfl (tyX10_ok 18 (by decide)) rfl rfl (by decide) (by decide +kernel) (hSet_R (k2 := 11) atM22_0 rfl rfl rfl) ?_
  refine yy_aload_n X (j := 0) dX10_init_313 rfl rfl ?_
  refine yy_iconst X (v := 3) dX10_init_314 (by decide) ?_
  refine yy_newa X (ki := 0) (t := 1) (N := 3) (n := 12) (atype := .char) (ty := .char) (sh' := hsM24) (cells' := 12) (slots' := 1647) dX10_init_315 rfl (fun C h => by cases h) rfl (List.mem_of_getElem? (i := 7) rfl) (by decide) (by decide) (Nat.le_of_ble_eq_true rfl) (by decide +kernel) (zrM45 _ (Nat.le_of_ble_eq_true rfl)).1 (zrM45 _ (Nat.le_of_ble_eq_true rfl)).2 (Or.inl ⟨rfl, rfl⟩) rfl rfl rfl ⟨Nat.le_of_ble_eq_true rfl, Nat.le_of_ble_eq_true rfl⟩ ?_
  refine yy_dup X rfl dX10_init_317 ?_
  refine yy_iconst X (v := 0) dX10_init_318 (by decide) ?_
  refine yy_bipush X (v := 115) dX10_init_319 (by decide) ?_
  refine yy_cast X (v := 115) (k := 12) (i' := 0) (σ' := sgM46) dX10_init_321 atM24_12 rfl (by decide) (by decide) rfl rfl ?_
  refine yy_dup X rfl dX10_init_322 ?_
  refine yy_iconst X (v := 1) dX10_init_323 (by decide) ?_
  refine yy_bipush X (v := 101) dX10_init_324 (by decide) ?_
  refine yy_cast X (v := 101) (k := 12) (i' := 1) (σ' := sgM47) dX10_init_326 atM24_12 rfl (by decide) (by decide) rfl rfl ?_
  refine yy_dup X rfl dX10_init_327 ?_
  refine yy_iconst X (v := 2) dX10_init_328 (by decide) ?_
  refine yy_bipush X (v := 116) dX10_init_329 (by decide) ?_
  refine yy_cast X (v := 116) (k := 12) (i' := 2) (σ' := sgM48) dX10_init_331 atM24_12 rfl (by decide) (by decide) rfl rfl ?_
  refine yy_putF X hin (ref := "PictureBlockModel") (T := TX10) (k := 0) (j := 19) (ty := tyX10 19) (sh' := hsM25) (σ' := sgM48) dX10_init_332 inX10_init_RX10 tyX10 tyX10_ok nmX10 atM24_0 rfl (by decide) (List.mem_of_getElem? (i := 18) rfl) rfl rfl rfl (tyX10_ok 19 (by decide)) rfl rfl (by decide) (by decide +kernel) (hSet_R (k2 := 12) atM24_0 rfl rfl rfl) ?_
  refine yy_aload_n X (j := 0) dX10_init_335 rfl rfl ?_
  refine yy_bipush X (v := 6) dX10_init_336 (by decide) ?_
  refine yy_newa X (ki := 0) (t := 1) (N := 6) (n := 13) (atype := .char) (ty := .char) (sh' := hsM26) (cells' := 13) (slots' := 1653) dX10_init_338 rfl (fun C h => by cases h) rfl (List.mem_of_getElem? (i := 7) rfl) (by decide) (by decide) (Nat.le_of_ble_eq_true rfl) (by decide +kernel) (zrM48 _ (Nat.le_of_ble_eq_true rfl)).1 (zrM48 _ (Nat.le_of_ble_eq_true rfl)).2 (Or.inl ⟨rfl, rfl⟩) rfl rfl rfl ⟨Nat.le_of_ble_eq_true rfl, Nat.le_of_ble_eq_true rfl⟩ ?_
  refine yy_dup X rfl dX10_init_340 ?_
  refine yy_iconst X (v := 0) dX10_init_341 (by decide) ?_
  refine yy_bipush X (v := 99) dX10_init_342 (by decide) ?_
  refine yy_cast X (v := 99) (k := 13) (i' := 0) (σ' := sgM49) dX10_init_344 atM26_13 rfl (by decide) (by decide) rfl rfl ?_
  refine yy_dup X rfl dX10_init_345 ?_
  refine yy_iconst X (v := 1) dX10_init_346 (by decide) ?_
  refine yy_bipush X (v := 101) dX10_init_347 (by decide) ?_
  refine yy_cast X (v := 101) (k := 13) (i' := 1) (σ' := sgM50) dX10_init_349 atM26_13 rfl (by decide) (by decide) rfl rfl ?_
  refine yy_dup X rfl dX10_init_350 ?_
  refine yy_iconst X (v := 2) dX10_init_351 (by decide) ?_
  refine yy_bipush X (v := 110) dX10_init_352 (by decide) ?_
  refine yy_cast X (v := 110) (k := 13) (i' := 2) (σ' := sgM51) dX10_init_354 atM26_13 rfl (by decide) (by decide) rfl rfl ?_
  refine yy_dup X rfl dX10_init_355 ?_
  refine yy_iconst X (v := 3) dX10_init_356 (by decide) ?_
  refine yy_bipush X (v := 116) dX10_init_357 (by decide) ?_
  refine yy_cast X (v := 116) (k := 13) (i' := 3) (σ' := sgM52) dX10_init_359 atM26_13 rfl (by decide) (by decide) rfl rfl ?_
  refine yy_dup X rfl dX10_init_360 ?_
  refine yy_iconst X (v := 4) dX10_init_361 (by decide) ?_
  refine yy_bipush X (v := 114) dX10_init_362 (by decide) ?_
  refine yy_cast X (v := 114) (k := 13) (i' := 4) (σ' := sgM53) dX10_init_364 atM26_13 rfl (by decide) (by decide) rfl rfl ?_
  refine yy_dup X rfl dX10_init_365 ?_
  refine yy_iconst X (v := 5) dX10_init_366 (by decide) ?_
  refine yy_bipush X (v := 101) dX10_init_367 (by decide) ?_
  refine yy_cast X (v := 101) (k := 13) (i' := 5) (σ' := sgM54) dX10_init_369 atM26_13 rfl (by decide) (by decide) rfl rfl ?_
  refine yy_putF X hin (ref := "PictureBlockModel") (T := TX10) (k := 0) (j := 20) (ty := tyX10 20) (sh' := hsM27) (σ' := sgM54) dX10_init_370 inX10_init_RX10 tyX10 tyX10_ok nmX10 atM26_0 rfl (by decide) (List.mem_of_getElem? (i := 19) rfl) rfl rfl rfl (tyX10_ok 20 (by decide)) rfl rfl (by decide) (by decide +kernel) (hSet_R (k2 := 13) atM26_0 rfl rfl rfl) ?_
  refine yy_aload_n X (j := 0) dX10_init_373 rfl rfl ?_
  refine yy_bipush X (v := 120) dX10_init_374 (by decide) ?_
  refine yy_newa X (ki := 1) (t := 2) (N := 120) (n := 14) (atype := .long) (ty := .long) (sh' := hsM28) (cells' := 14) (slots' := 1773) dX10_init_376 rfl (fun C h => by cases h) rfl (List.mem_of_getElem? (i := 20) rfl) (by decide) (by decide) (Nat.le_of_ble_eq_true rfl) (by decide +kernel) (zrM54 _ (Nat.le_of_ble_eq_true rfl)).1 (zrM54 _ (Nat.le_of_ble_eq_true rfl)).2 (Or.inr ⟨rfl, rfl⟩) rfl rfl rfl ⟨Nat.le_of_ble_eq_true rfl, Nat.le_of_ble_eq_true rfl⟩ ?_
  refine yy_putF X hin (ref := "PictureBlockModel") (T := TX10) (k := 0) (j := 22) (ty := tyX10 22) (sh' := hsM29) (σ' := sgM54) dX10_init_378 inX10_init_RX10 tyX10 tyX10_ok nmX10 atM28_0 rfl (by decide) (List.mem_of_getElem? (i := 21) rfl) rfl rfl rfl (tyX10_ok 22 (by decide)) rfl rfl (by decide) (by decide +kernel) (hSet_R (k2 := 14) atM28_0 rfl rfl rfl) ?_
  refine yy_aload_n X (j := 0) dX10_init_381 rfl rfl ?_
  refine yy_bipush X (v := 12) dX10_init_382 (by decide) ?_
  refine yy_newa X (ki := 0) (t := 0) (N := 12) (n := 15) (atype := .int) (ty := .int) (sh' := hsM30) (cells' := 15) (slots' := 1785) dX10_init_384 rfl (fun C h => by cases h) rfl (List.mem_of_getElem? (i := 4) rfl) (by decide) (by decide) (Nat.le_of_ble_eq_true rfl) (by decide +kernel) (zrM54 _ (Nat.le_of_ble_eq_true rfl)).1 (zrM54 _ (Nat.le_of_ble_eq_true rfl)).2 (Or.inl ⟨rfl, rfl⟩) rfl rfl rfl ⟨Nat.le_of_ble_eq_true rfl, Nat.le_of_ble_eq_true rfl⟩ ?_
  refine yy_putF X hin (ref := "PictureBlockModel") (T := TX10) (k := 0) (j := 23) (ty := tyX10 23) (sh' := hsM31) (σ' := sgM54) dX10_init_386 inX10_init_RX10 tyX10 tyX10_ok nmX10 atM30_0 rfl (by decide) (List.mem_of_getElem? (i := 22) rfl) rfl rfl rfl (tyX10_ok 23 (by decide)) rfl rfl (by decide) (by decide +kernel) (hSet_R (k2 := 15) atM30_0 rfl rfl rfl) ?_
  refine yy_aload_n X (j := 0) dX10_init_389 rfl rfl ?_
  refine yy_bipush X (v := 24) dX10_init_390 (by decide) ?_
  refine yy_newa X (ki := 0) (t := 0) (N := 24) (n := 16) (atype := .int) (ty := .int) (sh' := hsM32) (cells' := 16) (slots' := 1809) dX10_init_392 rfl (fun C h => by cases h) rfl (List.mem_of_getElem? (i := 4) rfl) (by decide) (by decide) (Nat.le_of_ble_eq_true rfl) (by decide +kernel) (zrM54 _ (Nat.le_of_ble_eq_true rfl)).1 (zrM54 _ (Nat.le_of_ble_eq_true rfl)).2 (Or.inl ⟨rfl, rfl⟩) rfl rfl rfl ⟨Nat.le_of_ble_eq_true rfl, Nat.le_of_ble_eq_true rfl⟩ ?_
  refine yy_putF X hin (ref := "PictureBlockModel") (T := TX10) (k := 0) (j := 24) (ty := tyX10 24) (sh' := hsM33) (σ' := sgM54) dX10_init_394 inX10_init_RX10 tyX10 tyX10_ok nmX10 atM32_0 rfl (by decide) (List.mem_of_getElem? (i := 23) rfl) rfl rfl rfl (tyX10_ok 24 (by decide)) rfl rfl (by decide) (by decide +kernel) (hSet_R (k2 := 16) atM32_0 rfl rfl rfl) ?_
  refine yy_aload_n X (j := 0) dX10_init_397 rfl rfl ?_
  refine yy_bipush X (v := 24) dX10_init_398 (by decide) ?_
  refine yy_newa X (ki := 0) (t := 0) (N := 24) (n := 17) (atype := .int) (ty := .int) (sh' := hsM34) (cells' := 17) (slots' := 1833) dX10_init_400 rfl (fun C h => by cases h) rfl (List.mem_of_getElem? (i := 4) rfl) (by decide) (by decide) (Nat.le_of_ble_eq_true rfl) (by decide +kernel) (zrM54 _ (Nat.le_of_ble_eq_true rfl)).1 (zrM54 _ (Nat.le_of_ble_eq_true rfl)).2 (Or.inl ⟨rfl, rfl⟩) rfl rfl rfl ⟨Nat.le_of_ble_eq_true rfl, Nat.le_of_ble_eq_true rfl⟩ ?_
  refine yy_putF X hin (ref := "PictureBlockModel") (T := TX10) (k := 0) (j := 25) (ty := tyX10 25) (sh' := hsM35) (σ' := sgM54) dX10_init_402 inX10_init_RX10 tyX10 tyX10_ok nmX10 atM34_0 rfl (by decide) (List.mem_of_getElem? (i := 24) rfl) rfl rfl rfl (tyX10_ok 25 (by decide)) rfl rfl (by decide) (by decide +kernel) (hSet_R (k2 := 17) atM34_0 rfl rfl rfl) ?_
  refine yy_aload_n X (j := 0) dX10_init_405 rfl rfl ?_
  refine yy_bipush X (v := 24) dX10_init_406 (by decide) ?_
  refine yy_newa X (ki := 0) (t := 0) (N := 24) (n := 18) (atype := .int) (ty := .int) (sh' := hsM36) (cells' := 18) (slots' := 1857) dX10_init_408 rfl (fun C h => by cases h) rfl (List.mem_of_getElem? (i := 4) rfl) (by decide) (by decide) (Nat.le_of_ble_eq_true rfl) (by decide +kernel) (zrM54 _ (Nat.le_of_ble_eq_true rfl)).1 (zrM54 _ (Nat.le_of_ble_eq_true rfl)).2 (Or.inl ⟨rfl, rfl⟩) rfl rfl rfl ⟨Nat.le_of_ble_eq_true rfl, Nat.le_of_ble_eq_true rfl⟩ ?_
  refine yy_putF X hin (ref := "PictureBlockModel") (T := TX10) (k := 0) (j := 26) (ty := tyX10 26) (sh' := hsM37) (σ' := sgM54) dX10_init_410 inX10_init_RX10 tyX10 tyX10_ok nmX10 atM36_0 rfl (by decide) (List.mem_of_getElem? (i := 25) rfl) rfl rfl rfl (tyX10_ok 26 (by decide)) rfl rfl (by decide) (by decide +kernel) (hSet_R (k2 := 18) atM36_0 rfl rfl rfl) ?_
  refine yy_aload_n X (j := 0) dX10_init_413 rfl rfl ?_
  refine yy_bipush X (v := 48) dX10_init_414 (by decide) ?_
  refine yy_newa X (ki := 0) (t := 0) (N := 48) (n := 19) (atype := .int) (ty := .int) (sh' := hsM38) (cells' := 19) (slots' := 1905) dX10_init_416 rfl (fun C h => by cases h) rfl (List.mem_of_getElem? (i := 4) rfl) (by decide) (by decide) (Nat.le_of_ble_eq_true rfl) (by decide +kernel) (zrM54 _ (Nat.le_of_ble_eq_true rfl)).1 (zrM54 _ (Nat.le_of_ble_eq_true rfl)).2 (Or.inl ⟨rfl, rfl⟩) rfl rfl rfl ⟨Nat.le_of_ble_eq_true rfl, Nat.le_of_ble_eq_true rfl⟩ ?_
  refine yy_putF X hin (ref := "PictureBlockModel") (T := TX10) (k := 0) (j := 27) (ty := tyX10 27) (sh' := hsM39) (σ' := sgM54) dX10_init_418 inX10_init_RX10 tyX10 tyX10_ok nmX10 atM38_0 rfl (by decide) (List.mem_of_getElem? (i := 26) rfl) rfl rfl rfl (tyX10_ok 27 (by decide)) rfl rfl (by decide) (by decide +kernel) (hSet_R (k2 := 19) atM38_0 rfl rfl rfl) ?_
  refine yy_aload_n X (j := 0) dX10_init_421 rfl rfl ?_
  refine yy_bipush X (v := 40) dX10_init_422 (by decide) ?_
  refine yy_newa X (ki := 0) (t := 0) (N := 40) (n := 20) (atype := .int) (ty := .int) (sh' := hsM40) (cells' := 20) (slots' := 1945) dX10_init_424 rfl (fun C h => by cases h) rfl (List.mem_of_getElem? (i := 4) rfl) (by decide) (by decide) (Nat.le_of_ble_eq_true rfl) (by decide +kernel) (zrM54 _ (Nat.le_of_ble_eq_true rfl)).1 (zrM54 _ (Nat.le_of_ble_eq_true rfl)).2 (Or.inl ⟨rfl, rfl⟩) rfl rfl rfl ⟨Nat.le_of_ble_eq_true rfl, Nat.le_of_ble_eq_true rfl⟩ ?_
  refine yy_putF X hin (ref := "PictureBlockModel") (T := TX10) (k := 0) (j := 28) (ty := tyX10 28) (sh' := hsM41) (σ' := sgM54) dX10_init_426 inX10_init_RX10 tyX10 tyX10_ok nmX10 atM40_0 rfl (by decide) (List.mem_of_getElem? (i := 27) rfl) rfl rfl rfl (tyX10_ok 28 (by decide)) rfl rfl (by decide) (by decide +kernel) (hSet_R (k2 := 20) atM40_0 rfl rfl rfl) ?_
  refine yy_aload_n X (j := 0) dX10_init_429 rfl rfl ?_
  refine yy_bipush X (v := 80) dX10_init_430 (by decide) ?_
  refine yy_newa X (ki := 0) (t := 0) (N := 80) (n := 21) (atype := .int) (ty := .int) (sh' := hsM42) (cells' := 21) (slots' := 2025) dX10_init_432 rfl (fun C h => by cases h) rfl (List.mem_of_getElem? (i := 4) rfl) (by decide) (by decide) (Nat.le_of_ble_eq_true rfl) (by decide +kernel) (zrM54 _ (Nat.le_of_ble_eq_true rfl)).1 (zrM54 _ (Nat.le_of_ble_eq_true rfl)).2 (Or.inl ⟨rfl, rfl⟩) rfl rfl rfl ⟨Nat.le_of_ble_eq_true rfl, Nat.le_of_ble_eq_true rfl⟩ ?_
  refine yy_putF X hin (ref := "PictureBlockModel") (T := TX10) (k := 0) (j := 29) (ty := tyX10 29) (sh' := hsM43) (σ' := sgM54) dX10_init_434 inX10_init_RX10 tyX10 tyX10_ok nmX10 atM42_0 rfl (by decide) (List.mem_of_getElem? (i := 28) rfl) rfl rfl rfl (tyX10_ok 29 (by decide)) rfl rfl (by decide) (by decide +kernel) (hSet_R (k2 := 21) atM42_0 rfl rfl rfl) ?_
  refine yy_aload_n X (j := 0) dX10_init_437 rfl rfl ?_
  refine yy_bipush X (v := 120) dX10_init_438 (by decide) ?_
  refine yy_newa X (ki := 0) (t := 0) (N := 120) (n := 22) (atype := .int) (ty := .int) (sh' := hsM44) (cells' := 22) (slots' := 2145) dX10_init_440 rfl (fun C h => by cases h) rfl (List.mem_of_getElem? (i := 4) rfl) (by decide) (by decide) (Nat.le_of_ble_eq_true rfl) (by decide +kernel) (zrM54 _ (Nat.le_of_ble_eq_true rfl)).1 (zrM54 _ (Nat.le_of_ble_eq_true rfl)).2 (Or.inl ⟨rfl, rfl⟩) rfl rfl rfl ⟨Nat.le_of_ble_eq_true rfl, Nat.le_of_ble_eq_true rfl⟩ ?_
  refine yy_putF X hin (ref := "PictureBlockModel") (T := TX10) (k := 0) (j := 30) (ty := tyX10 30) (sh' := hsM45) (σ' := sgM54) dX10_init_442 inX10_init_RX10 tyX10 tyX10_ok nmX10 atM44_0 rfl (by decide) (List.mem_of_getElem? (i := 29) rfl) rfl rfl rfl (tyX10_ok 30 (by decide)) rfl rfl (by decide) (by decide +kernel) (hSet_R (k2 := 22) atM44_0 rfl rfl rfl) ?_
  refine yy_aload_n X (j := 0) dX10_init_445 rfl rfl ?_
  refine yy_bipush X (v := 120) dX10_init_446 (by decide) ?_
  refine yy_newa X (ki := 0) (t := 0) (N := 120) (n := 23) (atype := .int) (ty := .int) (sh' := hsM46) (cells' := 23) (slots' := 2265) dX10_init_448 rfl (fun C h => by cases h) rfl (List.mem_of_getElem? (i := 4) rfl) (by decide) (by decide) (Nat.le_of_ble_eq_true rfl) (by decide +kernel) (zrM54 _ (Nat.le_of_ble_eq_true rfl)).1 (zrM54 _ (Nat.le_of_ble_eq_true rfl)).2 (Or.inl ⟨rfl, rfl⟩) rfl rfl rfl ⟨Nat.le_of_ble_eq_true rfl, Nat.le_of_ble_eq_true rfl⟩ ?_
  refine yy_putF X hin (ref := "PictureBlockModel") (T := TX10) (k := 0) (j := 31) (ty := tyX10 31) (sh' := hsM47) (σ' := sgM54) dX10_init_450 inX10_init_RX10 tyX10 tyX10_ok nmX10 atM46_0 rfl (by decide) (List.mem_of_getElem? (i := 30) rfl) rfl rfl rfl (tyX10_ok 31 (by decide)) rfl rfl (by decide) (by decide +kernel) (hSet_R (k2 := 23) atM46_0 rfl rfl rfl) ?_
  refine yy_aload_n X (j := 0) dX10_init_453 rfl rfl ?_
  refine yy_sipush X (v := 240) dX10_init_454 (by decide) ?_
  refine yy_newa X (ki := 0) (t := 0) (N := 240) (n := 24) (atype := .int) (ty := .int) (sh' := hsM48) (cells' := 24) (slots' := 2505) dX10_init_457 rfl (fun C h => by cases h) rfl (List.mem_of_getElem? (i := 4) rfl) (by decide) (by decide) (Nat.le_of_ble_eq_true rfl) (by decide +kernel) (zrM54 _ (Nat.le_of_ble_eq_true rfl)).1 (zrM54 _ (Nat.le_of_ble_eq_true rfl)).2 (Or.inl ⟨rfl, rfl⟩) rfl rfl rfl ⟨Nat.le_of_ble_eq_true rfl, Nat.le_of_ble_eq_true rfl⟩ ?_
  refine yy_putF X hin (ref := "PictureBlockModel") (T := TX10) (k := 0) (j := 32) (ty := tyX10 32) (sh' := hsM49) (σ' := sgM54) dX10_init_459 inX10_init_RX10 tyX10 tyX10_ok nmX10 atM48_0 rfl (by decide) (List.mem_of_getElem? (i := 31) rfl) rfl rfl rfl (tyX10_ok 32 (by decide)) rfl rfl (by decide) (by decide +kernel) (hSet_R (k2 := 24) atM48_0 rfl rfl rfl) ?_
  refine yy_aload_n X (j := 0) dX10_init_462 rfl rfl ?_
  refine yy_bipush X (v := 120) dX10_init_463 (by decide) ?_
  refine yy_newa X (ki := 0) (t := 0) (N := 120) (n := 25) (atype := .int) (ty := .int) (sh' := hsM50) (cells' := 25) (slots' := 2625) dX10_init_465 rfl (fun C h => by cases h) rfl (List.mem_of_getElem? (i := 4) rfl) (by decide) (by decide) (Nat.le_of_ble_eq_true rfl) (by decide +kernel) (zrM54 _ (Nat.le_of_ble_eq_true rfl)).1 (zrM54 _ (Nat.le_of_ble_eq_true rfl)).2 (Or.inl ⟨rfl, rfl⟩) rfl rfl rfl ⟨Nat.le_of_ble_eq_true rfl, Nat.le_of_ble_eq_true rfl⟩ ?_
  refine yy_putF X hin (ref := "PictureBlockModel") (T := TX10) (k := 0) (j := 33) (ty := tyX10 33) (sh' := hsM51) (σ' := sgM54) dX10_init_467 inX10_init_RX10 tyX10 tyX10_ok nmX10 atM50_0 rfl (by decide) (List.mem_of_getElem? (i := 32) rfl) rfl rfl rfl (tyX10_ok 33 (by decide)) rfl rfl (by decide) (by decide +kernel) (hSet_R (k2 := 25) atM50_0 rfl rfl rfl) ?_
  refine yy_aload_n X (j := 0) dX10_init_470 rfl rfl ?_
  refine yy_bipush X (v := 60) dX10_init_471 (by decide) ?_
  refine yy_newa X (ki := 0) (t := 3) (N := 60) (n := 26) (atype := .boolean) (ty := .boolean) (sh' := hsM52) (cells' := 26) (slots' := 2685) dX10_init_473 rfl (fun C h => by cases h) rfl (List.mem_of_getElem? (i := 33) rfl) (by decide) (by decide) (Nat.le_of_ble_eq_true rfl) (by decide +kernel) (zrM54 _ (Nat.le_of_ble_eq_true rfl)).1 (zrM54 _ (Nat.le_of_ble_eq_true rfl)).2 (Or.inl ⟨rfl, rfl⟩) rfl rfl rfl ⟨Nat.le_of_ble_eq_true rfl, Nat.le_of_ble_eq_true rfl⟩ ?_
  refine yy_putF X hin (ref := "PictureBlockModel") (T := TX10) (k := 0) (j := 35) (ty := tyX10 35) (sh' := hsM53) (σ' := sgM54) dX10_init_475 inX10_init_RX10 tyX10 tyX10_ok nmX10 atM52_0 rfl (by decide) (List.mem_of_getElem? (i := 34) rfl) rfl rfl rfl (tyX10_ok 35 (by decide)) rfl rfl (by decide) (by decide +kernel) (hSet_R (k2 := 26) atM52_0 rfl rfl rfl) ?_
  refine yy_aload_n X (j := 0) dX10_init_478 rfl rfl ?_
  refine yy_iconst X (v := 3) dX10_init_479 (by decide) ?_
  refine yy_put X (ref := "PictureBlockModel") (T := TX10) (k := 0) (j := 36) (ty := tyX10 36) (sh' := hsM53) (σ' := sgM55) dX10_init_480 inX10_init_RX10 tyX10 tyX10_ok nmX10 atM53_0 rfl (by decide) (List.mem_of_getElem? (i := 35) rfl) rfl rfl (tyX10_ok 36 (by decide)) rfl rfl (by decide) rfl (hSet_I atM53_0 rfl 3) ?_
  refine yy_aload_n X (j := 0) dX10_init_483 rfl rfl ?_
  refine yy_bipush X (v := 12) dX10_init_484 (by decide) ?_
  refine yy_newa X (ki := 0) (t := 0) (N := 12) (n := 27) (atype := .int) (ty := .int) (sh' := hsM54) (cells' := 27) (slots' := 2697) dX10_init_486 rfl (fun C h => by cases h) rfl (List.mem_of_getElem? (i := 4) rfl) (by decide) (by decide) (Nat.le_of_ble_eq_true rfl) (by decide +kernel) (zrM55 _ (Nat.le_of_ble_eq_true rfl)).1 (zrM55 _ (Nat.le_of_ble_eq_true rfl)).2 (Or.inl ⟨rfl, rfl⟩) rfl rfl rfl ⟨Nat.le_of_ble_eq_true rfl, Nat.le_of_ble_eq_true rfl⟩ ?_
  refine yy_putF X hin (ref := "PictureBlockModel") (T := TX10) (k := 0) (j := 37) (ty := tyX10 37) (sh' := hsM55) (σ' := sgM55) dX10_init_488 inX10_init_RX10 tyX10 tyX10_ok nmX10 atM54_0 rfl (by decide) (List.mem_of_getElem? (i := 36) rfl) rfl rfl rfl (tyX10_ok 37 (by decide)) rfl rfl (by decide) (by decide +kernel) (hSet_R (k2 := 27) atM54_0 rfl rfl rfl) ?_
  refine yy_aload_n X (j := 0) dX10_init_491 rfl rfl ?_
  refine yy_bipush X (v := 76) dX10_init_492 (by decide) ?_
  refine yy_newa X (ki := 0) (t := 0) (N := 76) (n := 28) (atype := .int) (ty := .int) (sh' := hsM56) (cells' := 28) (slots' := 2773) dX10_init_494 rfl (fun C h => by cases h) rfl (List.mem_of_getElem? (i := 4) rfl) (by decide) (by decide) (Nat.le_of_ble_eq_true rfl) (by decide +kernel) (zrM55 _ (Nat.le_of_ble_eq_true rfl)).1 (zrM55 _ (Nat.le_of_ble_eq_true rfl)).2 (Or.inl ⟨rfl, rfl⟩) rfl rfl rfl ⟨Nat.le_of_ble_eq_true rfl, Nat.le_of_ble_eq_true rfl⟩ ?_
  refine yy_putF X hin (ref := "PictureBlockModel") (T := TX10) (k := 0) (j := 38) (ty := tyX10 38) (sh' := hsM57) (σ' := sgM55) dX10_init_496 inX10_init_RX10 tyX10 tyX10_ok nmX10 atM56_0 rfl (by decide) (List.mem_of_getElem? (i := 37) rfl) rfl rfl rfl (tyX10_ok 38 (by decide)) rfl rfl (by decide) (by decide +kernel) (hSet_R (k2 := 28) atM56_0 rfl rfl rfl) ?_
  refine yy_aload_n X (j := 0) dX10_init_499 rfl rfl ?_
  refine yy_bipush X (v := 12) dX10_init_500 (by decide) ?_
  refine yy_newa X (ki := 0) (t := 3) (N := 12) (n := 29) (atype := .boolean) (ty := .boolean) (sh' := hsM58) (cells' := 29) (slots' := 2785) dX10_init_502 rfl (fun C h => by cases h) rfl (List.mem_of_getElem? (i := 33) rfl) (by decide) (by decide) (Nat.le_of_ble_eq_true rfl) (by decide +kernel) (zrM55 _ (Nat.le_of_ble_eq_true rfl)).1 (zrM55 _ (Nat.le_of_ble_eq_true rfl)).2 (Or.inl ⟨rfl, rfl⟩) rfl rfl rfl ⟨Nat.le_of_ble_eq_true rfl, Nat.le_of_ble_eq_true rfl⟩ ?_
  refine yy_putF X hin (ref := "PictureBlockModel") (T := TX10) (k := 0) (j := 39) (ty := tyX10 39) (sh' := hsM59) (σ' := sgM55) dX10_init_504 inX10_init_RX10 tyX10 tyX10_ok nmX10 atM58_0 rfl (by decide) (List.mem_of_getElem? (i := 38) rfl) rfl rfl rfl (tyX10_ok 39 (by decide)) rfl rfl (by decide) (by decide +kernel) (hSet_R (k2 := 29) atM58_0 rfl rfl rfl) ?_
  refine yy_aload_n X (j := 0) dX10_init_507 rfl rfl ?_
  refine yy_bipush X (v := 38) dX10_init_508 (by decide) ?_
  refine yy_newa X (ki := 0) (t := 0) (N := 38) (n := 30) (atype := .int) (ty := .int) (sh' := hsM60) (cells' := 30) (slots' := 2823) dX10_init_510 rfl (fun C h => by cases h) rfl (List.mem_of_getElem? (i := 4) rfl) (by decide) (by decide) (Nat.le_of_ble_eq_true rfl) (by decide +kernel) (zrM55 _ (Nat.le_of_ble_eq_true rfl)).1 (zrM55 _ (Nat.le_of_ble_eq_true rfl)).2 (Or.inl ⟨rfl, rfl⟩) rfl rfl rfl ⟨Nat.le_of_ble_eq_true rfl, Nat.le_of_ble_eq_true rfl⟩ ?_
  refine yy_putF X hin (ref := "PictureBlockModel") (T := TX10) (k := 0) (j := 42) (ty := tyX10 42) (sh' := hsM61) (σ' := sgM55) dX10_init_512 inX10_init_RX10 tyX10 tyX10_ok nmX10 atM60_0 rfl (by decide) (List.mem_of_getElem? (i := 39) rfl) rfl rfl rfl (tyX10_ok 42 (by decide)) rfl rfl (by decide) (by decide +kernel) (hSet_R (k2 := 30) atM60_0 rfl rfl rfl) ?_
  refine yy_aload_n X (j := 0) dX10_init_515 rfl rfl ?_
  refine yy_sipush X (v := 1520) dX10_init_516 (by decide) ?_
  refine yy_newa X (ki := 1) (t := 2) (N := 1520) (n := 31) (atype := .long) (ty := .long) (sh' := hsM62) (cells' := 31) (slots' := 4343) dX10_init_519 rfl (fun C h => by cases h) rfl (List.mem_of_getElem? (i := 20) rfl) (by decide) (by decide) (Nat.le_of_ble_eq_true rfl) (by decide +kernel) (zrM55 _ (Nat.le_of_ble_eq_true rfl)).1 (zrM55 _ (Nat.le_of_ble_eq_true rfl)).2 (Or.inr ⟨rfl, rfl⟩) rfl rfl rfl ⟨Nat.le_of_ble_eq_true rfl, Nat.le_of_ble_eq_true rfl⟩ ?_
  refine yy_putF X hin (ref := "PictureBlockModel") (T := TX10) (k := 0) (j := 44) (ty := tyX10 44) (sh' := hsM63) (σ' := sgM55) dX10_init_521 inX10_init_RX10 tyX10 tyX10_ok nmX10 atM62_0 rfl (by decide) (List.mem_of_getElem? (i := 40) rfl) rfl rfl rfl (tyX10_ok 44 (by decide)) rfl rfl (by decide) (by decide +kernel) (hSet_R (k2 := 31) atM62_0 rfl rfl rfl) ?_
  refine yy_aload_n X (j := 0) dX10_init_524 rfl rfl ?_
  refine yy_bipush X (v := 32) dX10_init_525 (by decide) ?_
  refine yy_newa X (ki := 0) (t := 0) (N := 32) (n := 32) (atype := .int) (ty := .int) (sh' := hsM64) (cells' := 32) (slots' := 4375) dX10_init_527 rfl (fun C h => by cases h) rfl (List.mem_of_getElem? (i := 4) rfl) (by decide) (by decide) (Nat.le_of_ble_eq_true rfl) (by decide +kernel) (zrM55 _ (Nat.le_of_ble_eq_true rfl)).1 (zrM55 _ (Nat.le_of_ble_eq_true rfl)).2 (Or.inl ⟨rfl, rfl⟩) rfl rfl rfl ⟨Nat.le_of_ble_eq_true rfl, Nat.le_of_ble_eq_true rfl⟩ ?_
  refine yy_putF X hin (ref := "PictureBlockModel") (T := TX10) (k := 0) (j := 45) (ty := tyX10 45) (sh' := hsM65) (σ' := sgM55) dX10_init_529 inX10_init_RX10 tyX10 tyX10_ok nmX10 atM64_0 rfl (by decide) (List.mem_of_getElem? (i := 41) rfl) rfl rfl rfl (tyX10_ok 45 (by decide)) rfl rfl (by decide) (by decide +kernel) (hSet_R (k2 := 32) atM64_0 rfl rfl rfl) ?_
  refine yy_aload_n X (j := 0) dX10_init_532 rfl rfl ?_
  refine yy_bipush X (v := 60) dX10_init_533 (by decide) ?_
  refine yy_newa X (ki := 0) (t := 3) (N := 60) (n := 33) (atype := .boolean) (ty := .boolean) (sh' := hsM66) (cells' := 33) (slots' := 4435) dX10_init_535 rfl (fun C h => by cases h) rfl (List.mem_of_getElem? (i := 33) rfl) (by decide) (by decide) (Nat.le_of_ble_eq_true rfl) (by decide +kernel) (zrM55 _ (Nat.le_of_ble_eq_true rfl)).1 (zrM55 _ (Nat.le_of_ble_eq_true rfl)).2 (Or.inl ⟨rfl, rfl⟩) rfl rfl rfl ⟨Nat.le_of_ble_eq_true rfl, Nat.le_of_ble_eq_true rfl⟩ ?_
  refine yy_putF X hin (ref := "PictureBlockModel") (T := TX10) (k := 0) (j := 46) (ty := tyX10 46) (sh' := hsM67) (σ' := sgM55) dX10_init_537 inX10_init_RX10 tyX10 tyX10_ok nmX10 atM66_0 rfl (by decide) (List.mem_of_getElem? (i := 42) rfl) rfl rfl rfl (tyX10_ok 46 (by decide)) rfl rfl (by decide) (by decide +kernel) (hSet_R (k2 := 33) atM66_0 rfl rfl rfl) ?_
  refine yy_aload_n X (j := 0) dX10_init_540 rfl rfl ?_
  refine yy_bipush X (v := 12) dX10_init_541 (by decide) ?_
  refine yy_newa X (ki := 0) (t := 0) (N := 12) (n := 34) (atype := .int) (ty := .int) (sh' := hsM68) (cells' := 34) (slots' := 4447) dX10_init_543 rfl (fun C h => by cases h) rfl (List.mem_of_getElem? (i := 4) rfl) (by decide) (by decide) (Nat.le_of_ble_eq_true rfl) (by decide +kernel) (zrM55 _ (Nat.le_of_ble_eq_true rfl)).1 (zrM55 _ (Nat.le_of_ble_eq_true rfl)).2 (Or.inl ⟨rfl, rfl⟩) rfl rfl rfl ⟨Nat.le_of_ble_eq_true rfl, Nat.le_of_ble_eq_true rfl⟩ ?_
  refine yy_putF X hin (ref := "PictureBlockModel") (T := TX10) (k := 0) (j := 47) (ty := tyX10 47) (sh' := hsM69) (σ' := sgM55) dX10_init_545 inX10_init_RX10 tyX10 tyX10_ok nmX10 atM68_0 rfl (by decide) (List.mem_of_getElem? (i := 43) rfl) rfl rfl rfl (tyX10_ok 47 (by decide)) rfl rfl (by decide) (by decide +kernel) (hSet_R (k2 := 34) atM68_0 rfl rfl rfl) ?_
  refine yy_aload_n X (j := 0) dX10_init_548 rfl rfl ?_
  refine yy_bipush X (v := 12) dX10_init_549 (by decide) ?_
  refine yy_newa X (ki := 0) (t := 0) (N := 12) (n := 35) (atype := .int) (ty := .int) (sh' := hsM70) (cells' := 35) (slots' := 4459) dX10_init_551 rfl (fun C h => by cases h) rfl (List.mem_of_getElem? (i := 4) rfl) (by decide) (by decide) (Nat.le_of_ble_eq_true rfl) (by decide +kernel) (zrM55 _ (Nat.le_of_ble_eq_true rfl)).1 (zrM55 _ (Nat.le_of_ble_eq_true rfl)).2 (Or.inl ⟨rfl, rfl⟩) rfl rfl rfl ⟨Nat.le_of_ble_eq_true rfl, Nat.le_of_ble_eq_true rfl⟩ ?_
  refine yy_putF X hin (ref := "PictureBlockModel") (T := TX10) (k := 0) (j := 48) (ty := tyX10 48) (sh' := hsM71) (σ' := sgM55) dX10_init_553 inX10_init_RX10 tyX10 tyX10_ok nmX10 atM70_0 rfl (by decide) (List.mem_of_getElem? (i := 44) rfl) rfl rfl rfl (tyX10_ok 48 (by decide)) rfl rfl (by decide) (by decide +kernel) (hSet_R (k2 := 35) atM70_0 rfl rfl rfl) ?_
  refine yy_aload_n X (j := 0) dX10_init_556 rfl rfl ?_
  refine yy_bipush X (v := 60) dX10_init_557 (by decide) ?_
  refine yy_newa X (ki := 0) (t := 3) (N := 60) (n := 36) (atype := .boolean) (ty := .boolean) (sh' := hsM72) (cells' := 36) (slots' := 4519) dX10_init_559 rfl (fun C h => by cases h) rfl (List.mem_of_getElem? (i := 33) rfl) (by decide) (by decide) (Nat.le_of_ble_eq_true rfl) (by decide +kernel) (zrM55 _ (Nat.le_of_ble_eq_true rfl)).1 (zrM55 _ (Nat.le_of_ble_eq_true rfl)).2 (Or.inl ⟨rfl, rfl⟩) rfl rfl rfl ⟨Nat.le_of_ble_eq_true rfl, Nat.le_of_ble_eq_true rfl⟩ ?_
  refine yy_putF X hin (ref := "PictureBlockModel") (T := TX10) (k := 0) (j := 49) (ty := tyX10 49) (sh' := hsM73) (σ' := sgM55) dX10_init_561 inX10_init_RX10 tyX10 tyX10_ok nmX10 atM72_0 rfl (by decide) (List.mem_of_getElem? (i := 45) rfl) rfl rfl rfl (tyX10_ok 49 (by decide)) rfl rfl (by decide) (by decide +kernel) (hSet_R (k2 := 36) atM72_0 rfl rfl rfl) ?_
  refine yy_aload_n X (j := 0) dX10_init_564 rfl rfl ?_
  refine yy_bipush X (v := 76) dX10_init_565 (by decide) ?_
  refine yy_newa X (ki := 0) (t := 0) (N := 76) (n := 37) (atype := .int) (ty := .int) (sh' := hsM74) (cells' := 37) (slots' := 4595) dX10_init_567 rfl (fun C h => by cases h) rfl (List.mem_of_getElem? (i := 4) rfl) (by decide) (by decide) (Nat.le_of_ble_eq_true rfl) (by decide +kernel) (zrM55 _ (Nat.le_of_ble_eq_true rfl)).1 (zrM55 _ (Nat.le_of_ble_eq_true rfl)).2 (Or.inl ⟨rfl, rfl⟩) rfl rfl rfl ⟨Nat.le_of_ble_eq_true rfl, Nat.le_of_ble_eq_true rfl⟩ ?_
  refine yy_putF X hin (ref := "PictureBlockModel") (T := TX10) (k := 0) (j := 50) (ty := tyX10 50) (sh' := hsM75) (σ' := sgM55) dX10_init_569 inX10_init_RX10 tyX10 tyX10_ok nmX10 atM74_0 rfl (by decide) (List.mem_of_getElem? (i := 46) rfl) rfl rfl rfl (tyX10_ok 50 (by decide)) rfl rfl (by decide) (by decide +kernel) (hSet_R (k2 := 37) atM74_0 rfl rfl rfl) ?_
  refine yy_aload_n X (j := 0) dX10_init_572 rfl rfl ?_
  refine yy_bipush X (v := 12) dX10_init_573 (by decide) ?_
  refine yy_newa X (ki := 0) (t := 0) (N := 12) (n := 38) (atype := .int) (ty := .int) (sh' := hsM76) (cells' := 38) (slots' := 4607) dX10_init_575 rfl (fun C h => by cases h) rfl (List.mem_of_getElem? (i := 4) rfl) (by decide) (by decide) (Nat.le_of_ble_eq_true rfl) (by decide +kernel) (zrM55 _ (Nat.le_of_ble_eq_true rfl)).1 (zrM55 _ (Nat.le_of_ble_eq_true rfl)).2 (Or.inl ⟨rfl, rfl⟩) rfl rfl rfl ⟨Nat.le_of_ble_eq_true rfl, Nat.le_of_ble_eq_true rfl⟩ ?_
  refine yy_putF X hin (ref := "PictureBlockModel") (T := TX10) (k := 0) (j := 51) (ty := tyX10 51) (sh' := hsM77) (σ' := sgM55) dX10_init_577 inX10_init_RX10 tyX10 tyX10_ok nmX10 atM76_0 rfl (by decide) (List.mem_of_getElem? (i := 47) rfl) rfl rfl rfl (tyX10_ok 51 (by decide)) rfl rfl (by decide) (by decide +kernel) (hSet_R (k2 := 38) atM76_0 rfl rfl rfl) ?_
  refine yy_aload_n X (j := 0) dX10_init_580 rfl rfl ?_
  refine yy_bipush X (v := 24) dX10_init_581 (by decide) ?_
  refine yy_newa X (ki := 0) (t := 0) (N := 24) (n := 39) (atype := .int) (ty := .int) (sh' := hsM78) (cells' := 39) (slots' := 4631) dX10_init_583 rfl (fun C h => by cases h) rfl (List.mem_of_getElem? (i := 4) rfl) (by decide) (by decide) (Nat.le_of_ble_eq_true rfl) (by decide +kernel) (zrM55 _ (Nat.le_of_ble_eq_true rfl)).1 (zrM55 _ (Nat.le_of_ble_eq_true rfl)).2 (Or.inl ⟨rfl, rfl⟩) rfl rfl rfl ⟨Nat.le_of_ble_eq_true rfl, Nat.le_of_ble_eq_true rfl⟩ ?_
  refine yy_putF X hin (ref := "PictureBlockModel") (T := TX10) (k := 0) (j := 53) (ty := tyX10 53) (sh' := hsM79) (σ' := sgM55) dX10_init_585 inX10_init_RX10 tyX10 tyX10_ok nmX10 atM78_0 rfl (by decide) (List.mem_of_getElem? (i := 48) rfl) rfl rfl rfl (tyX10_ok 53 (by decide)) rfl rfl (by decide) (by decide +kernel) (hSet_R (k2 := 39) atM78_0 rfl rfl rfl) ?_
  refine yy_aload_n X (j := 0) dX10_init_588 rfl rfl ?_
  refine yy_sipush X (v := 400) dX10_init_589 (by decide) ?_
  refine yy_newa X (ki := 0) (t := 0) (N := 400) (n := 40) (atype := .int) (ty := .int) (sh' := hsM80) (cells' := 40) (slots' := 5031) dX10_init_592 rfl (fun C h => by cases h) rfl (List.mem_of_getElem? (i := 4) rfl) (by decide) (by decide) (Nat.le_of_ble_eq_true rfl) (by decide +kernel) (zrM55 _ (Nat.le_of_ble_eq_true rfl)).1 (zrM55 _ (Nat.le_of_ble_eq_true rfl)).2 (Or.inl ⟨rfl, rfl⟩) rfl rfl rfl ⟨Nat.le_of_ble_eq_true rfl, Nat.le_of_ble_eq_true rfl⟩ ?_
  refine yy_putF X hin (ref := "PictureBlockModel") (T := TX10) (k := 0) (j := 55) (ty := tyX10 55) (sh' := hsM81) (σ' := sgM55) dX10_init_594 inX10_init_RX10 tyX10 tyX10_ok nmX10 atM80_0 rfl (by decide) (List.mem_of_getElem? (i := 49) rfl) rfl rfl rfl (tyX10_ok 55 (by decide)) rfl rfl (by decide) (by decide +kernel) (hSet_R (k2 := 40) atM80_0 rfl rfl rfl) ?_
  exact yy_ret X dX10_init_597
theorem okIM : hsM81.all hOk = true := by decide +kernel
theorem cvIM : hsM81.map hConv = zM.1 := by decide +kernel
