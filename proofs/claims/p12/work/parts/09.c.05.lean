/-! comes through, m 5 -/
set_option maxRecDepth 20000 in
set_option maxHeartbeats 2000000 in
theorem o_fX10_weightOf {σ : gS} (hIσ : JM σ) {p1 : Int32} (h0p1 : 0 ≤ p1.toInt) (h1p1 : p1.toInt ≤ 59) : Ok (fX10_weightOf σ p1) (fun _ => True) := by
  unfold fX10_weightOf
  have f1 : (60 : Int32).toInt = 60 := by decide
  have f2 : ((60 : Int32) + p1).toInt = (60 : Int32).toInt + p1.toInt := iadd_toInt (by omega) (by omega)
  refine ok_gd.mpr ⟨gb_of (by omega) (by omega), ?_⟩
  refine ok_nm2 (fun v1 ev1 => ?_)
  have qv1 : v1.toInt = (σ.1 25 (60 + p1).toNatClampNeg).toInt := congrArg Int32.toInt ev1
  refine ok_some.mpr ?_
  exact trivial
set_option maxRecDepth 20000 in
set_option maxHeartbeats 2000000 in
theorem o_fX10_miss {σ : gS} (hIσ : JM σ) {p1 : Int32} {p2 : Int32} (h0p1 : 0 ≤ p1.toInt) (h1p1 : p1.toInt ≤ 59) (h0p2 : 0 ≤ p2.toInt) (h1p2 : p2.toInt ≤ 1) : Ok (fX10_miss σ p1 p2) (fun _ => True) := by
  unfold fX10_miss
  refine ok_bd.mpr ?_
  try unfold fX10_pointOf
  have f1 : (60 : Int32).toInt = 60 := by decide
  have f2 : ((60 : Int32) + p1).toInt = (60 : Int32).toInt + p1.toInt := iadd_toInt (by omega) (by omega)
  refine ok_gd.mpr ⟨gb_of (by omega) (by omega), ?_⟩
  refine ok_nm2 (fun v1_1 ev1_1 => ?_)
  have f3 : 0 ≤ (σ.1 23 (60 + p1).toNatClampNeg).toInt ∧ (σ.1 23 (60 + p1).toNatClampNeg).toInt ≤ 19 := hIσ 23 _
  have qv1_1 : v1_1.toInt = (σ.1 23 (60 + p1).toNatClampNeg).toInt := congrArg Int32.toInt ev1_1
  refine ok_some.mpr ?_
  have f4 : (38 : Int32).toInt = 38 := by decide
  have f5 : ((38 : Int32) * p2).toInt = 38 * p2.toInt := imulc (by decide) (by omega) (by omega)
  have f6 : (12 : Int32).toInt = 12 := by decide
  have f7 : ((38 * p2) + (12 : Int32)).toInt = (38 * p2).toInt + (12 : Int32).toInt := iadd_toInt (by omega) (by omega)
  have f8 : (((38 * p2) + 12) + v1_1).toInt = ((38 * p2) + 12).toInt + v1_1.toInt := iadd_toInt (by omega) (by omega)
  refine ok_gd.mpr ⟨gb_of (by omega) (by omega), ?_⟩
  refine ok_nm2 (fun v3_2 ev3_2 => ?_)
  have qv3_2 : v3_2.toInt = (σ.1 28 (((38 * p2) + 12) + v1_1).toNatClampNeg).toInt := congrArg Int32.toInt ev3_2
  refine ok_bd.mpr ((o_fX10_put hIσ (p1 := p1) (p2 := p2) (by omega) (by omega) (by omega) (by omega)).mono (fun r5_2 ho_10 => ?_))
  refine ok_some.mpr ?_
  exact trivial
set_option maxRecDepth 20000 in
set_option maxHeartbeats 2000000 in
theorem o_fX10_canShow {σ : gS} (hIσ : JM σ) {p1 : Int32} (h0p1 : 0 ≤ p1.toInt) (h1p1 : p1.toInt ≤ 59) : Ok (fX10_canShow σ p1) (fun out => JM out.2 ∧ Fr fr_fX10_canShow σ out.2 ∧ 0 ≤ out.1.toInt ∧ out.1.toInt ≤ 1) := by
  unfold fX10_canShow
  have hfσ : Fr fr_fX10_canShow σ σ := Fr_r
  refine ok_gd.mpr ⟨gb_of (by omega) (by omega), ?_⟩
  refine ok_nm2 (fun v1 ev1 => ?_)
  have qv1 : v1.toInt = (σ.1 26 p1.toNatClampNeg).toInt := congrArg Int32.toInt ev1
  refine ok_ite.mpr ⟨fun h_1 => ?_, fun h_1 => ?_⟩
  · have f2 : (0 : Int32).toInt = 0 := by decide
    have g3 : v1.toInt = (0 : Int32).toInt := by rw [h_1]
    refine ok_gd.mpr ⟨gb_of (by omega) (by omega), ?_⟩
    refine ok_nm2 (fun σ3 eσ3 => ?_)
    have f4 : (vp_nar .boolean 1).toInt = 1 := by decide
    have hIσ3 : JM σ3 := by rw [eσ3]; exact JM_w hIσ (Int32.le_toInt _) (Int32.toInt_le _)
    have hfσ3 : Fr fr_fX10_canShow σ σ3 := by rw [eσ3]; exact Fr_w0 hfσ (by decide)
    refine ok_bd.mpr ((o_fX10_hangs hIσ3  ).mono (fun σ5 ho_6 => ?_))
    obtain ⟨hIσ5, hcσ5⟩ := ho_6
    have hfσ5 : Fr fr_fX10_canShow σ σ5 := Fr_c hfσ3 hcσ5 (by decide)
    refine ok_gd.mpr ⟨gb_of (by omega) (by omega), ?_⟩
    refine ok_nm2 (fun σ6 eσ6 => ?_)
    have f7 : (vp_nar .boolean 0).toInt = 0 := by decide
    have hIσ6 : JM σ6 := by rw [eσ6]; exact JM_w hIσ5 (Int32.le_toInt _) (Int32.toInt_le _)
    have hfσ6 : Fr fr_fX10_canShow σ σ6 := by rw [eσ6]; exact Fr_w0 hfσ5 (by decide)
    refine ok_bd.mpr ?_
    try unfold fX10_pictureOf
    have f8 : (60 : Int32).toInt = 60 := by decide
    have f9 : ((60 : Int32) + p1).toInt = (60 : Int32).toInt + p1.toInt := iadd_toInt (by omega) (by omega)
    refine ok_gd.mpr ⟨gb_of (by omega) (by omega), ?_⟩
    refine ok_nm2 (fun v1_1 ev1_1 => ?_)
    have f10 : 0 ≤ (σ6.1 22 (60 + p1).toNatClampNeg).toInt ∧ (σ6.1 22 (60 + p1).toNatClampNeg).toInt ≤ 11 := hIσ6 22 _
    have qv1_1 : v1_1.toInt = (σ6.1 22 (60 + p1).toNatClampNeg).toInt := congrArg Int32.toInt ev1_1
    refine ok_some.mpr ?_
    refine ok_nm.mpr ?_
    refine ok_bd.mpr ?_
    try unfold fX10_pointOf
    refine ok_gd.mpr ⟨gb_of (by omega) (by omega), ?_⟩
    refine ok_nm2 (fun v1_4 ev1_4 => ?_)
    have f11 : 0 ≤ (σ6.1 23 (60 + p1).toNatClampNeg).toInt ∧ (σ6.1 23 (60 + p1).toNatClampNeg).toInt ≤ 19 := hIσ6 23 _
    have qv1_4 : v1_4.toInt = (σ6.1 23 (60 + p1).toNatClampNeg).toInt := congrArg Int32.toInt ev1_4
    refine ok_some.mpr ?_
    refine ok_nm2 (fun x12_2_3_5 ex12_2_3_5 => ?_)
    have f12 : (12 : Int32).toInt = 12 := by decide
    have f13 : ((12 : Int32) + v1_4).toInt = (12 : Int32).toInt + v1_4.toInt := iadd_toInt (by omega) (by omega)
    have qx12_2_3_5 : x12_2_3_5.toInt = (12 + v1_4).toInt := congrArg Int32.toInt ex12_2_3_5
    refine ok_gd.mpr ⟨gb_of (by omega) (by omega), ?_⟩
    refine ok_nm2 (fun v13_2_3_5 ev13_2_3_5 => ?_)
    have qv13_2_3_5 : v13_2_3_5.toInt = (σ6.1 32 v1_1.toNatClampNeg).toInt := congrArg Int32.toInt ev13_2_3_5
    refine ok_gd.mpr ⟨gb_of (by omega) (by omega), ?_⟩
    refine ok_nm2 (fun v14_2_3_5 ev14_2_3_5 => ?_)
    have qv14_2_3_5 : v14_2_3_5.toInt = (σ6.1 32 x12_2_3_5.toNatClampNeg).toInt := congrArg Int32.toInt ev14_2_3_5
    refine ok_ite.mpr ⟨fun h_14 => ?_, fun h_14 => ?_⟩
    · have g15 : v13_2_3_5.toInt = v14_2_3_5.toInt := by rw [h_14]
      refine ok_some.mpr ?_
      have f16 : (1 : Int32).toInt = 1 := by decide
      exact ⟨hIσ6, hfσ6, (show 0 ≤ (1 : Int32).toInt by omega), (show (1 : Int32).toInt ≤ 1 by omega)⟩
    · have g17 : v13_2_3_5.toInt ≠ v14_2_3_5.toInt := fun z => h_14 (Int32.toInt_inj.mp z)
      refine ok_bd.mpr ((o_fX10_isLoose hIσ6 (p1 := v1_1) (by omega) (by omega)).mono (fun r17_2_3_5 ho_19 => ?_))
      obtain ⟨r0r17_2_3_5, r1r17_2_3_5⟩ := ho_19
      refine ok_ite.mpr ⟨fun h_20 => ?_, fun h_20 => ?_⟩
      · have g21 : r17_2_3_5.toInt = (0 : Int32).toInt := by rw [h_20]
        refine ok_bd.mpr ((o_fX10_isLoose hIσ6 (p1 := x12_2_3_5) (by omega) (by omega)).mono (fun r20_2_3_5 ho_23 => ?_))
        obtain ⟨r0r20_2_3_5, r1r20_2_3_5⟩ := ho_23
        refine ok_ite.mpr ⟨fun h_24 => ?_, fun h_24 => ?_⟩
        · have g25 : r20_2_3_5.toInt = (0 : Int32).toInt := by rw [h_24]
          refine ok_some.mpr ?_
          have f26 : (1 : Int32).toInt = 1 := by decide
          exact ⟨hIσ6, hfσ6, (show 0 ≤ (1 : Int32).toInt by omega), (show (1 : Int32).toInt ≤ 1 by omega)⟩
        · have g27 : r20_2_3_5.toInt ≠ (0 : Int32).toInt := fun z => h_24 (Int32.toInt_inj.mp z)
          refine ok_some.mpr ?_
          exact ⟨hIσ6, hfσ6, (show 0 ≤ (0 : Int32).toInt by omega), (show (0 : Int32).toInt ≤ 1 by omega)⟩
      · have g28 : r17_2_3_5.toInt ≠ (0 : Int32).toInt := fun z => h_20 (Int32.toInt_inj.mp z)
        refine ok_some.mpr ?_
        exact ⟨hIσ6, hfσ6, (show 0 ≤ (0 : Int32).toInt by omega), (show (0 : Int32).toInt ≤ 1 by omega)⟩
  · have f29 : (0 : Int32).toInt = 0 := by decide
    have g30 : v1.toInt ≠ (0 : Int32).toInt := fun z => h_1 (Int32.toInt_inj.mp z)
    refine ok_some.mpr ?_
    exact ⟨hIσ, hfσ, (show 0 ≤ (0 : Int32).toInt by omega), (show (0 : Int32).toInt ≤ 1 by omega)⟩
set_option maxRecDepth 20000 in
set_option maxHeartbeats 2000000 in
theorem o_fX10_row {σ : gS} (hIσ : JM σ) {p1 : Int32} {p2 : Int32}  : Ok (fX10_row σ p1 p2) (fun out => JM out.2 ∧ Fr fr_fX10_row σ out.2) := by
  unfold fX10_row
  have hfσ : Fr fr_fX10_row σ σ := Fr_r
  refine ok_bd.mpr ?_
  try unfold fX10_isRow
  refine ok_bd.mpr ?_
  try unfold fX10_rows
  have f1 : (9 : Int32).toInt = 9 := by decide
  refine ok_gd.mpr ⟨gb_of (by omega) (by omega), ?_⟩
  refine ok_nm2 (fun v1_2 ev1_2 => ?_)
  have f2 : 0 ≤ (σ.1 15 9).toInt ∧ (σ.1 15 9).toInt ≤ 60 := hIσ 15 9
  have qv1_2 : v1_2.toInt = (σ.1 15 9).toInt := congrArg Int32.toInt ev1_2
  refine ok_some.mpr ?_
  refine ok_bd.mpr ?_
  try unfold fX10_isIn
  refine ok_ite.mpr ⟨fun h_3 => ?_, fun h_3 => ?_⟩
  · have f4 : p1.toInt64.toInt = p1.toInt := Int32.toInt_toInt64 _
    have f5 : (0 : Int64).toInt = 0 := by decide
    have g6 : p1.toInt64.toInt < (0 : Int64).toInt := Int64.lt_iff_toInt_lt.mp h_3
    refine ok_some.mpr ?_
    refine ok_some.mpr ?_
    refine ok_ite.mpr ⟨fun h_7 => ?_, fun h_7 => ?_⟩
    · have f8 : (vp_nar .boolean 0).toInt = 0 := by decide
      have f9 : (0 : Int32).toInt = 0 := by decide
      have g10 : (vp_nar .boolean 0).toInt = (0 : Int32).toInt := by rw [h_7]
      refine ok_some.mpr ?_
      have f11 : (-1000000000 : Int32).toInt = -1000000000 := by decide
      exact ⟨hIσ, hfσ⟩
    · have f12 : (vp_nar .boolean 0).toInt = 0 := by decide
      have f13 : (0 : Int32).toInt = 0 := by decide
      have g14 : (vp_nar .boolean 0).toInt ≠ (0 : Int32).toInt := fun z => h_7 (Int32.toInt_inj.mp z)
      exfalso
      omega
  · have f15 : p1.toInt64.toInt = p1.toInt := Int32.toInt_toInt64 _
    have f16 : (0 : Int64).toInt = 0 := by decide
    have g17 : ¬ p1.toInt64.toInt < (0 : Int64).toInt := fun z => h_3 (Int64.lt_iff_toInt_lt.mpr z)
    refine ok_ite.mpr ⟨fun h_18 => ?_, fun h_18 => ?_⟩
    · have f19 : (1 : Int32).toInt = 1 := by decide
      have f20 : (v1_2 - (1 : Int32)).toInt = v1_2.toInt - (1 : Int32).toInt := isub_toInt (by omega) (by omega)
      have f21 : (v1_2 - 1).toInt64.toInt = (v1_2 - 1).toInt := Int32.toInt_toInt64 _
      have g22 : (v1_2 - 1).toInt64.toInt < p1.toInt64.toInt := Int64.lt_iff_toInt_lt.mp h_18
      refine ok_some.mpr ?_
      refine ok_some.mpr ?_
      refine ok_ite.mpr ⟨fun h_23 => ?_, fun h_23 => ?_⟩
      · have f24 : (vp_nar .boolean 0).toInt = 0 := by decide
        have f25 : (0 : Int32).toInt = 0 := by decide
        have g26 : (vp_nar .boolean 0).toInt = (0 : Int32).toInt := by rw [h_23]
        refine ok_some.mpr ?_
        have f27 : (-1000000000 : Int32).toInt = -1000000000 := by decide
        exact ⟨hIσ, hfσ⟩
      · have f28 : (vp_nar .boolean 0).toInt = 0 := by decide
        have f29 : (0 : Int32).toInt = 0 := by decide
        have g30 : (vp_nar .boolean 0).toInt ≠ (0 : Int32).toInt := fun z => h_23 (Int32.toInt_inj.mp z)
        exfalso
        omega
    · have f31 : (1 : Int32).toInt = 1 := by decide
      have f32 : (v1_2 - (1 : Int32)).toInt = v1_2.toInt - (1 : Int32).toInt := isub_toInt (by omega) (by omega)
      have f33 : (v1_2 - 1).toInt64.toInt = (v1_2 - 1).toInt := Int32.toInt_toInt64 _
      have g34 : ¬ (v1_2 - 1).toInt64.toInt < p1.toInt64.toInt := fun z => h_18 (Int64.lt_iff_toInt_lt.mpr z)
      refine ok_some.mpr ?_
      refine ok_some.mpr ?_
      refine ok_ite.mpr ⟨fun h_35 => ?_, fun h_35 => ?_⟩
      · have f36 : (vp_nar .boolean 1).toInt = 1 := by decide
        have f37 : (0 : Int32).toInt = 0 := by decide
        have g38 : (vp_nar .boolean 1).toInt = (0 : Int32).toInt := by rw [h_35]
        exfalso
        omega
      · have f39 : (vp_nar .boolean 1).toInt = 1 := by decide
        have f40 : (0 : Int32).toInt = 0 := by decide
        have g41 : (vp_nar .boolean 1).toInt ≠ (0 : Int32).toInt := fun z => h_35 (Int32.toInt_inj.mp z)
        refine ok_ite.mpr ⟨fun h_42 => ?_, fun h_42 => ?_⟩
        · have g43 : p2.toInt = (0 : Int32).toInt := by rw [h_42]
          refine ok_bd.mpr ?_
          try unfold fX10_pictureOf
          have f44 : (60 : Int32).toInt = 60 := by decide
          have f45 : ((60 : Int32) + p1).toInt = (60 : Int32).toInt + p1.toInt := iadd_toInt (by omega) (by omega)
          refine ok_gd.mpr ⟨gb_of (by omega) (by omega), ?_⟩
          refine ok_nm2 (fun v1_11 ev1_11 => ?_)
          have f46 : 0 ≤ (σ.1 22 (60 + p1).toNatClampNeg).toInt ∧ (σ.1 22 (60 + p1).toNatClampNeg).toInt ≤ 11 := hIσ 22 _
          have qv1_11 : v1_11.toInt = (σ.1 22 (60 + p1).toNatClampNeg).toInt := congrArg Int32.toInt ev1_11
          refine ok_some.mpr ?_
          refine ok_some.mpr ?_
          exact ⟨hIσ, hfσ⟩
        · have g47 : p2.toInt ≠ (0 : Int32).toInt := fun z => h_42 (Int32.toInt_inj.mp z)
          refine ok_ite.mpr ⟨fun h_48 => ?_, fun h_48 => ?_⟩
          · have g49 : p2.toInt = (1 : Int32).toInt := by rw [h_48]
            refine ok_bd.mpr ?_
            try unfold fX10_pointOf
            have f50 : (60 : Int32).toInt = 60 := by decide
            have f51 : ((60 : Int32) + p1).toInt = (60 : Int32).toInt + p1.toInt := iadd_toInt (by omega) (by omega)
            refine ok_gd.mpr ⟨gb_of (by omega) (by omega), ?_⟩
            refine ok_nm2 (fun v1_13 ev1_13 => ?_)
            have f52 : 0 ≤ (σ.1 23 (60 + p1).toNatClampNeg).toInt ∧ (σ.1 23 (60 + p1).toNatClampNeg).toInt ≤ 19 := hIσ 23 _
            have qv1_13 : v1_13.toInt = (σ.1 23 (60 + p1).toNatClampNeg).toInt := congrArg Int32.toInt ev1_13
            refine ok_some.mpr ?_
            refine ok_some.mpr ?_
            exact ⟨hIσ, hfσ⟩
          · have g53 : p2.toInt ≠ (1 : Int32).toInt := fun z => h_48 (Int32.toInt_inj.mp z)
            refine ok_ite.mpr ⟨fun h_54 => ?_, fun h_54 => ?_⟩
            · have f55 : (2 : Int32).toInt = 2 := by decide
              have g56 : p2.toInt = (2 : Int32).toInt := by rw [h_54]
              try unfold jX10_row_76
              have f57 : (120 : Int32).toInt = 120 := by decide
              have f58 : ((2 : Int32) * p1).toInt = 2 * p1.toInt := imulc (by decide) (by omega) (by omega)
              have f59 : ((120 : Int32) + (2 * p1)).toInt = (120 : Int32).toInt + (2 * p1).toInt := iadd_toInt (by omega) (by omega)
              have f60 : ((120 + (2 * p1)) + p2).toInt = (120 + (2 * p1)).toInt + p2.toInt := iadd_toInt (by omega) (by omega)
              have f61 : (((120 + (2 * p1)) + p2) - (2 : Int32)).toInt = ((120 + (2 * p1)) + p2).toInt - (2 : Int32).toInt := isub_toInt (by omega) (by omega)
              refine ok_gd.mpr ⟨gb_of (by omega) (by omega), ?_⟩
              refine ok_nm2 (fun v10_15 ev10_15 => ?_)
              have qv10_15 : v10_15.toInt = (σ.1 24 (((120 + (2 * p1)) + p2) - 2).toNatClampNeg).toInt := congrArg Int32.toInt ev10_15
              refine ok_some.mpr ?_
              exact ⟨hIσ, hfσ⟩
            · have f62 : (2 : Int32).toInt = 2 := by decide
              have g63 : p2.toInt ≠ (2 : Int32).toInt := fun z => h_54 (Int32.toInt_inj.mp z)
              refine ok_ite.mpr ⟨fun h_64 => ?_, fun h_64 => ?_⟩
              · have f65 : (3 : Int32).toInt = 3 := by decide
                have g66 : p2.toInt = (3 : Int32).toInt := by rw [h_64]
                try unfold jX10_row_76
                have f67 : (120 : Int32).toInt = 120 := by decide
                have f68 : ((2 : Int32) * p1).toInt = 2 * p1.toInt := imulc (by decide) (by omega) (by omega)
                have f69 : ((120 : Int32) + (2 * p1)).toInt = (120 : Int32).toInt + (2 * p1).toInt := iadd_toInt (by omega) (by omega)
                have f70 : ((120 + (2 * p1)) + p2).toInt = (120 + (2 * p1)).toInt + p2.toInt := iadd_toInt (by omega) (by omega)
                have f71 : (((120 + (2 * p1)) + p2) - (2 : Int32)).toInt = ((120 + (2 * p1)) + p2).toInt - (2 : Int32).toInt := isub_toInt (by omega) (by omega)
                refine ok_gd.mpr ⟨gb_of (by omega) (by omega), ?_⟩
                refine ok_nm2 (fun v10_16 ev10_16 => ?_)
                have qv10_16 : v10_16.toInt = (σ.1 24 (((120 + (2 * p1)) + p2) - 2).toNatClampNeg).toInt := congrArg Int32.toInt ev10_16
                refine ok_some.mpr ?_
                exact ⟨hIσ, hfσ⟩
              · have f72 : (3 : Int32).toInt = 3 := by decide
                have g73 : p2.toInt ≠ (3 : Int32).toInt := fun z => h_64 (Int32.toInt_inj.mp z)
                refine ok_ite.mpr ⟨fun h_74 => ?_, fun h_74 => ?_⟩
                · have f75 : (4 : Int32).toInt = 4 := by decide
                  have g76 : p2.toInt = (4 : Int32).toInt := by rw [h_74]
                  refine ok_bd.mpr ?_
                  try unfold fX10_weightOf
                  have f77 : (60 : Int32).toInt = 60 := by decide
                  have f78 : ((60 : Int32) + p1).toInt = (60 : Int32).toInt + p1.toInt := iadd_toInt (by omega) (by omega)
                  refine ok_gd.mpr ⟨gb_of (by omega) (by omega), ?_⟩
                  refine ok_nm2 (fun v1_17 ev1_17 => ?_)
                  have qv1_17 : v1_17.toInt = (σ.1 25 (60 + p1).toNatClampNeg).toInt := congrArg Int32.toInt ev1_17
                  refine ok_some.mpr ?_
                  refine ok_some.mpr ?_
                  exact ⟨hIσ, hfσ⟩
                · have f79 : (4 : Int32).toInt = 4 := by decide
                  have g80 : p2.toInt ≠ (4 : Int32).toInt := fun z => h_74 (Int32.toInt_inj.mp z)
                  refine ok_ite.mpr ⟨fun h_81 => ?_, fun h_81 => ?_⟩
                  · have f82 : (5 : Int32).toInt = 5 := by decide
                    have g83 : p2.toInt = (5 : Int32).toInt := by rw [h_81]
                    refine ok_gd.mpr ⟨gb_of (by omega) (by omega), ?_⟩
                    refine ok_nm2 (fun v16_3_9_10 ev16_3_9_10 => ?_)
                    have qv16_3_9_10 : v16_3_9_10.toInt = (σ.1 26 p1.toNatClampNeg).toInt := congrArg Int32.toInt ev16_3_9_10
                    refine ok_ite.mpr ⟨fun h_84 => ?_, fun h_84 => ?_⟩
                    · have g85 : v16_3_9_10.toInt = (0 : Int32).toInt := by rw [h_84]
                      refine ok_some.mpr ?_
                      exact ⟨hIσ, hfσ⟩
                    · have g86 : v16_3_9_10.toInt ≠ (0 : Int32).toInt := fun z => h_84 (Int32.toInt_inj.mp z)
                      refine ok_some.mpr ?_
                      exact ⟨hIσ, hfσ⟩
                  · have f87 : (5 : Int32).toInt = 5 := by decide
                    have g88 : p2.toInt ≠ (5 : Int32).toInt := fun z => h_81 (Int32.toInt_inj.mp z)
                    refine ok_ite.mpr ⟨fun h_89 => ?_, fun h_89 => ?_⟩
                    · have f90 : (6 : Int32).toInt = 6 := by decide
                      have g91 : p2.toInt = (6 : Int32).toInt := by rw [h_89]
                      try unfold jX10_row_113
                      have f92 : (p2 - (6 : Int32)).toInt = p2.toInt - (6 : Int32).toInt := isub_toInt (by omega) (by omega)
                      refine ok_bd.mpr ((o_fX10_miss hIσ (p1 := p1) (p2 := (p2 - 6)) (by omega) (by omega) (by omega) (by omega)).mono (fun r20_19 ho_94 => ?_))
                      refine ok_some.mpr ?_
                      exact ⟨hIσ, hfσ⟩
                    · have f95 : (6 : Int32).toInt = 6 := by decide
                      have g96 : p2.toInt ≠ (6 : Int32).toInt := fun z => h_89 (Int32.toInt_inj.mp z)
                      refine ok_ite.mpr ⟨fun h_97 => ?_, fun h_97 => ?_⟩
                      · have f98 : (7 : Int32).toInt = 7 := by decide
                        have g99 : p2.toInt = (7 : Int32).toInt := by rw [h_97]
                        try unfold jX10_row_113
                        have f100 : (p2 - (6 : Int32)).toInt = p2.toInt - (6 : Int32).toInt := isub_toInt (by omega) (by omega)
                        refine ok_bd.mpr ((o_fX10_miss hIσ (p1 := p1) (p2 := (p2 - 6)) (by omega) (by omega) (by omega) (by omega)).mono (fun r20_20 ho_102 => ?_))
                        refine ok_some.mpr ?_
                        exact ⟨hIσ, hfσ⟩
                      · have f103 : (7 : Int32).toInt = 7 := by decide
                        have g104 : p2.toInt ≠ (7 : Int32).toInt := fun z => h_97 (Int32.toInt_inj.mp z)
                        refine ok_ite.mpr ⟨fun h_105 => ?_, fun h_105 => ?_⟩
                        · have f106 : (8 : Int32).toInt = 8 := by decide
                          have g107 : p2.toInt = (8 : Int32).toInt := by rw [h_105]
                          refine ok_bd2.mpr ((o_fX10_canShow hIσ (p1 := p1) (by omega) (by omega)).mono (fun o_108 ho_109 => ?_))
                          obtain ⟨r24_3_9_10, σ25_3_9_10⟩ := o_108
                          obtain ⟨hIσ25_3_9_10, hcσ25_3_9_10, r0r24_3_9_10, r1r24_3_9_10⟩ := ho_109
                          dsimp only at hIσ25_3_9_10 hcσ25_3_9_10 r0r24_3_9_10 r1r24_3_9_10 ⊢
                          have hfσ25_3_9_10 : Fr fr_fX10_row σ σ25_3_9_10 := Fr_c hfσ hcσ25_3_9_10 (by decide)
                          refine ok_ite.mpr ⟨fun h_110 => ?_, fun h_110 => ?_⟩
                          · have g111 : r24_3_9_10.toInt = (0 : Int32).toInt := by rw [h_110]
                            refine ok_some.mpr ?_
                            exact ⟨hIσ25_3_9_10, hfσ25_3_9_10⟩
                          · have g112 : r24_3_9_10.toInt ≠ (0 : Int32).toInt := fun z => h_110 (Int32.toInt_inj.mp z)
                            refine ok_some.mpr ?_
                            exact ⟨hIσ25_3_9_10, hfσ25_3_9_10⟩
                        · have f113 : (8 : Int32).toInt = 8 := by decide
                          have g114 : p2.toInt ≠ (8 : Int32).toInt := fun z => h_105 (Int32.toInt_inj.mp z)
                          refine ok_some.mpr ?_
                          have f115 : (-1000000000 : Int32).toInt = -1000000000 := by decide
                          exact ⟨hIσ, hfσ⟩
set_option maxRecDepth 20000 in
set_option maxHeartbeats 2000000 in
theorem o_fX10_hasDrift {σ : gS} (hIσ : JM σ) {p1 : Int32} (h0p1 : 0 ≤ p1.toInt) (h1p1 : p1.toInt ≤ 5) : Ok (fX10_hasDrift σ p1) (fun out => 0 ≤ out.toInt ∧ out.toInt ≤ 1) := by
  unfold fX10_hasDrift
  refine ok_nm2 (fun x1 ex1 => ?_)
  have f1 : (0 : Int32).toInt = 0 := by decide
  have qx1 : x1.toInt = 0 := by rw [ex1]; decide
  refine ok_lpc (I := fun n s => n = (12 + 1 - s.toInt).toNat ∧ 0 ≤ s.toInt ∧ s.toInt ≤ 12) (fun rec2_1r n_1 s_1 hs_1 hrec_1 => ?_) K9 ((12 + 1 - x1.toInt).toNat) x1 ⟨rfl, (show 0 ≤ x1.toInt by omega), (show x1.toInt ≤ 12 by omega)⟩ (by unfold K9; omega)
  obtain ⟨a2_1, hq_1⟩ : ∃ y, y = s_1 := ⟨_, rfl⟩
  subst hq_1
  obtain ⟨hn_1, b0a2_1, b1a2_1⟩ := hs_1
  skip
  unfold bX10_hasDrift_2
  try dsimp only
  refine ok_bd.mpr ?_
  try unfold fX10_pictures
  have f2 : (7 : Int32).toInt = 7 := by decide
  refine ok_gd.mpr ⟨gb_of (by omega) (by omega), ?_⟩
  refine ok_nm2 (fun v1_30 ev1_30 => ?_)
  have f3 : 0 ≤ (σ.1 15 7).toInt ∧ (σ.1 15 7).toInt ≤ 12 := hIσ 15 7
  have qv1_30 : v1_30.toInt = (σ.1 15 7).toInt := congrArg Int32.toInt ev1_30
  refine ok_some.mpr ?_
  refine ok_ite.mpr ⟨fun h_4 => ?_, fun h_4 => ?_⟩
  · have g5 : v1_30.toInt ≤ a2_1.toInt := Int32.le_iff_toInt_le.mp h_4
    refine ok_some.mpr ?_
    exact ⟨(show 0 ≤ (0 : Int32).toInt by omega), (show (0 : Int32).toInt ≤ 1 by omega)⟩
  · have g6 : ¬ v1_30.toInt ≤ a2_1.toInt := fun z => h_4 (Int32.le_iff_toInt_le.mpr z)
    refine ok_bd.mpr ?_
    try unfold fX10_strip
    have f7 : (12 : Int32).toInt = 12 := by decide
    have f8 : ((12 : Int32) + a2_1).toInt = (12 : Int32).toInt + a2_1.toInt := iadd_toInt (by omega) (by omega)
    refine ok_gd.mpr ⟨gb_of (by omega) (by omega), ?_⟩
    refine ok_nm2 (fun v1_32 ev1_32 => ?_)
    have f9 : 0 ≤ (σ.1 16 (12 + a2_1).toNatClampNeg).toInt ∧ (σ.1 16 (12 + a2_1).toNatClampNeg).toInt ≤ 5 := hIσ 16 _
    have qv1_32 : v1_32.toInt = (σ.1 16 (12 + a2_1).toNatClampNeg).toInt := congrArg Int32.toInt ev1_32
    refine ok_some.mpr ?_
    refine ok_ite.mpr ⟨fun h_10 => ?_, fun h_10 => ?_⟩
    · have g11 : v1_32.toInt = p1.toInt := by rw [h_10]
      refine ok_bd.mpr ?_
      try unfold fX10_centreOf
      refine ok_gd.mpr ⟨gb_of (by omega) (by omega), ?_⟩
      refine ok_nm2 (fun v1_34 ev1_34 => ?_)
      have f12 : 0 ≤ (σ.1 18 (12 + a2_1).toNatClampNeg).toInt ∧ (σ.1 18 (12 + a2_1).toNatClampNeg).toInt ≤ 9999 := hIσ 18 _
      have qv1_34 : v1_34.toInt = (σ.1 18 (12 + a2_1).toNatClampNeg).toInt := congrArg Int32.toInt ev1_34
      refine ok_some.mpr ?_
      refine ok_ite.mpr ⟨fun h_13 => ?_, fun h_13 => ?_⟩
      · have g14 : v1_34.toInt ≤ (0 : Int32).toInt := Int32.le_iff_toInt_le.mp h_13
        refine ok_nm2 (fun x12_29_31_33_35 ex12_29_31_33_35 => ?_)
        have f15 : (1 : Int32).toInt = 1 := by decide
        have f16 : (a2_1 + (1 : Int32)).toInt = a2_1.toInt + (1 : Int32).toInt := iadd_toInt (by omega) (by omega)
        have qx12_29_31_33_35 : x12_29_31_33_35.toInt = (a2_1 + 1).toInt := congrArg Int32.toInt ex12_29_31_33_35
        exact hrec_1 _ x12_29_31_33_35 (show (12 + 1 - x12_29_31_33_35.toInt).toNat < n_1 by omega) ⟨rfl, (show 0 ≤ x12_29_31_33_35.toInt by omega), (show x12_29_31_33_35.toInt ≤ 12 by omega)⟩
      · have g17 : ¬ v1_34.toInt ≤ (0 : Int32).toInt := fun z => h_13 (Int32.le_iff_toInt_le.mpr z)
        refine ok_some.mpr ?_
        have f18 : (1 : Int32).toInt = 1 := by decide
        exact ⟨(show 0 ≤ (1 : Int32).toInt by omega), (show (1 : Int32).toInt ≤ 1 by omega)⟩
    · have g19 : v1_32.toInt ≠ p1.toInt := fun z => h_10 (Int32.toInt_inj.mp z)
      refine ok_nm2 (fun x8_29_31_33 ex8_29_31_33 => ?_)
      have f20 : (1 : Int32).toInt = 1 := by decide
      have f21 : (a2_1 + (1 : Int32)).toInt = a2_1.toInt + (1 : Int32).toInt := iadd_toInt (by omega) (by omega)
      have qx8_29_31_33 : x8_29_31_33.toInt = (a2_1 + 1).toInt := congrArg Int32.toInt ex8_29_31_33
      exact hrec_1 _ x8_29_31_33 (show (12 + 1 - x8_29_31_33.toInt).toNat < n_1 by omega) ⟨rfl, (show 0 ≤ x8_29_31_33.toInt by omega), (show x8_29_31_33.toInt ≤ 12 by omega)⟩
set_option maxRecDepth 20000 in
set_option maxHeartbeats 2000000 in
theorem o_fX10_drift {σ : gS} (hIσ : JM σ) {p1 : Int32} {p2 : Int32}  : Ok (fX10_drift σ p1 p2) (fun _ => True) := by
  unfold fX10_drift
  have f1 : (6 : Int32).toInt = 6 := by decide
  refine ok_gd.mpr ⟨gb_of (by omega) (by omega), ?_⟩
  refine ok_nm2 (fun v1 ev1 => ?_)
  have f2 : 0 ≤ (σ.1 15 6).toInt ∧ (σ.1 15 6).toInt ≤ 6 := hIσ 15 6
  have qv1 : v1.toInt = (σ.1 15 6).toInt := congrArg Int32.toInt ev1
  refine ok_bd.mpr ?_
  try unfold fX10_isIn
  refine ok_ite.mpr ⟨fun h_3 => ?_, fun h_3 => ?_⟩
  · have f4 : p1.toInt64.toInt = p1.toInt := Int32.toInt_toInt64 _
    have f5 : (0 : Int64).toInt = 0 := by decide
    have g6 : p1.toInt64.toInt < (0 : Int64).toInt := Int64.lt_iff_toInt_lt.mp h_3
    refine ok_some.mpr ?_
    refine ok_ite.mpr ⟨fun h_7 => ?_, fun h_7 => ?_⟩
    · have f8 : (0 : Int32).toInt = 0 := by decide
      have g9 : (0 : Int32).toInt = (0 : Int32).toInt := by rw [h_7]
      refine ok_some.mpr ?_
      have f10 : (-1000000000 : Int32).toInt = -1000000000 := by decide
      exact trivial
    · have f11 : (0 : Int32).toInt = 0 := by decide
      have g12 : (0 : Int32).toInt ≠ (0 : Int32).toInt := fun z => h_7 (Int32.toInt_inj.mp z)
      exfalso
      omega
  · have f13 : p1.toInt64.toInt = p1.toInt := Int32.toInt_toInt64 _
    have f14 : (0 : Int64).toInt = 0 := by decide
    have g15 : ¬ p1.toInt64.toInt < (0 : Int64).toInt := fun z => h_3 (Int64.lt_iff_toInt_lt.mpr z)
    refine ok_ite.mpr ⟨fun h_16 => ?_, fun h_16 => ?_⟩
    · have f17 : (1 : Int32).toInt = 1 := by decide
      have f18 : (v1 - (1 : Int32)).toInt = v1.toInt - (1 : Int32).toInt := isub_toInt (by omega) (by omega)
      have f19 : (v1 - 1).toInt64.toInt = (v1 - 1).toInt := Int32.toInt_toInt64 _
      have g20 : (v1 - 1).toInt64.toInt < p1.toInt64.toInt := Int64.lt_iff_toInt_lt.mp h_16
      refine ok_some.mpr ?_
      refine ok_ite.mpr ⟨fun h_21 => ?_, fun h_21 => ?_⟩
      · have f22 : (0 : Int32).toInt = 0 := by decide
        have g23 : (0 : Int32).toInt = (0 : Int32).toInt := by rw [h_21]
        refine ok_some.mpr ?_
        have f24 : (-1000000000 : Int32).toInt = -1000000000 := by decide
        exact trivial
      · have f25 : (0 : Int32).toInt = 0 := by decide
        have g26 : (0 : Int32).toInt ≠ (0 : Int32).toInt := fun z => h_21 (Int32.toInt_inj.mp z)
        exfalso
        omega
    · have f27 : (1 : Int32).toInt = 1 := by decide
      have f28 : (v1 - (1 : Int32)).toInt = v1.toInt - (1 : Int32).toInt := isub_toInt (by omega) (by omega)
      have f29 : (v1 - 1).toInt64.toInt = (v1 - 1).toInt := Int32.toInt_toInt64 _
      have g30 : ¬ (v1 - 1).toInt64.toInt < p1.toInt64.toInt := fun z => h_16 (Int64.lt_iff_toInt_lt.mpr z)
      refine ok_some.mpr ?_
      refine ok_ite.mpr ⟨fun h_31 => ?_, fun h_31 => ?_⟩
      · have f32 : (0 : Int32).toInt = 0 := by decide
        have g33 : (1 : Int32).toInt = (0 : Int32).toInt := by rw [h_31]
        exfalso
        omega
      · have f34 : (0 : Int32).toInt = 0 := by decide
        have g35 : (1 : Int32).toInt ≠ (0 : Int32).toInt := fun z => h_31 (Int32.toInt_inj.mp z)
        refine ok_bd.mpr ?_
        try unfold fX10_isIn
        refine ok_ite.mpr ⟨fun h_36 => ?_, fun h_36 => ?_⟩
        · have f37 : p2.toInt64.toInt = p2.toInt := Int32.toInt_toInt64 _
          have g38 : p2.toInt64.toInt < (0 : Int64).toInt := Int64.lt_iff_toInt_lt.mp h_36
          refine ok_some.mpr ?_
          refine ok_ite.mpr ⟨fun h_39 => ?_, fun h_39 => ?_⟩
          · have g40 : (0 : Int32).toInt = (0 : Int32).toInt := by rw [h_39]
            refine ok_some.mpr ?_
            have f41 : (-1000000000 : Int32).toInt = -1000000000 := by decide
            exact trivial
          · have g42 : (0 : Int32).toInt ≠ (0 : Int32).toInt := fun z => h_39 (Int32.toInt_inj.mp z)
            exfalso
            omega
        · have f43 : p2.toInt64.toInt = p2.toInt := Int32.toInt_toInt64 _
          have g44 : ¬ p2.toInt64.toInt < (0 : Int64).toInt := fun z => h_36 (Int64.lt_iff_toInt_lt.mpr z)
          refine ok_ite.mpr ⟨fun h_45 => ?_, fun h_45 => ?_⟩
          · have f46 : (1 : Int64).toInt = 1 := by decide
            have g47 : (1 : Int64).toInt < p2.toInt64.toInt := Int64.lt_iff_toInt_lt.mp h_45
            refine ok_some.mpr ?_
            refine ok_ite.mpr ⟨fun h_48 => ?_, fun h_48 => ?_⟩
            · have g49 : (0 : Int32).toInt = (0 : Int32).toInt := by rw [h_48]
              refine ok_some.mpr ?_
              have f50 : (-1000000000 : Int32).toInt = -1000000000 := by decide
              exact trivial
            · have g51 : (0 : Int32).toInt ≠ (0 : Int32).toInt := fun z => h_48 (Int32.toInt_inj.mp z)
              exfalso
              omega
          · have f52 : (1 : Int64).toInt = 1 := by decide
            have g53 : ¬ (1 : Int64).toInt < p2.toInt64.toInt := fun z => h_45 (Int64.lt_iff_toInt_lt.mpr z)
            refine ok_some.mpr ?_
            refine ok_ite.mpr ⟨fun h_54 => ?_, fun h_54 => ?_⟩
            · have g55 : (1 : Int32).toInt = (0 : Int32).toInt := by rw [h_54]
              exfalso
              omega
            · have g56 : (1 : Int32).toInt ≠ (0 : Int32).toInt := fun z => h_54 (Int32.toInt_inj.mp z)
              refine ok_bd.mpr ((o_fX10_hasDrift hIσ (p1 := p1) (by omega) (by omega)).mono (fun r9_4_8 ho_58 => ?_))
              obtain ⟨r0r9_4_8, r1r9_4_8⟩ := ho_58
              refine ok_ite.mpr ⟨fun h_59 => ?_, fun h_59 => ?_⟩
              · have g60 : r9_4_8.toInt = (0 : Int32).toInt := by rw [h_59]
                refine ok_some.mpr ?_
                have f61 : (-1000000000 : Int32).toInt = -1000000000 := by decide
                exact trivial
              · have g62 : r9_4_8.toInt ≠ (0 : Int32).toInt := fun z => h_59 (Int32.toInt_inj.mp z)
                have f63 : (38 : Int32).toInt = 38 := by decide
                have f64 : ((38 : Int32) * p2).toInt = 38 * p2.toInt := imulc (by decide) (by omega) (by omega)
                have f65 : (32 : Int32).toInt = 32 := by decide
                have f66 : ((38 * p2) + (32 : Int32)).toInt = (38 * p2).toInt + (32 : Int32).toInt := iadd_toInt (by omega) (by omega)
                have f67 : (((38 * p2) + 32) + p1).toInt = ((38 * p2) + 32).toInt + p1.toInt := iadd_toInt (by omega) (by omega)
                refine ok_gd.mpr ⟨gb_of (by omega) (by omega), ?_⟩
                refine ok_nm2 (fun v11_4_8 ev11_4_8 => ?_)
                have qv11_4_8 : v11_4_8.toInt = (σ.1 28 (((38 * p2) + 32) + p1).toNatClampNeg).toInt := congrArg Int32.toInt ev11_4_8
                refine ok_some.mpr ?_
                exact trivial
set_option maxRecDepth 20000 in
set_option maxHeartbeats 2000000 in
theorem o_fX10_start {σ : gS} (hIσ : JM σ)   : Ok (fX10_start σ ) (fun out => JM out.2 ∧ Fr fr_fX10_start σ out.2) := by
  unfold fX10_start
  have hfσ : Fr fr_fX10_start σ σ := Fr_r
  refine ok_bd2.mpr ((o_fX10_starts hIσ  ).mono (fun o_1 ho_2 => ?_))
  obtain ⟨r2, σ3⟩ := o_1
  obtain ⟨hIσ3, hcσ3⟩ := ho_2
  dsimp only at hIσ3 hcσ3 ⊢
  have hfσ3 : Fr fr_fX10_start σ σ3 := Fr_c hfσ hcσ3 (by decide)
  refine ok_some.mpr ?_
  exact ⟨hIσ3, hfσ3⟩
set_option maxRecDepth 20000 in
set_option maxHeartbeats 2000000 in
theorem o_fX10_noMean {σ : gS} (hIσ : JM σ)   : Ok (fX10_noMean σ ) (fun out => JM out ∧ Fr fr_fX10_noMean σ out) := by
  unfold fX10_noMean
  have hfσ : Fr fr_fX10_noMean σ σ := Fr_r
  refine ok_nm2 (fun σ1 eσ1 => ?_)
  have hIσ1 : JM σ1 := by rw [eσ1]; exact JM_l hIσ
  have hfσ1 : Fr fr_fX10_noMean σ σ1 := by rw [eσ1]; exact Fr_l hfσ (by decide)
  refine ok_nm2 (fun σ2 eσ2 => ?_)
  have f1 : (0 : Int32).toInt = 0 := by decide
  have hIσ2 : JM σ2 := by rw [eσ2]; exact JM_w hIσ1 (Int32.le_toInt _) (Int32.toInt_le _)
  have hfσ2 : Fr fr_fX10_noMean σ σ2 := by rw [eσ2]; exact Fr_w hfσ1 (by decide)
  refine ok_some.mpr ?_
  exact ⟨hIσ2, hfσ2⟩
set_option maxRecDepth 20000 in
set_option maxHeartbeats 2000000 in
theorem o_fX10_becomes {σ : gS} (hIσ : JM σ) {p1 : Int32} (h0p1 : 0 ≤ p1.toInt) (h1p1 : p1.toInt ≤ 75) : Ok (fX10_becomes σ p1) (fun out => JM out.2 ∧ Fr fr_fX10_becomes σ out.2 ∧ 0 ≤ out.1.toInt ∧ out.1.toInt ≤ 1) := by
  unfold fX10_becomes
  have hfσ : Fr fr_fX10_becomes σ σ := Fr_r
  refine ok_ite.mpr ⟨fun h_1 => ?_, fun h_1 => ?_⟩
  · have f2 : (0 : Int32).toInt = 0 := by decide
    have g3 : (σ.1 0 41).toInt = (0 : Int32).toInt := by rw [h_1]
    refine ok_some.mpr ?_
    exact ⟨hIσ, hfσ, (show 0 ≤ (0 : Int32).toInt by omega), (show (0 : Int32).toInt ≤ 1 by omega)⟩
  · have f4 : (0 : Int32).toInt = 0 := by decide
    have g5 : (σ.1 0 41).toInt ≠ (0 : Int32).toInt := fun z => h_1 (Int32.toInt_inj.mp z)
    refine ok_gd.mpr ⟨decide_eq_true (fun h_6 => ?_), ?_⟩
    · have f7 : (σ.1 0 41).toInt64.toInt = (σ.1 0 41).toInt := Int32.toInt_toInt64 _
      have f8 : (0 : Int64).toInt = 0 := by decide
      have g9 : (σ.1 0 41).toInt64.toInt = (0 : Int64).toInt := by rw [h_6]
      exfalso
      omega
    refine ok_nm2 (fun x3 ex3 => ?_)
    refine ok_gd.mpr ⟨decide_eq_true (fun h_10 => ?_), ?_⟩
    · have f11 : (σ.1 0 41).toInt64.toInt = (σ.1 0 41).toInt := Int32.toInt_toInt64 _
      have f12 : (0 : Int64).toInt = 0 := by decide
      have g13 : (σ.1 0 41).toInt64.toInt = (0 : Int64).toInt := by rw [h_10]
      exfalso
      omega
    refine ok_nm2 (fun x5 ex5 => ?_)
    refine ok_ite.mpr ⟨fun h_14 => ?_, fun h_14 => ?_⟩
    · have f15 : (0 : Int64).toInt = 0 := by decide
      have g16 : (0 : Int64).toInt ≤ x5.toInt := Int64.le_iff_toInt_le.mp h_14
      try unfold jX10_becomes_53
      refine ok_gd.mpr ⟨gb_of (by omega) (by omega), ?_⟩
      refine ok_nm2 (fun v7_1 ev7_1 => ?_)
      have qv7_1 : v7_1.toInt = (σ.1 28 p1.toNatClampNeg).toInt := congrArg Int32.toInt ev7_1
      refine ok_nm.mpr ?_
      refine ok_ite.mpr ⟨fun h_17 => ?_, fun h_17 => ?_⟩
      · have f18 : (σ.1 0 41).toInt64.toInt = (σ.1 0 41).toInt := Int32.toInt_toInt64 _
        refine ok_nm2 (fun x10_1_2 ex10_1_2 => ?_)
        try unfold jX10_becomes_105
        refine ok_gd.mpr ⟨gb_of (by omega) (by omega), ?_⟩
        refine ok_nm2 (fun σ11_3 eσ11_3 => ?_)
        have hIσ11_3 : JM σ11_3 := by rw [eσ11_3]; exact JM_w hIσ (Int32.le_toInt _) (Int32.toInt_le _)
        have hfσ11_3 : Fr fr_fX10_becomes σ σ11_3 := by rw [eσ11_3]; exact Fr_w0 hfσ (by decide)
        have sσ11_3_0_41 : (σ11_3.1 0 41).toInt = (σ.1 0 41).toInt := by rw [eσ11_3]; rfl
        refine ok_gd.mpr ⟨gb_of (by omega) (by omega), ?_⟩
        refine ok_nm2 (fun v12_3 ev12_3 => ?_)
        have qv12_3 : v12_3.toInt = (σ11_3.1 28 p1.toNatClampNeg).toInt := congrArg Int32.toInt ev12_3
        refine ok_ite.mpr ⟨fun h_19 => ?_, fun h_19 => ?_⟩
        · have g20 : v7_1.toInt = v12_3.toInt := by rw [h_19]
          refine ok_some.mpr ?_
          exact ⟨hIσ11_3, hfσ11_3, (show 0 ≤ (0 : Int32).toInt by omega), (show (0 : Int32).toInt ≤ 1 by omega)⟩
        · have g21 : v7_1.toInt ≠ v12_3.toInt := fun z => h_19 (Int32.toInt_inj.mp z)
          refine ok_some.mpr ?_
          have f22 : (1 : Int32).toInt = 1 := by decide
          exact ⟨hIσ11_3, hfσ11_3, (show 0 ≤ (1 : Int32).toInt by omega), (show (1 : Int32).toInt ≤ 1 by omega)⟩
      · have f23 : (σ.1 0 41).toInt64.toInt = (σ.1 0 41).toInt := Int32.toInt_toInt64 _
        refine ok_ite.mpr ⟨fun h_24 => ?_, fun h_24 => ?_⟩
        · refine ok_ite.mpr ⟨fun h_25 => ?_, fun h_25 => ?_⟩
          · have f26 : v7_1.toInt64.toInt = v7_1.toInt := Int32.toInt_toInt64 _
            refine ok_nm2 (fun x16_1_2 ex16_1_2 => ?_)
            try unfold jX10_becomes_105
            refine ok_gd.mpr ⟨gb_of (by omega) (by omega), ?_⟩
            refine ok_nm2 (fun σ11_4 eσ11_4 => ?_)
            have hIσ11_4 : JM σ11_4 := by rw [eσ11_4]; exact JM_w hIσ (Int32.le_toInt _) (Int32.toInt_le _)
            have hfσ11_4 : Fr fr_fX10_becomes σ σ11_4 := by rw [eσ11_4]; exact Fr_w0 hfσ (by decide)
            have sσ11_4_0_41 : (σ11_4.1 0 41).toInt = (σ.1 0 41).toInt := by rw [eσ11_4]; rfl
            refine ok_gd.mpr ⟨gb_of (by omega) (by omega), ?_⟩
            refine ok_nm2 (fun v12_4 ev12_4 => ?_)
            have qv12_4 : v12_4.toInt = (σ11_4.1 28 p1.toNatClampNeg).toInt := congrArg Int32.toInt ev12_4
            refine ok_ite.mpr ⟨fun h_27 => ?_, fun h_27 => ?_⟩
            · have g28 : v7_1.toInt = v12_4.toInt := by rw [h_27]
              refine ok_some.mpr ?_
              exact ⟨hIσ11_4, hfσ11_4, (show 0 ≤ (0 : Int32).toInt by omega), (show (0 : Int32).toInt ≤ 1 by omega)⟩
            · have g29 : v7_1.toInt ≠ v12_4.toInt := fun z => h_27 (Int32.toInt_inj.mp z)
              refine ok_some.mpr ?_
              have f30 : (1 : Int32).toInt = 1 := by decide
              exact ⟨hIσ11_4, hfσ11_4, (show 0 ≤ (1 : Int32).toInt by omega), (show (1 : Int32).toInt ≤ 1 by omega)⟩
          · have f31 : v7_1.toInt64.toInt = v7_1.toInt := Int32.toInt_toInt64 _
            try unfold jX10_becomes_105
            refine ok_gd.mpr ⟨gb_of (by omega) (by omega), ?_⟩
            refine ok_nm2 (fun σ11_5 eσ11_5 => ?_)
            have hIσ11_5 : JM σ11_5 := by rw [eσ11_5]; exact JM_w hIσ (Int32.le_toInt _) (Int32.toInt_le _)
            have hfσ11_5 : Fr fr_fX10_becomes σ σ11_5 := by rw [eσ11_5]; exact Fr_w0 hfσ (by decide)
            have sσ11_5_0_41 : (σ11_5.1 0 41).toInt = (σ.1 0 41).toInt := by rw [eσ11_5]; rfl
            refine ok_gd.mpr ⟨gb_of (by omega) (by omega), ?_⟩
            refine ok_nm2 (fun v12_5 ev12_5 => ?_)
            have qv12_5 : v12_5.toInt = (σ11_5.1 28 p1.toNatClampNeg).toInt := congrArg Int32.toInt ev12_5
            refine ok_ite.mpr ⟨fun h_32 => ?_, fun h_32 => ?_⟩
            · have g33 : v7_1.toInt = v12_5.toInt := by rw [h_32]
              refine ok_some.mpr ?_
              exact ⟨hIσ11_5, hfσ11_5, (show 0 ≤ (0 : Int32).toInt by omega), (show (0 : Int32).toInt ≤ 1 by omega)⟩
            · have g34 : v7_1.toInt ≠ v12_5.toInt := fun z => h_32 (Int32.toInt_inj.mp z)
              refine ok_some.mpr ?_
              have f35 : (1 : Int32).toInt = 1 := by decide
              exact ⟨hIσ11_5, hfσ11_5, (show 0 ≤ (1 : Int32).toInt by omega), (show (1 : Int32).toInt ≤ 1 by omega)⟩
        · try unfold jX10_becomes_105
          refine ok_gd.mpr ⟨gb_of (by omega) (by omega), ?_⟩
          refine ok_nm2 (fun σ11_6 eσ11_6 => ?_)
          have hIσ11_6 : JM σ11_6 := by rw [eσ11_6]; exact JM_w hIσ (Int32.le_toInt _) (Int32.toInt_le _)
          have hfσ11_6 : Fr fr_fX10_becomes σ σ11_6 := by rw [eσ11_6]; exact Fr_w0 hfσ (by decide)
          have sσ11_6_0_41 : (σ11_6.1 0 41).toInt = (σ.1 0 41).toInt := by rw [eσ11_6]; rfl
          refine ok_gd.mpr ⟨gb_of (by omega) (by omega), ?_⟩
          refine ok_nm2 (fun v12_6 ev12_6 => ?_)
          have qv12_6 : v12_6.toInt = (σ11_6.1 28 p1.toNatClampNeg).toInt := congrArg Int32.toInt ev12_6
          refine ok_ite.mpr ⟨fun h_36 => ?_, fun h_36 => ?_⟩
          · have g37 : v7_1.toInt = v12_6.toInt := by rw [h_36]
            refine ok_some.mpr ?_
            exact ⟨hIσ11_6, hfσ11_6, (show 0 ≤ (0 : Int32).toInt by omega), (show (0 : Int32).toInt ≤ 1 by omega)⟩
          · have g38 : v7_1.toInt ≠ v12_6.toInt := fun z => h_36 (Int32.toInt_inj.mp z)
            refine ok_some.mpr ?_
            have f39 : (1 : Int32).toInt = 1 := by decide
            exact ⟨hIσ11_6, hfσ11_6, (show 0 ≤ (1 : Int32).toInt by omega), (show (1 : Int32).toInt ≤ 1 by omega)⟩
    · have f40 : (0 : Int64).toInt = 0 := by decide
      have g41 : ¬ (0 : Int64).toInt ≤ x5.toInt := fun z => h_14 (Int64.le_iff_toInt_le.mpr z)
      refine ok_nm2 (fun x17 ex17 => ?_)
      refine ok_nm2 (fun x18 ex18 => ?_)
      try unfold jX10_becomes_53
      refine ok_gd.mpr ⟨gb_of (by omega) (by omega), ?_⟩
      refine ok_nm2 (fun v7_7 ev7_7 => ?_)
      have qv7_7 : v7_7.toInt = (σ.1 28 p1.toNatClampNeg).toInt := congrArg Int32.toInt ev7_7
      refine ok_nm.mpr ?_
      refine ok_ite.mpr ⟨fun h_42 => ?_, fun h_42 => ?_⟩
      · have f43 : (σ.1 0 41).toInt64.toInt = (σ.1 0 41).toInt := Int32.toInt_toInt64 _
        refine ok_nm2 (fun x10_7_8 ex10_7_8 => ?_)
        try unfold jX10_becomes_105
        refine ok_gd.mpr ⟨gb_of (by omega) (by omega), ?_⟩
        refine ok_nm2 (fun σ11_9 eσ11_9 => ?_)
        have hIσ11_9 : JM σ11_9 := by rw [eσ11_9]; exact JM_w hIσ (Int32.le_toInt _) (Int32.toInt_le _)
        have hfσ11_9 : Fr fr_fX10_becomes σ σ11_9 := by rw [eσ11_9]; exact Fr_w0 hfσ (by decide)
        have sσ11_9_0_41 : (σ11_9.1 0 41).toInt = (σ.1 0 41).toInt := by rw [eσ11_9]; rfl
        refine ok_gd.mpr ⟨gb_of (by omega) (by omega), ?_⟩
        refine ok_nm2 (fun v12_9 ev12_9 => ?_)
        have qv12_9 : v12_9.toInt = (σ11_9.1 28 p1.toNatClampNeg).toInt := congrArg Int32.toInt ev12_9
        refine ok_ite.mpr ⟨fun h_44 => ?_, fun h_44 => ?_⟩
        · have g45 : v7_7.toInt = v12_9.toInt := by rw [h_44]
          refine ok_some.mpr ?_
          exact ⟨hIσ11_9, hfσ11_9, (show 0 ≤ (0 : Int32).toInt by omega), (show (0 : Int32).toInt ≤ 1 by omega)⟩
        · have g46 : v7_7.toInt ≠ v12_9.toInt := fun z => h_44 (Int32.toInt_inj.mp z)
          refine ok_some.mpr ?_
          have f47 : (1 : Int32).toInt = 1 := by decide
          exact ⟨hIσ11_9, hfσ11_9, (show 0 ≤ (1 : Int32).toInt by omega), (show (1 : Int32).toInt ≤ 1 by omega)⟩
      · have f48 : (σ.1 0 41).toInt64.toInt = (σ.1 0 41).toInt := Int32.toInt_toInt64 _
        refine ok_ite.mpr ⟨fun h_49 => ?_, fun h_49 => ?_⟩
        · refine ok_ite.mpr ⟨fun h_50 => ?_, fun h_50 => ?_⟩
          · have f51 : v7_7.toInt64.toInt = v7_7.toInt := Int32.toInt_toInt64 _
            refine ok_nm2 (fun x16_7_8 ex16_7_8 => ?_)
            try unfold jX10_becomes_105
            refine ok_gd.mpr ⟨gb_of (by omega) (by omega), ?_⟩
            refine ok_nm2 (fun σ11_10 eσ11_10 => ?_)
            have hIσ11_10 : JM σ11_10 := by rw [eσ11_10]; exact JM_w hIσ (Int32.le_toInt _) (Int32.toInt_le _)
            have hfσ11_10 : Fr fr_fX10_becomes σ σ11_10 := by rw [eσ11_10]; exact Fr_w0 hfσ (by decide)
            have sσ11_10_0_41 : (σ11_10.1 0 41).toInt = (σ.1 0 41).toInt := by rw [eσ11_10]; rfl
            refine ok_gd.mpr ⟨gb_of (by omega) (by omega), ?_⟩
            refine ok_nm2 (fun v12_10 ev12_10 => ?_)
            have qv12_10 : v12_10.toInt = (σ11_10.1 28 p1.toNatClampNeg).toInt := congrArg Int32.toInt ev12_10
            refine ok_ite.mpr ⟨fun h_52 => ?_, fun h_52 => ?_⟩
            · have g53 : v7_7.toInt = v12_10.toInt := by rw [h_52]
              refine ok_some.mpr ?_
              exact ⟨hIσ11_10, hfσ11_10, (show 0 ≤ (0 : Int32).toInt by omega), (show (0 : Int32).toInt ≤ 1 by omega)⟩
            · have g54 : v7_7.toInt ≠ v12_10.toInt := fun z => h_52 (Int32.toInt_inj.mp z)
              refine ok_some.mpr ?_
              have f55 : (1 : Int32).toInt = 1 := by decide
              exact ⟨hIσ11_10, hfσ11_10, (show 0 ≤ (1 : Int32).toInt by omega), (show (1 : Int32).toInt ≤ 1 by omega)⟩
          · have f56 : v7_7.toInt64.toInt = v7_7.toInt := Int32.toInt_toInt64 _
            try unfold jX10_becomes_105
            refine ok_gd.mpr ⟨gb_of (by omega) (by omega), ?_⟩
            refine ok_nm2 (fun σ11_11 eσ11_11 => ?_)
            have hIσ11_11 : JM σ11_11 := by rw [eσ11_11]; exact JM_w hIσ (Int32.le_toInt _) (Int32.toInt_le _)
            have hfσ11_11 : Fr fr_fX10_becomes σ σ11_11 := by rw [eσ11_11]; exact Fr_w0 hfσ (by decide)
            have sσ11_11_0_41 : (σ11_11.1 0 41).toInt = (σ.1 0 41).toInt := by rw [eσ11_11]; rfl
            refine ok_gd.mpr ⟨gb_of (by omega) (by omega), ?_⟩
            refine ok_nm2 (fun v12_11 ev12_11 => ?_)
            have qv12_11 : v12_11.toInt = (σ11_11.1 28 p1.toNatClampNeg).toInt := congrArg Int32.toInt ev12_11
            refine ok_ite.mpr ⟨fun h_57 => ?_, fun h_57 => ?_⟩
            · have g58 : v7_7.toInt = v12_11.toInt := by rw [h_57]
              refine ok_some.mpr ?_
              exact ⟨hIσ11_11, hfσ11_11, (show 0 ≤ (0 : Int32).toInt by omega), (show (0 : Int32).toInt ≤ 1 by omega)⟩
            · have g59 : v7_7.toInt ≠ v12_11.toInt := fun z => h_57 (Int32.toInt_inj.mp z)
              refine ok_some.mpr ?_
              have f60 : (1 : Int32).toInt = 1 := by decide
              exact ⟨hIσ11_11, hfσ11_11, (show 0 ≤ (1 : Int32).toInt by omega), (show (1 : Int32).toInt ≤ 1 by omega)⟩
        · try unfold jX10_becomes_105
          refine ok_gd.mpr ⟨gb_of (by omega) (by omega), ?_⟩
          refine ok_nm2 (fun σ11_12 eσ11_12 => ?_)
          have hIσ11_12 : JM σ11_12 := by rw [eσ11_12]; exact JM_w hIσ (Int32.le_toInt _) (Int32.toInt_le _)
          have hfσ11_12 : Fr fr_fX10_becomes σ σ11_12 := by rw [eσ11_12]; exact Fr_w0 hfσ (by decide)
          have sσ11_12_0_41 : (σ11_12.1 0 41).toInt = (σ.1 0 41).toInt := by rw [eσ11_12]; rfl
          refine ok_gd.mpr ⟨gb_of (by omega) (by omega), ?_⟩
          refine ok_nm2 (fun v12_12 ev12_12 => ?_)
          have qv12_12 : v12_12.toInt = (σ11_12.1 28 p1.toNatClampNeg).toInt := congrArg Int32.toInt ev12_12
          refine ok_ite.mpr ⟨fun h_61 => ?_, fun h_61 => ?_⟩
          · have g62 : v7_7.toInt = v12_12.toInt := by rw [h_61]
            refine ok_some.mpr ?_
            exact ⟨hIσ11_12, hfσ11_12, (show 0 ≤ (0 : Int32).toInt by omega), (show (0 : Int32).toInt ≤ 1 by omega)⟩
          · have g63 : v7_7.toInt ≠ v12_12.toInt := fun z => h_61 (Int32.toInt_inj.mp z)
            refine ok_some.mpr ?_
            have f64 : (1 : Int32).toInt = 1 := by decide
            exact ⟨hIσ11_12, hfσ11_12, (show 0 ≤ (1 : Int32).toInt by omega), (show (1 : Int32).toInt ≤ 1 by omega)⟩
set_option maxRecDepth 20000 in
set_option maxHeartbeats 2000000 in
theorem o_fX10_mean {σ : gS} (hIσ : JM σ) {p1 : Int32} {p2 : Int32}  : Ok (fX10_mean σ p1 p2) (fun out => JM out ∧ Fr fr_fX10_mean σ out) := by
  unfold fX10_mean
  have hfσ : Fr fr_fX10_mean σ σ := Fr_r
  refine ok_nm2 (fun σ1 eσ1 => ?_)
  have hIσ1 : JM σ1 := by rw [eσ1]; exact JM_l hIσ
  have hfσ1 : Fr fr_fX10_mean σ σ1 := by rw [eσ1]; exact Fr_l hfσ (by decide)
  have sσ1_0_41 : (σ1.1 0 41).toInt = (σ.1 0 41).toInt := by rw [eσ1]; rfl
  refine ok_nm2 (fun σ2 eσ2 => ?_)
  have hIσ2 : JM σ2 := by rw [eσ2]; exact JM_w hIσ1 (Int32.le_toInt _) (Int32.toInt_le _)
  have hfσ2 : Fr fr_fX10_mean σ σ2 := by rw [eσ2]; exact Fr_w hfσ1 (by decide)
  have sσ2_0_41 : (σ2.1 0 41).toInt = ((σ1.1 0 41) + p1).toInt := by rw [eσ2]; rfl
  refine ok_some.mpr ?_
  exact ⟨hIσ2, hfσ2⟩
set_option maxRecDepth 20000 in
set_option maxHeartbeats 2000000 in
theorem o_fX10_isDriftAltered {σ : gS} (hIσ : JM σ) {p1 : Int32} {p2 : Int32} (h0p1 : 0 ≤ p1.toInt) (h1p1 : p1.toInt ≤ 5) (h0p2 : 0 ≤ p2.toInt) (h1p2 : p2.toInt ≤ 1) : Ok (fX10_isDriftAltered σ p1 p2) (fun out => JM out.2 ∧ Fr fr_fX10_isDriftAltered σ out.2 ∧ 0 ≤ out.1.toInt ∧ out.1.toInt ≤ 1) := by
  unfold fX10_isDriftAltered
  have hfσ : Fr fr_fX10_isDriftAltered σ σ := Fr_r
  refine ok_bd.mpr ((o_fX10_noMean hIσ  ).mono (fun σ2 ho_2 => ?_))
  obtain ⟨hIσ2, hcσ2⟩ := ho_2
  have hfσ2 : Fr fr_fX10_isDriftAltered σ σ2 := Fr_c hfσ hcσ2 (by decide)
  refine ok_nm2 (fun x3 ex3 => ?_)
  have f3 : (0 : Int32).toInt = 0 := by decide
  have qx3 : x3.toInt = 0 := by rw [ex3]; decide
  refine ok_lpc (I := fun n s => n = (12 + 1 - s.1.toInt).toNat ∧ JM s.2 ∧ Fr fr_fX10_isDriftAltered σ s.2 ∧ 0 ≤ s.1.toInt ∧ s.1.toInt ≤ 12) (fun rec6_1r n_1 s_1 hs_1 hrec_1 => ?_) K9 ((12 + 1 - x3.toInt).toNat) (x3, σ2) ⟨rfl, hIσ2, hfσ2, (show 0 ≤ x3.toInt by omega), (show x3.toInt ≤ 12 by omega)⟩ (by unfold K9; omega)
  obtain ⟨a3_1, σ1_1⟩ := s_1
  obtain ⟨hn_1, hIσ1_1, hfσ1_1, b0a3_1, b1a3_1⟩ := hs_1
  dsimp only at hn_1 hIσ1_1 hfσ1_1 b0a3_1 b1a3_1
  unfold bX10_isDriftAltered_6
  try dsimp only
  refine ok_bd.mpr ?_
  try unfold fX10_pictures
  have f4 : (7 : Int32).toInt = 7 := by decide
  refine ok_gd.mpr ⟨gb_of (by omega) (by omega), ?_⟩
  refine ok_nm2 (fun v1_39 ev1_39 => ?_)
  have f5 : 0 ≤ (σ1_1.1 15 7).toInt ∧ (σ1_1.1 15 7).toInt ≤ 12 := hIσ1_1 15 7
  have qv1_39 : v1_39.toInt = (σ1_1.1 15 7).toInt := congrArg Int32.toInt ev1_39
  refine ok_some.mpr ?_
  refine ok_ite.mpr ⟨fun h_6 => ?_, fun h_6 => ?_⟩
  · have g7 : v1_39.toInt ≤ a3_1.toInt := Int32.le_iff_toInt_le.mp h_6
    have f8 : (38 : Int32).toInt = 38 := by decide
    have f9 : ((38 : Int32) * p2).toInt = 38 * p2.toInt := imulc (by decide) (by omega) (by omega)
    have f10 : (32 : Int32).toInt = 32 := by decide
    have f11 : ((38 * p2) + (32 : Int32)).toInt = (38 * p2).toInt + (32 : Int32).toInt := iadd_toInt (by omega) (by omega)
    have f12 : (((38 * p2) + 32) + p1).toInt = ((38 * p2) + 32).toInt + p1.toInt := iadd_toInt (by omega) (by omega)
    refine ok_bd2.mpr ((o_fX10_becomes hIσ1_1 (p1 := (((38 * p2) + 32) + p1)) (by omega) (by omega)).mono (fun o_13 ho_14 => ?_))
    obtain ⟨r8_38_40, σ9_38_40⟩ := o_13
    obtain ⟨hIσ9_38_40, hcσ9_38_40, r0r8_38_40, r1r8_38_40⟩ := ho_14
    dsimp only at hIσ9_38_40 hcσ9_38_40 r0r8_38_40 r1r8_38_40 ⊢
    have hfσ9_38_40 : Fr fr_fX10_isDriftAltered σ σ9_38_40 := Fr_c hfσ1_1 hcσ9_38_40 (by decide)
    refine ok_some.mpr ?_
    have f15 : (vp_nar .boolean r8_38_40).toInt = r8_38_40.toInt := nar_bool2 (by omega) (by omega)
    exact ⟨hIσ9_38_40, hfσ9_38_40, (show 0 ≤ (vp_nar .boolean r8_38_40).toInt by omega), (show (vp_nar .boolean r8_38_40).toInt ≤ 1 by omega)⟩
  · have g16 : ¬ v1_39.toInt ≤ a3_1.toInt := fun z => h_6 (Int32.le_iff_toInt_le.mpr z)
    refine ok_bd.mpr ?_
    try unfold fX10_strip
    have f17 : (12 : Int32).toInt = 12 := by decide
    have f18 : ((12 : Int32) + a3_1).toInt = (12 : Int32).toInt + a3_1.toInt := iadd_toInt (by omega) (by omega)
    refine ok_gd.mpr ⟨gb_of (by omega) (by omega), ?_⟩
    refine ok_nm2 (fun v1_41 ev1_41 => ?_)
    have f19 : 0 ≤ (σ1_1.1 16 (12 + a3_1).toNatClampNeg).toInt ∧ (σ1_1.1 16 (12 + a3_1).toNatClampNeg).toInt ≤ 5 := hIσ1_1 16 _
    have qv1_41 : v1_41.toInt = (σ1_1.1 16 (12 + a3_1).toNatClampNeg).toInt := congrArg Int32.toInt ev1_41
    refine ok_some.mpr ?_
    refine ok_ite.mpr ⟨fun h_20 => ?_, fun h_20 => ?_⟩
    · have g21 : v1_41.toInt = p1.toInt := by rw [h_20]
      refine ok_bd.mpr ?_
      try unfold fX10_centreOf
      refine ok_gd.mpr ⟨gb_of (by omega) (by omega), ?_⟩
      refine ok_nm2 (fun v1_43 ev1_43 => ?_)
      have f22 : 0 ≤ (σ1_1.1 18 (12 + a3_1).toNatClampNeg).toInt ∧ (σ1_1.1 18 (12 + a3_1).toNatClampNeg).toInt ≤ 9999 := hIσ1_1 18 _
      have qv1_43 : v1_43.toInt = (σ1_1.1 18 (12 + a3_1).toNatClampNeg).toInt := congrArg Int32.toInt ev1_43
      refine ok_some.mpr ?_
      refine ok_ite.mpr ⟨fun h_23 => ?_, fun h_23 => ?_⟩
      · have g24 : v1_43.toInt ≤ (0 : Int32).toInt := Int32.le_iff_toInt_le.mp h_23
        refine ok_nm2 (fun x17_38_40_42_44 ex17_38_40_42_44 => ?_)
        have f25 : (1 : Int32).toInt = 1 := by decide
        have f26 : (a3_1 + (1 : Int32)).toInt = a3_1.toInt + (1 : Int32).toInt := iadd_toInt (by omega) (by omega)
        have qx17_38_40_42_44 : x17_38_40_42_44.toInt = (a3_1 + 1).toInt := congrArg Int32.toInt ex17_38_40_42_44
        exact hrec_1 _ (x17_38_40_42_44, σ1_1) (show (12 + 1 - x17_38_40_42_44.toInt).toNat < n_1 by omega) ⟨rfl, hIσ1_1, hfσ1_1, (show 0 ≤ x17_38_40_42_44.toInt by omega), (show x17_38_40_42_44.toInt ≤ 12 by omega)⟩
      · have g27 : ¬ v1_43.toInt ≤ (0 : Int32).toInt := fun z => h_23 (Int32.le_iff_toInt_le.mpr z)
        refine ok_bd.mpr ?_
        try unfold fX10_centreOf
        refine ok_gd.mpr ⟨gb_of (by omega) (by omega), ?_⟩
        refine ok_nm2 (fun v1_45 ev1_45 => ?_)
        have qv1_45 : v1_45.toInt = (σ1_1.1 18 (12 + a3_1).toNatClampNeg).toInt := congrArg Int32.toInt ev1_45
        refine ok_some.mpr ?_
        have f28 : (38 : Int32).toInt = 38 := by decide
        have f29 : ((38 : Int32) * p2).toInt = 38 * p2.toInt := imulc (by decide) (by omega) (by omega)
        have f30 : ((38 * p2) + a3_1).toInt = (38 * p2).toInt + a3_1.toInt := iadd_toInt (by omega) (by omega)
        refine ok_gd.mpr ⟨gb_of (by omega) (by omega), ?_⟩
        refine ok_nm2 (fun v20_38_40_42_44_46 ev20_38_40_42_44_46 => ?_)
        have qv20_38_40_42_44_46 : v20_38_40_42_44_46.toInt = (σ1_1.1 28 ((38 * p2) + a3_1).toNatClampNeg).toInt := congrArg Int32.toInt ev20_38_40_42_44_46
        have f31 : (24 : Int32).toInt = 24 := by decide
        have f32 : (2 : Int32).toInt = 2 := by decide
        have f33 : ((2 : Int32) * a3_1).toInt = 2 * a3_1.toInt := imulc (by decide) (by omega) (by omega)
        have f34 : ((24 : Int32) + (2 * a3_1)).toInt = (24 : Int32).toInt + (2 * a3_1).toInt := iadd_toInt (by omega) (by omega)
        have f35 : ((24 + (2 * a3_1)) + p2).toInt = (24 + (2 * a3_1)).toInt + p2.toInt := iadd_toInt (by omega) (by omega)
        refine ok_gd.mpr ⟨gb_of (by omega) (by omega), ?_⟩
        refine ok_nm2 (fun v21_38_40_42_44_46 ev21_38_40_42_44_46 => ?_)
        have qv21_38_40_42_44_46 : v21_38_40_42_44_46.toInt = (σ1_1.1 19 ((24 + (2 * a3_1)) + p2).toNatClampNeg).toInt := congrArg Int32.toInt ev21_38_40_42_44_46
        have f36 : (100 : Int32).toInt = 100 := by decide
        refine ok_bd.mpr ((o_fX10_mean hIσ1_1 (p1 := v1_45) (p2 := (v20_38_40_42_44_46 - (100 * v21_38_40_42_44_46))) ).mono (fun σ23_38_40_42_44_46 ho_38 => ?_))
        obtain ⟨hIσ23_38_40_42_44_46, hcσ23_38_40_42_44_46⟩ := ho_38
        have hfσ23_38_40_42_44_46 : Fr fr_fX10_isDriftAltered σ σ23_38_40_42_44_46 := Fr_c hfσ1_1 hcσ23_38_40_42_44_46 (by decide)
        refine ok_nm2 (fun x24_38_40_42_44_46 ex24_38_40_42_44_46 => ?_)
        have f39 : (1 : Int32).toInt = 1 := by decide
        have f40 : (a3_1 + (1 : Int32)).toInt = a3_1.toInt + (1 : Int32).toInt := iadd_toInt (by omega) (by omega)
        have qx24_38_40_42_44_46 : x24_38_40_42_44_46.toInt = (a3_1 + 1).toInt := congrArg Int32.toInt ex24_38_40_42_44_46
        exact hrec_1 _ (x24_38_40_42_44_46, σ23_38_40_42_44_46) (show (12 + 1 - x24_38_40_42_44_46.toInt).toNat < n_1 by omega) ⟨rfl, hIσ23_38_40_42_44_46, hfσ23_38_40_42_44_46, (show 0 ≤ x24_38_40_42_44_46.toInt by omega), (show x24_38_40_42_44_46.toInt ≤ 12 by omega)⟩
    · have g41 : v1_41.toInt ≠ p1.toInt := fun z => h_20 (Int32.toInt_inj.mp z)
      refine ok_nm2 (fun x13_38_40_42 ex13_38_40_42 => ?_)
      have f42 : (1 : Int32).toInt = 1 := by decide
      have f43 : (a3_1 + (1 : Int32)).toInt = a3_1.toInt + (1 : Int32).toInt := iadd_toInt (by omega) (by omega)
      have qx13_38_40_42 : x13_38_40_42.toInt = (a3_1 + 1).toInt := congrArg Int32.toInt ex13_38_40_42
      exact hrec_1 _ (x13_38_40_42, σ1_1) (show (12 + 1 - x13_38_40_42.toInt).toNat < n_1 by omega) ⟨rfl, hIσ1_1, hfσ1_1, (show 0 ≤ x13_38_40_42.toInt by omega), (show x13_38_40_42.toInt ≤ 12 by omega)⟩
set_option maxRecDepth 20000 in
set_option maxHeartbeats 2000000 in
theorem o_fX10_isPictureAltered {σ : gS} (hIσ : JM σ) {p1 : Int32} {p2 : Int32} (h0p1 : 0 ≤ p1.toInt) (h1p1 : p1.toInt ≤ 11) (h0p2 : 0 ≤ p2.toInt) (h1p2 : p2.toInt ≤ 1) : Ok (fX10_isPictureAltered σ p1 p2) (fun out => JM out.2 ∧ Fr fr_fX10_isPictureAltered σ out.2 ∧ 0 ≤ out.1.toInt ∧ out.1.toInt ≤ 1) := by
  unfold fX10_isPictureAltered
  have hfσ : Fr fr_fX10_isPictureAltered σ σ := Fr_r
  refine ok_bd.mpr ((o_fX10_noMean hIσ  ).mono (fun σ2 ho_2 => ?_))
  obtain ⟨hIσ2, hcσ2⟩ := ho_2
  have hfσ2 : Fr fr_fX10_isPictureAltered σ σ2 := Fr_c hfσ hcσ2 (by decide)
  refine ok_nm2 (fun x3 ex3 => ?_)
  have f3 : (0 : Int32).toInt = 0 := by decide
  have qx3 : x3.toInt = 0 := by rw [ex3]; decide
  refine ok_lpc (I := fun n s => n = (60 + 1 - s.1.toInt).toNat ∧ JM s.2 ∧ Fr fr_fX10_isPictureAltered σ s.2 ∧ 0 ≤ s.1.toInt ∧ s.1.toInt ≤ 60) (fun rec6_1r n_1 s_1 hs_1 hrec_1 => ?_) K9 ((60 + 1 - x3.toInt).toNat) (x3, σ2) ⟨rfl, hIσ2, hfσ2, (show 0 ≤ x3.toInt by omega), (show x3.toInt ≤ 60 by omega)⟩ (by unfold K9; omega)
  obtain ⟨a3_1, σ1_1⟩ := s_1
  obtain ⟨hn_1, hIσ1_1, hfσ1_1, b0a3_1, b1a3_1⟩ := hs_1
  dsimp only at hn_1 hIσ1_1 hfσ1_1 b0a3_1 b1a3_1
  unfold bX10_isPictureAltered_6
  try dsimp only
  refine ok_bd.mpr ?_
  try unfold fX10_rows
  have f4 : (9 : Int32).toInt = 9 := by decide
  refine ok_gd.mpr ⟨gb_of (by omega) (by omega), ?_⟩
  refine ok_nm2 (fun v1_129 ev1_129 => ?_)
  have f5 : 0 ≤ (σ1_1.1 15 9).toInt ∧ (σ1_1.1 15 9).toInt ≤ 60 := hIσ1_1 15 9
  have qv1_129 : v1_129.toInt = (σ1_1.1 15 9).toInt := congrArg Int32.toInt ev1_129
  refine ok_some.mpr ?_
  refine ok_ite.mpr ⟨fun h_6 => ?_, fun h_6 => ?_⟩
  · have g7 : v1_129.toInt ≤ a3_1.toInt := Int32.le_iff_toInt_le.mp h_6
    refine ok_bd.mpr ?_
    try unfold fX10_centreOf
    have f8 : (12 : Int32).toInt = 12 := by decide
    have f9 : ((12 : Int32) + p1).toInt = (12 : Int32).toInt + p1.toInt := iadd_toInt (by omega) (by omega)
    refine ok_gd.mpr ⟨gb_of (by omega) (by omega), ?_⟩
    refine ok_nm2 (fun v1_131 ev1_131 => ?_)
    have f10 : 0 ≤ (σ1_1.1 18 (12 + p1).toNatClampNeg).toInt ∧ (σ1_1.1 18 (12 + p1).toNatClampNeg).toInt ≤ 9999 := hIσ1_1 18 _
    have qv1_131 : v1_131.toInt = (σ1_1.1 18 (12 + p1).toNatClampNeg).toInt := congrArg Int32.toInt ev1_131
    refine ok_some.mpr ?_
    refine ok_ite.mpr ⟨fun h_11 => ?_, fun h_11 => ?_⟩
    · have g12 : v1_131.toInt ≤ (0 : Int32).toInt := Int32.le_iff_toInt_le.mp h_11
      try unfold jX10_isPictureAltered_124
      have f13 : (38 : Int32).toInt = 38 := by decide
      have f14 : ((38 : Int32) * p2).toInt = 38 * p2.toInt := imulc (by decide) (by omega) (by omega)
      have f15 : ((38 * p2) + p1).toInt = (38 * p2).toInt + p1.toInt := iadd_toInt (by omega) (by omega)
      refine ok_bd2.mpr ((o_fX10_becomes hIσ1_1 (p1 := ((38 * p2) + p1)) (by omega) (by omega)).mono (fun o_16 ho_17 => ?_))
      obtain ⟨r11_133, σ12_133⟩ := o_16
      obtain ⟨hIσ12_133, hcσ12_133, r0r11_133, r1r11_133⟩ := ho_17
      dsimp only at hIσ12_133 hcσ12_133 r0r11_133 r1r11_133 ⊢
      have hfσ12_133 : Fr fr_fX10_isPictureAltered σ σ12_133 := Fr_c hfσ1_1 hcσ12_133 (by decide)
      refine ok_some.mpr ?_
      have f18 : (vp_nar .boolean r11_133).toInt = r11_133.toInt := nar_bool2 (by omega) (by omega)
      exact ⟨hIσ12_133, hfσ12_133, (show 0 ≤ (vp_nar .boolean r11_133).toInt by omega), (show (vp_nar .boolean r11_133).toInt ≤ 1 by omega)⟩
    · have g19 : ¬ v1_131.toInt ≤ (0 : Int32).toInt := fun z => h_11 (Int32.le_iff_toInt_le.mpr z)
      refine ok_bd.mpr ?_
      try unfold fX10_centreOf
      refine ok_gd.mpr ⟨gb_of (by omega) (by omega), ?_⟩
      refine ok_nm2 (fun v1_134 ev1_134 => ?_)
      have qv1_134 : v1_134.toInt = (σ1_1.1 18 (12 + p1).toNatClampNeg).toInt := congrArg Int32.toInt ev1_134
      refine ok_some.mpr ?_
      refine ok_bd.mpr ?_
      try unfold fX10_strip
      refine ok_gd.mpr ⟨gb_of (by omega) (by omega), ?_⟩
      refine ok_nm2 (fun v1_136 ev1_136 => ?_)
      have f20 : 0 ≤ (σ1_1.1 16 (12 + p1).toNatClampNeg).toInt ∧ (σ1_1.1 16 (12 + p1).toNatClampNeg).toInt ≤ 5 := hIσ1_1 16 _
      have qv1_136 : v1_136.toInt = (σ1_1.1 16 (12 + p1).toNatClampNeg).toInt := congrArg Int32.toInt ev1_136
      refine ok_some.mpr ?_
      have f21 : (38 : Int32).toInt = 38 := by decide
      have f22 : ((38 : Int32) * p2).toInt = 38 * p2.toInt := imulc (by decide) (by omega) (by omega)
      have f23 : (32 : Int32).toInt = 32 := by decide
      have f24 : ((38 * p2) + (32 : Int32)).toInt = (38 * p2).toInt + (32 : Int32).toInt := iadd_toInt (by omega) (by omega)
      have f25 : (((38 * p2) + 32) + v1_136).toInt = ((38 * p2) + 32).toInt + v1_136.toInt := iadd_toInt (by omega) (by omega)
      refine ok_gd.mpr ⟨gb_of (by omega) (by omega), ?_⟩
      refine ok_nm2 (fun v17_128_130_132_135_137 ev17_128_130_132_135_137 => ?_)
      have qv17_128_130_132_135_137 : v17_128_130_132_135_137.toInt = (σ1_1.1 28 (((38 * p2) + 32) + v1_136).toNatClampNeg).toInt := congrArg Int32.toInt ev17_128_130_132_135_137
      have f26 : (24 : Int32).toInt = 24 := by decide
      have f27 : (2 : Int32).toInt = 2 := by decide
      have f28 : ((2 : Int32) * p1).toInt = 2 * p1.toInt := imulc (by decide) (by omega) (by omega)
      have f29 : ((24 : Int32) + (2 * p1)).toInt = (24 : Int32).toInt + (2 * p1).toInt := iadd_toInt (by omega) (by omega)
      have f30 : ((24 + (2 * p1)) + p2).toInt = (24 + (2 * p1)).toInt + p2.toInt := iadd_toInt (by omega) (by omega)
      refine ok_gd.mpr ⟨gb_of (by omega) (by omega), ?_⟩
      refine ok_nm2 (fun v18_128_130_132_135_137 ev18_128_130_132_135_137 => ?_)
      have qv18_128_130_132_135_137 : v18_128_130_132_135_137.toInt = (σ1_1.1 19 ((24 + (2 * p1)) + p2).toNatClampNeg).toInt := congrArg Int32.toInt ev18_128_130_132_135_137
      have f31 : (100 : Int32).toInt = 100 := by decide
      refine ok_bd.mpr ((o_fX10_mean hIσ1_1 (p1 := v1_134) (p2 := (v17_128_130_132_135_137 + (100 * v18_128_130_132_135_137))) ).mono (fun σ20_128_130_132_135_137 ho_33 => ?_))
      obtain ⟨hIσ20_128_130_132_135_137, hcσ20_128_130_132_135_137⟩ := ho_33
      have hfσ20_128_130_132_135_137 : Fr fr_fX10_isPictureAltered σ σ20_128_130_132_135_137 := Fr_c hfσ1_1 hcσ20_128_130_132_135_137 (by decide)
      try unfold jX10_isPictureAltered_124
      have f34 : ((38 * p2) + p1).toInt = (38 * p2).toInt + p1.toInt := iadd_toInt (by omega) (by omega)
      refine ok_bd2.mpr ((o_fX10_becomes hIσ20_128_130_132_135_137 (p1 := ((38 * p2) + p1)) (by omega) (by omega)).mono (fun o_35 ho_36 => ?_))
      obtain ⟨r11_138, σ12_138⟩ := o_35
      obtain ⟨hIσ12_138, hcσ12_138, r0r11_138, r1r11_138⟩ := ho_36
      dsimp only at hIσ12_138 hcσ12_138 r0r11_138 r1r11_138 ⊢
      have hfσ12_138 : Fr fr_fX10_isPictureAltered σ σ12_138 := Fr_c hfσ20_128_130_132_135_137 hcσ12_138 (by decide)
      refine ok_some.mpr ?_
      have f37 : (vp_nar .boolean r11_138).toInt = r11_138.toInt := nar_bool2 (by omega) (by omega)
      exact ⟨hIσ12_138, hfσ12_138, (show 0 ≤ (vp_nar .boolean r11_138).toInt by omega), (show (vp_nar .boolean r11_138).toInt ≤ 1 by omega)⟩
  · have g38 : ¬ v1_129.toInt ≤ a3_1.toInt := fun z => h_6 (Int32.le_iff_toInt_le.mpr z)
    refine ok_gd.mpr ⟨gb_of (by omega) (by omega), ?_⟩
    refine ok_nm2 (fun v21_128_130 ev21_128_130 => ?_)
    have qv21_128_130 : v21_128_130.toInt = (σ1_1.1 26 a3_1.toNatClampNeg).toInt := congrArg Int32.toInt ev21_128_130
    refine ok_ite.mpr ⟨fun h_39 => ?_, fun h_39 => ?_⟩
    · have g40 : v21_128_130.toInt = (0 : Int32).toInt := by rw [h_39]
      refine ok_bd.mpr ?_
      try unfold fX10_pictureOf
      have f41 : (60 : Int32).toInt = 60 := by decide
      have f42 : ((60 : Int32) + a3_1).toInt = (60 : Int32).toInt + a3_1.toInt := iadd_toInt (by omega) (by omega)
      refine ok_gd.mpr ⟨gb_of (by omega) (by omega), ?_⟩
      refine ok_nm2 (fun v1_139 ev1_139 => ?_)
      have f43 : 0 ≤ (σ1_1.1 22 (60 + a3_1).toNatClampNeg).toInt ∧ (σ1_1.1 22 (60 + a3_1).toNatClampNeg).toInt ≤ 11 := hIσ1_1 22 _
      have qv1_139 : v1_139.toInt = (σ1_1.1 22 (60 + a3_1).toNatClampNeg).toInt := congrArg Int32.toInt ev1_139
      refine ok_some.mpr ?_
      refine ok_ite.mpr ⟨fun h_44 => ?_, fun h_44 => ?_⟩
      · have g45 : v1_139.toInt = p1.toInt := by rw [h_44]
        refine ok_bd.mpr ?_
        try unfold fX10_weightOf
        refine ok_gd.mpr ⟨gb_of (by omega) (by omega), ?_⟩
        refine ok_nm2 (fun v1_141 ev1_141 => ?_)
        have qv1_141 : v1_141.toInt = (σ1_1.1 25 (60 + a3_1).toNatClampNeg).toInt := congrArg Int32.toInt ev1_141
        refine ok_some.mpr ?_
        refine ok_bd.mpr ?_
        try unfold fX10_pointOf
        refine ok_gd.mpr ⟨gb_of (by omega) (by omega), ?_⟩
        refine ok_nm2 (fun v1_143 ev1_143 => ?_)
        have f46 : 0 ≤ (σ1_1.1 23 (60 + a3_1).toNatClampNeg).toInt ∧ (σ1_1.1 23 (60 + a3_1).toNatClampNeg).toInt ≤ 19 := hIσ1_1 23 _
        have qv1_143 : v1_143.toInt = (σ1_1.1 23 (60 + a3_1).toNatClampNeg).toInt := congrArg Int32.toInt ev1_143
        refine ok_some.mpr ?_
        have f47 : (38 : Int32).toInt = 38 := by decide
        have f48 : ((38 : Int32) * p2).toInt = 38 * p2.toInt := imulc (by decide) (by omega) (by omega)
        have f49 : (12 : Int32).toInt = 12 := by decide
        have f50 : ((38 * p2) + (12 : Int32)).toInt = (38 * p2).toInt + (12 : Int32).toInt := iadd_toInt (by omega) (by omega)
        have f51 : (((38 * p2) + 12) + v1_143).toInt = ((38 * p2) + 12).toInt + v1_143.toInt := iadd_toInt (by omega) (by omega)
        refine ok_gd.mpr ⟨gb_of (by omega) (by omega), ?_⟩
        refine ok_nm2 (fun v32_128_130_140_142_144 ev32_128_130_140_142_144 => ?_)
        have qv32_128_130_140_142_144 : v32_128_130_140_142_144.toInt = (σ1_1.1 28 (((38 * p2) + 12) + v1_143).toNatClampNeg).toInt := congrArg Int32.toInt ev32_128_130_140_142_144
        refine ok_bd.mpr ((o_fX10_turned hIσ1_1 (p1 := a3_1) (p2 := p2) (by omega) (by omega) (by omega) (by omega)).mono (fun r34_128_130_140_142_144 ho_53 => ?_))
        refine ok_bd.mpr ((o_fX10_mean hIσ1_1 (p1 := v1_141) (p2 := (v32_128_130_140_142_144 - r34_128_130_140_142_144)) ).mono (fun σ36_128_130_140_142_144 ho_55 => ?_))
        obtain ⟨hIσ36_128_130_140_142_144, hcσ36_128_130_140_142_144⟩ := ho_55
        have hfσ36_128_130_140_142_144 : Fr fr_fX10_isPictureAltered σ σ36_128_130_140_142_144 := Fr_c hfσ1_1 hcσ36_128_130_140_142_144 (by decide)
        refine ok_nm2 (fun x37_128_130_140_142_144 ex37_128_130_140_142_144 => ?_)
        have f56 : (1 : Int32).toInt = 1 := by decide
        have f57 : (a3_1 + (1 : Int32)).toInt = a3_1.toInt + (1 : Int32).toInt := iadd_toInt (by omega) (by omega)
        have qx37_128_130_140_142_144 : x37_128_130_140_142_144.toInt = (a3_1 + 1).toInt := congrArg Int32.toInt ex37_128_130_140_142_144
        exact hrec_1 _ (x37_128_130_140_142_144, σ36_128_130_140_142_144) (show (60 + 1 - x37_128_130_140_142_144.toInt).toNat < n_1 by omega) ⟨rfl, hIσ36_128_130_140_142_144, hfσ36_128_130_140_142_144, (show 0 ≤ x37_128_130_140_142_144.toInt by omega), (show x37_128_130_140_142_144.toInt ≤ 60 by omega)⟩
      · have g58 : v1_139.toInt ≠ p1.toInt := fun z => h_44 (Int32.toInt_inj.mp z)
        refine ok_nm2 (fun x27_128_130_140 ex27_128_130_140 => ?_)
        have f59 : (1 : Int32).toInt = 1 := by decide
        have f60 : (a3_1 + (1 : Int32)).toInt = a3_1.toInt + (1 : Int32).toInt := iadd_toInt (by omega) (by omega)
        have qx27_128_130_140 : x27_128_130_140.toInt = (a3_1 + 1).toInt := congrArg Int32.toInt ex27_128_130_140
        exact hrec_1 _ (x27_128_130_140, σ1_1) (show (60 + 1 - x27_128_130_140.toInt).toNat < n_1 by omega) ⟨rfl, hIσ1_1, hfσ1_1, (show 0 ≤ x27_128_130_140.toInt by omega), (show x27_128_130_140.toInt ≤ 60 by omega)⟩
    · have g61 : v21_128_130.toInt ≠ (0 : Int32).toInt := fun z => h_39 (Int32.toInt_inj.mp z)
      refine ok_nm2 (fun x23_128_130 ex23_128_130 => ?_)
      have f62 : (1 : Int32).toInt = 1 := by decide
      have f63 : (a3_1 + (1 : Int32)).toInt = a3_1.toInt + (1 : Int32).toInt := iadd_toInt (by omega) (by omega)
      have qx23_128_130 : x23_128_130.toInt = (a3_1 + 1).toInt := congrArg Int32.toInt ex23_128_130
      exact hrec_1 _ (x23_128_130, σ1_1) (show (60 + 1 - x23_128_130.toInt).toNat < n_1 by omega) ⟨rfl, hIσ1_1, hfσ1_1, (show 0 ≤ x23_128_130.toInt by omega), (show x23_128_130.toInt ≤ 60 by omega)⟩
set_option maxRecDepth 20000 in
set_option maxHeartbeats 2000000 in
theorem o_fX10_isPointAltered {σ : gS} (hIσ : JM σ) {p1 : Int32} {p2 : Int32} (h0p1 : 0 ≤ p1.toInt) (h1p1 : p1.toInt ≤ 19) (h0p2 : 0 ≤ p2.toInt) (h1p2 : p2.toInt ≤ 1) : Ok (fX10_isPointAltered σ p1 p2) (fun out => JM out.2 ∧ Fr fr_fX10_isPointAltered σ out.2 ∧ 0 ≤ out.1.toInt ∧ out.1.toInt ≤ 1) := by
  unfold fX10_isPointAltered
  have hfσ : Fr fr_fX10_isPointAltered σ σ := Fr_r
  refine ok_bd.mpr ((o_fX10_noMean hIσ  ).mono (fun σ2 ho_2 => ?_))
  obtain ⟨hIσ2, hcσ2⟩ := ho_2
  have hfσ2 : Fr fr_fX10_isPointAltered σ σ2 := Fr_c hfσ hcσ2 (by decide)
  refine ok_nm2 (fun x3 ex3 => ?_)
  have f3 : (0 : Int32).toInt = 0 := by decide
  have qx3 : x3.toInt = 0 := by rw [ex3]; decide
  refine ok_lpc (I := fun n s => n = (60 + 1 - s.1.toInt).toNat ∧ JM s.2 ∧ Fr fr_fX10_isPointAltered σ s.2 ∧ 0 ≤ s.1.toInt ∧ s.1.toInt ≤ 60) (fun rec6_1r n_1 s_1 hs_1 hrec_1 => ?_) K9 ((60 + 1 - x3.toInt).toNat) (x3, σ2) ⟨rfl, hIσ2, hfσ2, (show 0 ≤ x3.toInt by omega), (show x3.toInt ≤ 60 by omega)⟩ (by unfold K9; omega)
  obtain ⟨a3_1, σ1_1⟩ := s_1
  obtain ⟨hn_1, hIσ1_1, hfσ1_1, b0a3_1, b1a3_1⟩ := hs_1
  dsimp only at hn_1 hIσ1_1 hfσ1_1 b0a3_1 b1a3_1
  unfold bX10_isPointAltered_6
  try dsimp only
  refine ok_bd.mpr ?_
  try unfold fX10_rows
  have f4 : (9 : Int32).toInt = 9 := by decide
  refine ok_gd.mpr ⟨gb_of (by omega) (by omega), ?_⟩
  refine ok_nm2 (fun v1_57 ev1_57 => ?_)
  have f5 : 0 ≤ (σ1_1.1 15 9).toInt ∧ (σ1_1.1 15 9).toInt ≤ 60 := hIσ1_1 15 9
  have qv1_57 : v1_57.toInt = (σ1_1.1 15 9).toInt := congrArg Int32.toInt ev1_57
  refine ok_some.mpr ?_
  refine ok_ite.mpr ⟨fun h_6 => ?_, fun h_6 => ?_⟩
  · have g7 : v1_57.toInt ≤ a3_1.toInt := Int32.le_iff_toInt_le.mp h_6
    have f8 : (38 : Int32).toInt = 38 := by decide
    have f9 : ((38 : Int32) * p2).toInt = 38 * p2.toInt := imulc (by decide) (by omega) (by omega)
    have f10 : (12 : Int32).toInt = 12 := by decide
    have f11 : ((38 * p2) + (12 : Int32)).toInt = (38 * p2).toInt + (12 : Int32).toInt := iadd_toInt (by omega) (by omega)
    have f12 : (((38 * p2) + 12) + p1).toInt = ((38 * p2) + 12).toInt + p1.toInt := iadd_toInt (by omega) (by omega)
    refine ok_bd2.mpr ((o_fX10_becomes hIσ1_1 (p1 := (((38 * p2) + 12) + p1)) (by omega) (by omega)).mono (fun o_13 ho_14 => ?_))
    obtain ⟨r8_56_58, σ9_56_58⟩ := o_13
    obtain ⟨hIσ9_56_58, hcσ9_56_58, r0r8_56_58, r1r8_56_58⟩ := ho_14
    dsimp only at hIσ9_56_58 hcσ9_56_58 r0r8_56_58 r1r8_56_58 ⊢
    have hfσ9_56_58 : Fr fr_fX10_isPointAltered σ σ9_56_58 := Fr_c hfσ1_1 hcσ9_56_58 (by decide)
    refine ok_some.mpr ?_
    have f15 : (vp_nar .boolean r8_56_58).toInt = r8_56_58.toInt := nar_bool2 (by omega) (by omega)
    exact ⟨hIσ9_56_58, hfσ9_56_58, (show 0 ≤ (vp_nar .boolean r8_56_58).toInt by omega), (show (vp_nar .boolean r8_56_58).toInt ≤ 1 by omega)⟩
  · have g16 : ¬ v1_57.toInt ≤ a3_1.toInt := fun z => h_6 (Int32.le_iff_toInt_le.mpr z)
    refine ok_gd.mpr ⟨gb_of (by omega) (by omega), ?_⟩
    refine ok_nm2 (fun v10_56_58 ev10_56_58 => ?_)
    have qv10_56_58 : v10_56_58.toInt = (σ1_1.1 26 a3_1.toNatClampNeg).toInt := congrArg Int32.toInt ev10_56_58
    refine ok_ite.mpr ⟨fun h_17 => ?_, fun h_17 => ?_⟩
    · have g18 : v10_56_58.toInt = (0 : Int32).toInt := by rw [h_17]
      refine ok_bd.mpr ?_
      try unfold fX10_pointOf
      have f19 : (60 : Int32).toInt = 60 := by decide
      have f20 : ((60 : Int32) + a3_1).toInt = (60 : Int32).toInt + a3_1.toInt := iadd_toInt (by omega) (by omega)
      refine ok_gd.mpr ⟨gb_of (by omega) (by omega), ?_⟩
      refine ok_nm2 (fun v1_59 ev1_59 => ?_)
      have f21 : 0 ≤ (σ1_1.1 23 (60 + a3_1).toNatClampNeg).toInt ∧ (σ1_1.1 23 (60 + a3_1).toNatClampNeg).toInt ≤ 19 := hIσ1_1 23 _
      have qv1_59 : v1_59.toInt = (σ1_1.1 23 (60 + a3_1).toNatClampNeg).toInt := congrArg Int32.toInt ev1_59
      refine ok_some.mpr ?_
      refine ok_ite.mpr ⟨fun h_22 => ?_, fun h_22 => ?_⟩
      · have g23 : v1_59.toInt = p1.toInt := by rw [h_22]
        refine ok_bd.mpr ?_
        try unfold fX10_weightOf
        refine ok_gd.mpr ⟨gb_of (by omega) (by omega), ?_⟩
        refine ok_nm2 (fun v1_61 ev1_61 => ?_)
        have qv1_61 : v1_61.toInt = (σ1_1.1 25 (60 + a3_1).toNatClampNeg).toInt := congrArg Int32.toInt ev1_61
        refine ok_some.mpr ?_
        refine ok_bd.mpr ((o_fX10_put hIσ1_1 (p1 := a3_1) (p2 := p2) (by omega) (by omega) (by omega) (by omega)).mono (fun r20_56_58_60_62 ho_25 => ?_))
        refine ok_bd.mpr ((o_fX10_mean hIσ1_1 (p1 := v1_61) (p2 := r20_56_58_60_62) ).mono (fun σ22_56_58_60_62 ho_27 => ?_))
        obtain ⟨hIσ22_56_58_60_62, hcσ22_56_58_60_62⟩ := ho_27
        have hfσ22_56_58_60_62 : Fr fr_fX10_isPointAltered σ σ22_56_58_60_62 := Fr_c hfσ1_1 hcσ22_56_58_60_62 (by decide)
        refine ok_nm2 (fun x23_56_58_60_62 ex23_56_58_60_62 => ?_)
        have f28 : (1 : Int32).toInt = 1 := by decide
        have f29 : (a3_1 + (1 : Int32)).toInt = a3_1.toInt + (1 : Int32).toInt := iadd_toInt (by omega) (by omega)
        have qx23_56_58_60_62 : x23_56_58_60_62.toInt = (a3_1 + 1).toInt := congrArg Int32.toInt ex23_56_58_60_62
        exact hrec_1 _ (x23_56_58_60_62, σ22_56_58_60_62) (show (60 + 1 - x23_56_58_60_62.toInt).toNat < n_1 by omega) ⟨rfl, hIσ22_56_58_60_62, hfσ22_56_58_60_62, (show 0 ≤ x23_56_58_60_62.toInt by omega), (show x23_56_58_60_62.toInt ≤ 60 by omega)⟩
      · have g30 : v1_59.toInt ≠ p1.toInt := fun z => h_22 (Int32.toInt_inj.mp z)
        refine ok_nm2 (fun x16_56_58_60 ex16_56_58_60 => ?_)
        have f31 : (1 : Int32).toInt = 1 := by decide
        have f32 : (a3_1 + (1 : Int32)).toInt = a3_1.toInt + (1 : Int32).toInt := iadd_toInt (by omega) (by omega)
        have qx16_56_58_60 : x16_56_58_60.toInt = (a3_1 + 1).toInt := congrArg Int32.toInt ex16_56_58_60
        exact hrec_1 _ (x16_56_58_60, σ1_1) (show (60 + 1 - x16_56_58_60.toInt).toNat < n_1 by omega) ⟨rfl, hIσ1_1, hfσ1_1, (show 0 ≤ x16_56_58_60.toInt by omega), (show x16_56_58_60.toInt ≤ 60 by omega)⟩
    · have g33 : v10_56_58.toInt ≠ (0 : Int32).toInt := fun z => h_17 (Int32.toInt_inj.mp z)
      refine ok_nm2 (fun x12_56_58 ex12_56_58 => ?_)
      have f34 : (1 : Int32).toInt = 1 := by decide
      have f35 : (a3_1 + (1 : Int32)).toInt = a3_1.toInt + (1 : Int32).toInt := iadd_toInt (by omega) (by omega)
      have qx12_56_58 : x12_56_58.toInt = (a3_1 + 1).toInt := congrArg Int32.toInt ex12_56_58
      exact hrec_1 _ (x12_56_58, σ1_1) (show (60 + 1 - x12_56_58.toInt).toNat < n_1 by omega) ⟨rfl, hIσ1_1, hfσ1_1, (show 0 ≤ x12_56_58.toInt by omega), (show x12_56_58.toInt ≤ 60 by omega)⟩
set_option maxRecDepth 20000 in
set_option maxHeartbeats 2000000 in
theorem o_fX10_isRound {σ : gS} (hIσ : JM σ)   : Ok (fX10_isRound σ ) (fun out => JM out.2 ∧ Fr fr_fX10_isRound σ out.2 ∧ 0 ≤ out.1.toInt ∧ out.1.toInt ≤ 1) := by
  unfold fX10_isRound
  have hfσ : Fr fr_fX10_isRound σ σ := Fr_r
  refine ok_nm2 (fun x1 ex1 => ?_)
  have f1 : (0 : Int32).toInt = 0 := by decide
  have qx1 : x1.toInt = 0 := by rw [ex1]; decide
  refine ok_nm2 (fun x2 ex2 => ?_)
  have qx2 : x2.toInt = 0 := by rw [ex2]; decide
  refine ok_lpc (I := fun n s => n = (20 + 1 - s.2.1.toInt).toNat ∧ JM s.2.2 ∧ Fr fr_fX10_isRound σ s.2.2 ∧ 0 ≤ s.1.toInt ∧ s.1.toInt ≤ 1 ∧ 0 ≤ s.2.1.toInt ∧ s.2.1.toInt ≤ 20) (fun rec4_1r n_1 s_1 hs_1 hrec_1 => ?_) K9 ((20 + 1 - x2.toInt).toNat) (x1, x2, σ) ⟨rfl, hIσ, hfσ, (show 0 ≤ x1.toInt by omega), (show x1.toInt ≤ 1 by omega), (show 0 ≤ x2.toInt by omega), (show x2.toInt ≤ 20 by omega)⟩ (by unfold K9; omega)
  obtain ⟨a1_1, a2_1, σ1_1⟩ := s_1
  obtain ⟨hn_1, hIσ1_1, hfσ1_1, b0a1_1, b1a1_1, b0a2_1, b1a2_1⟩ := hs_1
  dsimp only at hn_1 hIσ1_1 hfσ1_1 b0a1_1 b1a1_1 b0a2_1 b1a2_1
  unfold bX10_isRound_4
  try dsimp only
  refine ok_bd.mpr ?_
  try unfold fX10_points
  have f2 : (8 : Int32).toInt = 8 := by decide
  refine ok_gd.mpr ⟨gb_of (by omega) (by omega), ?_⟩
  refine ok_nm2 (fun v1_69 ev1_69 => ?_)
  have f3 : 0 ≤ (σ1_1.1 15 8).toInt ∧ (σ1_1.1 15 8).toInt ≤ 20 := hIσ1_1 15 8
  have qv1_69 : v1_69.toInt = (σ1_1.1 15 8).toInt := congrArg Int32.toInt ev1_69
  refine ok_some.mpr ?_
  refine ok_ite.mpr ⟨fun h_4 => ?_, fun h_4 => ?_⟩
  · have g5 : v1_69.toInt ≤ a2_1.toInt := Int32.le_iff_toInt_le.mp h_4
    refine ok_nm2 (fun x6_66_70 ex6_66_70 => ?_)
    have qx6_66_70 : x6_66_70.toInt = 0 := by rw [ex6_66_70]; decide
    refine ok_lpc (I := fun n s => n = (12 + 1 - s.2.1.toInt).toNat ∧ JM s.2.2 ∧ Fr fr_fX10_isRound σ s.2.2 ∧ 0 ≤ s.1.toInt ∧ s.1.toInt ≤ 1 ∧ 0 ≤ s.2.1.toInt ∧ s.2.1.toInt ≤ 12) (fun rec52_71r n_71 s_71 hs_71 hrec_71 => ?_) K9 ((12 + 1 - x6_66_70.toInt).toNat) (a1_1, x6_66_70, σ1_1) ⟨rfl, hIσ1_1, hfσ1_1, (show 0 ≤ a1_1.toInt by omega), (show a1_1.toInt ≤ 1 by omega), (show 0 ≤ x6_66_70.toInt by omega), (show x6_66_70.toInt ≤ 12 by omega)⟩ (by unfold K9; omega)
    obtain ⟨a1_71, a2_71, σ1_71⟩ := s_71
    obtain ⟨hn_71, hIσ1_71, hfσ1_71, b0a1_71, b1a1_71, b0a2_71, b1a2_71⟩ := hs_71
    dsimp only at hn_71 hIσ1_71 hfσ1_71 b0a1_71 b1a1_71 b0a2_71 b1a2_71
    unfold bX10_isRound_52
    try dsimp only
    refine ok_bd.mpr ?_
    try unfold fX10_pictures
    have f6 : (7 : Int32).toInt = 7 := by decide
    refine ok_gd.mpr ⟨gb_of (by omega) (by omega), ?_⟩
    refine ok_nm2 (fun v1_84 ev1_84 => ?_)
    have f7 : 0 ≤ (σ1_71.1 15 7).toInt ∧ (σ1_71.1 15 7).toInt ≤ 12 := hIσ1_71 15 7
    have qv1_84 : v1_84.toInt = (σ1_71.1 15 7).toInt := congrArg Int32.toInt ev1_84
    refine ok_some.mpr ?_
    refine ok_ite.mpr ⟨fun h_8 => ?_, fun h_8 => ?_⟩
    · have g9 : v1_84.toInt ≤ a2_71.toInt := Int32.le_iff_toInt_le.mp h_8
      refine ok_nm2 (fun x10_81_85 ex10_81_85 => ?_)
      have qx10_81_85 : x10_81_85.toInt = 0 := by rw [ex10_81_85]; decide
      refine ok_lpc (I := fun n s => n = (6 + 1 - s.2.1.toInt).toNat ∧ JM s.2.2 ∧ Fr fr_fX10_isRound σ s.2.2 ∧ 0 ≤ s.1.toInt ∧ s.1.toInt ≤ 1 ∧ 0 ≤ s.2.1.toInt ∧ s.2.1.toInt ≤ 6) (fun rec92_86r n_86 s_86 hs_86 hrec_86 => ?_) K9 ((6 + 1 - x10_81_85.toInt).toNat) (a1_71, x10_81_85, σ1_71) ⟨rfl, hIσ1_71, hfσ1_71, (show 0 ≤ a1_71.toInt by omega), (show a1_71.toInt ≤ 1 by omega), (show 0 ≤ x10_81_85.toInt by omega), (show x10_81_85.toInt ≤ 6 by omega)⟩ (by unfold K9; omega)
      obtain ⟨a1_86, a2_86, σ1_86⟩ := s_86
      obtain ⟨hn_86, hIσ1_86, hfσ1_86, b0a1_86, b1a1_86, b0a2_86, b1a2_86⟩ := hs_86
      dsimp only at hn_86 hIσ1_86 hfσ1_86 b0a1_86 b1a1_86 b0a2_86 b1a2_86
      unfold bX10_isRound_92
      try dsimp only
      have f10 : (6 : Int32).toInt = 6 := by decide
      refine ok_gd.mpr ⟨gb_of (by omega) (by omega), ?_⟩
      refine ok_nm2 (fun v11_87 ev11_87 => ?_)
      have f11 : 0 ≤ (σ1_86.1 15 6).toInt ∧ (σ1_86.1 15 6).toInt ≤ 6 := hIσ1_86 15 6
      have qv11_87 : v11_87.toInt = (σ1_86.1 15 6).toInt := congrArg Int32.toInt ev11_87
      refine ok_ite.mpr ⟨fun h_12 => ?_, fun h_12 => ?_⟩
      · have g13 : v11_87.toInt ≤ a2_86.toInt := Int32.le_iff_toInt_le.mp h_12
        refine ok_some.mpr ?_
        have f14 : (vp_nar .boolean a1_86).toInt = a1_86.toInt := nar_bool2 (by omega) (by omega)
        exact ⟨hIσ1_86, hfσ1_86, (show 0 ≤ (vp_nar .boolean a1_86).toInt by omega), (show (vp_nar .boolean a1_86).toInt ≤ 1 by omega)⟩
      · have g15 : ¬ v11_87.toInt ≤ a2_86.toInt := fun z => h_12 (Int32.le_iff_toInt_le.mpr z)
        refine ok_nm2 (fun x13_87 ex13_87 => ?_)
        have qx13_87 : x13_87.toInt = 0 := by rw [ex13_87]; decide
        refine ok_lpc (I := fun n s => n = (3 + 1 - s.2.1.toInt).toNat ∧ JM s.2.2 ∧ Fr fr_fX10_isRound σ s.2.2 ∧ 0 ≤ s.1.toInt ∧ s.1.toInt ≤ 1 ∧ 0 ≤ s.2.1.toInt ∧ s.2.1.toInt ≤ 3) (fun rec105_90r n_90 s_90 hs_90 hrec_90 => ?_) K9 ((3 + 1 - x13_87.toInt).toNat) (a1_86, x13_87, σ1_86) ⟨rfl, hIσ1_86, hfσ1_86, (show 0 ≤ a1_86.toInt by omega), (show a1_86.toInt ≤ 1 by omega), (show 0 ≤ x13_87.toInt by omega), (show x13_87.toInt ≤ 3 by omega)⟩ (by unfold K9; omega)
        obtain ⟨a1_90, a3_90, σ1_90⟩ := s_90
        obtain ⟨hn_90, hIσ1_90, hfσ1_90, b0a1_90, b1a1_90, b0a3_90, b1a3_90⟩ := hs_90
        dsimp only at hn_90 hIσ1_90 hfσ1_90 b0a1_90 b1a1_90 b0a3_90 b1a3_90
        unfold bX10_isRound_105
        try dsimp only
        refine ok_ite.mpr ⟨fun h_16 => ?_, fun h_16 => ?_⟩
        · have f17 : (2 : Int32).toInt = 2 := by decide
          have g18 : (2 : Int32).toInt ≤ a3_90.toInt := Int32.le_iff_toInt_le.mp h_16
          refine ok_nm2 (fun x15_91 ex15_91 => ?_)
          have f19 : (1 : Int32).toInt = 1 := by decide
          have f20 : (a2_86 + (1 : Int32)).toInt = a2_86.toInt + (1 : Int32).toInt := iadd_toInt (by omega) (by omega)
          have qx15_91 : x15_91.toInt = (a2_86 + 1).toInt := congrArg Int32.toInt ex15_91
          exact hrec_86 _ (a1_90, x15_91, σ1_90) (show (6 + 1 - x15_91.toInt).toNat < n_86 by omega) ⟨rfl, hIσ1_90, hfσ1_90, (show 0 ≤ a1_90.toInt by omega), (show a1_90.toInt ≤ 1 by omega), (show 0 ≤ x15_91.toInt by omega), (show x15_91.toInt ≤ 6 by omega)⟩
        · have f21 : (2 : Int32).toInt = 2 := by decide
          have g22 : ¬ (2 : Int32).toInt ≤ a3_90.toInt := fun z => h_16 (Int32.le_iff_toInt_le.mpr z)
          refine ok_bd2.mpr ((o_fX10_isDriftAltered hIσ1_90 (p1 := a2_86) (p2 := a3_90) (by omega) (by omega) (by omega) (by omega)).mono (fun o_23 ho_24 => ?_))
          obtain ⟨r17_91, σ18_91⟩ := o_23
          obtain ⟨hIσ18_91, hcσ18_91, r0r17_91, r1r17_91⟩ := ho_24
          dsimp only at hIσ18_91 hcσ18_91 r0r17_91 r1r17_91 ⊢
          have hfσ18_91 : Fr fr_fX10_isRound σ σ18_91 := Fr_c hfσ1_90 hcσ18_91 (by decide)
          refine ok_ite.mpr ⟨fun h_25 => ?_, fun h_25 => ?_⟩
          · have g26 : r17_91.toInt = (0 : Int32).toInt := by rw [h_25]
            refine ok_nm2 (fun x20_91 ex20_91 => ?_)
            have f27 : (1 : Int32).toInt = 1 := by decide
            have f28 : (a3_90 + (1 : Int32)).toInt = a3_90.toInt + (1 : Int32).toInt := iadd_toInt (by omega) (by omega)
            have qx20_91 : x20_91.toInt = (a3_90 + 1).toInt := congrArg Int32.toInt ex20_91
            exact hrec_90 _ (a1_90, x20_91, σ18_91) (show (3 + 1 - x20_91.toInt).toNat < n_90 by omega) ⟨rfl, hIσ18_91, hfσ18_91, (show 0 ≤ a1_90.toInt by omega), (show a1_90.toInt ≤ 1 by omega), (show 0 ≤ x20_91.toInt by omega), (show x20_91.toInt ≤ 3 by omega)⟩
          · have g29 : r17_91.toInt ≠ (0 : Int32).toInt := fun z => h_25 (Int32.toInt_inj.mp z)
            refine ok_nm2 (fun x21_91 ex21_91 => ?_)
            have f30 : (1 : Int32).toInt = 1 := by decide
            have qx21_91 : x21_91.toInt = 1 := by rw [ex21_91]; decide
            refine ok_nm2 (fun x22_91 ex22_91 => ?_)
            have f31 : (a3_90 + (1 : Int32)).toInt = a3_90.toInt + (1 : Int32).toInt := iadd_toInt (by omega) (by omega)
            have qx22_91 : x22_91.toInt = (a3_90 + 1).toInt := congrArg Int32.toInt ex22_91
            exact hrec_90 _ (x21_91, x22_91, σ18_91) (show (3 + 1 - x22_91.toInt).toNat < n_90 by omega) ⟨rfl, hIσ18_91, hfσ18_91, (show 0 ≤ x21_91.toInt by omega), (show x21_91.toInt ≤ 1 by omega), (show 0 ≤ x22_91.toInt by omega), (show x22_91.toInt ≤ 3 by omega)⟩
    · have g32 : ¬ v1_84.toInt ≤ a2_71.toInt := fun z => h_8 (Int32.le_iff_toInt_le.mpr z)
      refine ok_nm2 (fun x23_81_85 ex23_81_85 => ?_)
      have qx23_81_85 : x23_81_85.toInt = 0 := by rw [ex23_81_85]; decide
      refine ok_lpc (I := fun n s => n = (3 + 1 - s.2.1.toInt).toNat ∧ JM s.2.2 ∧ Fr fr_fX10_isRound σ s.2.2 ∧ 0 ≤ s.1.toInt ∧ s.1.toInt ≤ 1 ∧ 0 ≤ s.2.1.toInt ∧ s.2.1.toInt ≤ 3) (fun rec62_92r n_92 s_92 hs_92 hrec_92 => ?_) K9 ((3 + 1 - x23_81_85.toInt).toNat) (a1_71, x23_81_85, σ1_71) ⟨rfl, hIσ1_71, hfσ1_71, (show 0 ≤ a1_71.toInt by omega), (show a1_71.toInt ≤ 1 by omega), (show 0 ≤ x23_81_85.toInt by omega), (show x23_81_85.toInt ≤ 3 by omega)⟩ (by unfold K9; omega)
      obtain ⟨a1_92, a3_92, σ1_92⟩ := s_92
      obtain ⟨hn_92, hIσ1_92, hfσ1_92, b0a1_92, b1a1_92, b0a3_92, b1a3_92⟩ := hs_92
      dsimp only at hn_92 hIσ1_92 hfσ1_92 b0a1_92 b1a1_92 b0a3_92 b1a3_92
      unfold bX10_isRound_62
      try dsimp only
      refine ok_ite.mpr ⟨fun h_33 => ?_, fun h_33 => ?_⟩
      · have f34 : (2 : Int32).toInt = 2 := by decide
        have g35 : (2 : Int32).toInt ≤ a3_92.toInt := Int32.le_iff_toInt_le.mp h_33
        refine ok_nm2 (fun x25_93 ex25_93 => ?_)
        have f36 : (1 : Int32).toInt = 1 := by decide
        have f37 : (a2_71 + (1 : Int32)).toInt = a2_71.toInt + (1 : Int32).toInt := iadd_toInt (by omega) (by omega)
        have qx25_93 : x25_93.toInt = (a2_71 + 1).toInt := congrArg Int32.toInt ex25_93
        exact hrec_71 _ (a1_92, x25_93, σ1_92) (show (12 + 1 - x25_93.toInt).toNat < n_71 by omega) ⟨rfl, hIσ1_92, hfσ1_92, (show 0 ≤ a1_92.toInt by omega), (show a1_92.toInt ≤ 1 by omega), (show 0 ≤ x25_93.toInt by omega), (show x25_93.toInt ≤ 12 by omega)⟩
      · have f38 : (2 : Int32).toInt = 2 := by decide
        have g39 : ¬ (2 : Int32).toInt ≤ a3_92.toInt := fun z => h_33 (Int32.le_iff_toInt_le.mpr z)
        refine ok_bd2.mpr ((o_fX10_isPictureAltered hIσ1_92 (p1 := a2_71) (p2 := a3_92) (by omega) (by omega) (by omega) (by omega)).mono (fun o_40 ho_41 => ?_))
        obtain ⟨r27_93, σ28_93⟩ := o_40
        obtain ⟨hIσ28_93, hcσ28_93, r0r27_93, r1r27_93⟩ := ho_41
        dsimp only at hIσ28_93 hcσ28_93 r0r27_93 r1r27_93 ⊢
        have hfσ28_93 : Fr fr_fX10_isRound σ σ28_93 := Fr_c hfσ1_92 hcσ28_93 (by decide)
        refine ok_ite.mpr ⟨fun h_42 => ?_, fun h_42 => ?_⟩
        · have g43 : r27_93.toInt = (0 : Int32).toInt := by rw [h_42]
          refine ok_nm2 (fun x30_93 ex30_93 => ?_)
          have f44 : (1 : Int32).toInt = 1 := by decide
          have f45 : (a3_92 + (1 : Int32)).toInt = a3_92.toInt + (1 : Int32).toInt := iadd_toInt (by omega) (by omega)
          have qx30_93 : x30_93.toInt = (a3_92 + 1).toInt := congrArg Int32.toInt ex30_93
          exact hrec_92 _ (a1_92, x30_93, σ28_93) (show (3 + 1 - x30_93.toInt).toNat < n_92 by omega) ⟨rfl, hIσ28_93, hfσ28_93, (show 0 ≤ a1_92.toInt by omega), (show a1_92.toInt ≤ 1 by omega), (show 0 ≤ x30_93.toInt by omega), (show x30_93.toInt ≤ 3 by omega)⟩
        · have g46 : r27_93.toInt ≠ (0 : Int32).toInt := fun z => h_42 (Int32.toInt_inj.mp z)
          refine ok_nm2 (fun x31_93 ex31_93 => ?_)
          have f47 : (1 : Int32).toInt = 1 := by decide
          have qx31_93 : x31_93.toInt = 1 := by rw [ex31_93]; decide
          refine ok_nm2 (fun x32_93 ex32_93 => ?_)
          have f48 : (a3_92 + (1 : Int32)).toInt = a3_92.toInt + (1 : Int32).toInt := iadd_toInt (by omega) (by omega)
          have qx32_93 : x32_93.toInt = (a3_92 + 1).toInt := congrArg Int32.toInt ex32_93
          exact hrec_92 _ (x31_93, x32_93, σ28_93) (show (3 + 1 - x32_93.toInt).toNat < n_92 by omega) ⟨rfl, hIσ28_93, hfσ28_93, (show 0 ≤ x31_93.toInt by omega), (show x31_93.toInt ≤ 1 by omega), (show 0 ≤ x32_93.toInt by omega), (show x32_93.toInt ≤ 3 by omega)⟩
  · have g49 : ¬ v1_69.toInt ≤ a2_1.toInt := fun z => h_4 (Int32.le_iff_toInt_le.mpr z)
    refine ok_nm2 (fun x33_66_70 ex33_66_70 => ?_)
    have qx33_66_70 : x33_66_70.toInt = 0 := by rw [ex33_66_70]; decide
    refine ok_lpc (I := fun n s => n = (3 + 1 - s.2.1.toInt).toNat ∧ JM s.2.2 ∧ Fr fr_fX10_isRound σ s.2.2 ∧ 0 ≤ s.1.toInt ∧ s.1.toInt ≤ 1 ∧ 0 ≤ s.2.1.toInt ∧ s.2.1.toInt ≤ 3) (fun rec14_94r n_94 s_94 hs_94 hrec_94 => ?_) K9 ((3 + 1 - x33_66_70.toInt).toNat) (a1_1, x33_66_70, σ1_1) ⟨rfl, hIσ1_1, hfσ1_1, (show 0 ≤ a1_1.toInt by omega), (show a1_1.toInt ≤ 1 by omega), (show 0 ≤ x33_66_70.toInt by omega), (show x33_66_70.toInt ≤ 3 by omega)⟩ (by unfold K9; omega)
    obtain ⟨a1_94, a3_94, σ1_94⟩ := s_94
    obtain ⟨hn_94, hIσ1_94, hfσ1_94, b0a1_94, b1a1_94, b0a3_94, b1a3_94⟩ := hs_94
    dsimp only at hn_94 hIσ1_94 hfσ1_94 b0a1_94 b1a1_94 b0a3_94 b1a3_94
    unfold bX10_isRound_14
    try dsimp only
    refine ok_ite.mpr ⟨fun h_50 => ?_, fun h_50 => ?_⟩
    · have f51 : (2 : Int32).toInt = 2 := by decide
      have g52 : (2 : Int32).toInt ≤ a3_94.toInt := Int32.le_iff_toInt_le.mp h_50
      refine ok_nm2 (fun x35_99 ex35_99 => ?_)
      have f53 : (1 : Int32).toInt = 1 := by decide
      have f54 : (a2_1 + (1 : Int32)).toInt = a2_1.toInt + (1 : Int32).toInt := iadd_toInt (by omega) (by omega)
      have qx35_99 : x35_99.toInt = (a2_1 + 1).toInt := congrArg Int32.toInt ex35_99
      exact hrec_1 _ (a1_94, x35_99, σ1_94) (show (20 + 1 - x35_99.toInt).toNat < n_1 by omega) ⟨rfl, hIσ1_94, hfσ1_94, (show 0 ≤ a1_94.toInt by omega), (show a1_94.toInt ≤ 1 by omega), (show 0 ≤ x35_99.toInt by omega), (show x35_99.toInt ≤ 20 by omega)⟩
    · have f55 : (2 : Int32).toInt = 2 := by decide
      have g56 : ¬ (2 : Int32).toInt ≤ a3_94.toInt := fun z => h_50 (Int32.le_iff_toInt_le.mpr z)
      refine ok_bd.mpr ?_
      try unfold fX10_isControl
      have f57 : (20 : Int32).toInt = 20 := by decide
      have f58 : ((20 : Int32) + a2_1).toInt = (20 : Int32).toInt + a2_1.toInt := iadd_toInt (by omega) (by omega)
      refine ok_gd.mpr ⟨gb_of (by omega) (by omega), ?_⟩
      refine ok_nm2 (fun v1_100 ev1_100 => ?_)
      have qv1_100 : v1_100.toInt = (σ1_94.1 20 (20 + a2_1).toNatClampNeg).toInt := congrArg Int32.toInt ev1_100
      refine ok_nm.mpr ?_
      refine ok_ite.mpr ⟨fun h_59 => ?_, fun h_59 => ?_⟩
      · have g60 : v1_100.toInt = (0 : Int32).toInt := by rw [h_59]
        refine ok_some.mpr ?_
        refine ok_ite.mpr ⟨fun h_61 => ?_, fun h_61 => ?_⟩
        · have g62 : (0 : Int32).toInt = (0 : Int32).toInt := by rw [h_61]
          refine ok_bd2.mpr ((o_fX10_isPointAltered hIσ1_94 (p1 := a2_1) (p2 := a3_94) (by omega) (by omega) (by omega) (by omega)).mono (fun o_63 ho_64 => ?_))
          obtain ⟨r41_99_101_102, σ42_99_101_102⟩ := o_63
          obtain ⟨hIσ42_99_101_102, hcσ42_99_101_102, r0r41_99_101_102, r1r41_99_101_102⟩ := ho_64
          dsimp only at hIσ42_99_101_102 hcσ42_99_101_102 r0r41_99_101_102 r1r41_99_101_102 ⊢
          have hfσ42_99_101_102 : Fr fr_fX10_isRound σ σ42_99_101_102 := Fr_c hfσ1_94 hcσ42_99_101_102 (by decide)
          refine ok_ite.mpr ⟨fun h_65 => ?_, fun h_65 => ?_⟩
          · have g66 : r41_99_101_102.toInt = (0 : Int32).toInt := by rw [h_65]
            refine ok_nm2 (fun x44_99_101_102 ex44_99_101_102 => ?_)
            have f67 : (1 : Int32).toInt = 1 := by decide
            have f68 : (a3_94 + (1 : Int32)).toInt = a3_94.toInt + (1 : Int32).toInt := iadd_toInt (by omega) (by omega)
            have qx44_99_101_102 : x44_99_101_102.toInt = (a3_94 + 1).toInt := congrArg Int32.toInt ex44_99_101_102
            exact hrec_94 _ (a1_94, x44_99_101_102, σ42_99_101_102) (show (3 + 1 - x44_99_101_102.toInt).toNat < n_94 by omega) ⟨rfl, hIσ42_99_101_102, hfσ42_99_101_102, (show 0 ≤ a1_94.toInt by omega), (show a1_94.toInt ≤ 1 by omega), (show 0 ≤ x44_99_101_102.toInt by omega), (show x44_99_101_102.toInt ≤ 3 by omega)⟩
          · have g69 : r41_99_101_102.toInt ≠ (0 : Int32).toInt := fun z => h_65 (Int32.toInt_inj.mp z)
            refine ok_nm2 (fun x45_99_101_102 ex45_99_101_102 => ?_)
            have f70 : (1 : Int32).toInt = 1 := by decide
            have qx45_99_101_102 : x45_99_101_102.toInt = 1 := by rw [ex45_99_101_102]; decide
            refine ok_nm2 (fun x46_99_101_102 ex46_99_101_102 => ?_)
            have f71 : (a3_94 + (1 : Int32)).toInt = a3_94.toInt + (1 : Int32).toInt := iadd_toInt (by omega) (by omega)
            have qx46_99_101_102 : x46_99_101_102.toInt = (a3_94 + 1).toInt := congrArg Int32.toInt ex46_99_101_102
            exact hrec_94 _ (x45_99_101_102, x46_99_101_102, σ42_99_101_102) (show (3 + 1 - x46_99_101_102.toInt).toNat < n_94 by omega) ⟨rfl, hIσ42_99_101_102, hfσ42_99_101_102, (show 0 ≤ x45_99_101_102.toInt by omega), (show x45_99_101_102.toInt ≤ 1 by omega), (show 0 ≤ x46_99_101_102.toInt by omega), (show x46_99_101_102.toInt ≤ 3 by omega)⟩
        · have g72 : (0 : Int32).toInt ≠ (0 : Int32).toInt := fun z => h_61 (Int32.toInt_inj.mp z)
          exfalso
          omega
      · have g73 : v1_100.toInt ≠ (0 : Int32).toInt := fun z => h_59 (Int32.toInt_inj.mp z)
        refine ok_ite.mpr ⟨fun h_74 => ?_, fun h_74 => ?_⟩
        · have f75 : 0 ≤ (((σ1_94.1 0 36) >>> ((v1_100 - 1) &&& 31)) &&& 1).toInt ∧ (((σ1_94.1 0 36) >>> ((v1_100 - 1) &&& 31)) &&& 1).toInt ≤ 1 := iand_toInt (by decide) (by decide)
          have f76 : (1 : Int32).toInt = 1 := by decide
          have g77 : (((σ1_94.1 0 36) >>> ((v1_100 - 1) &&& 31)) &&& 1).toInt = (1 : Int32).toInt := by rw [h_74]
          refine ok_some.mpr ?_
          refine ok_ite.mpr ⟨fun h_78 => ?_, fun h_78 => ?_⟩
          · have g79 : (1 : Int32).toInt = (0 : Int32).toInt := by rw [h_78]
            exfalso
            omega
          · have g80 : (1 : Int32).toInt ≠ (0 : Int32).toInt := fun z => h_78 (Int32.toInt_inj.mp z)
            refine ok_nm2 (fun x39_99_101_103 ex39_99_101_103 => ?_)
            have f81 : (a3_94 + (1 : Int32)).toInt = a3_94.toInt + (1 : Int32).toInt := iadd_toInt (by omega) (by omega)
            have qx39_99_101_103 : x39_99_101_103.toInt = (a3_94 + 1).toInt := congrArg Int32.toInt ex39_99_101_103
            exact hrec_94 _ (a1_94, x39_99_101_103, σ1_94) (show (3 + 1 - x39_99_101_103.toInt).toNat < n_94 by omega) ⟨rfl, hIσ1_94, hfσ1_94, (show 0 ≤ a1_94.toInt by omega), (show a1_94.toInt ≤ 1 by omega), (show 0 ≤ x39_99_101_103.toInt by omega), (show x39_99_101_103.toInt ≤ 3 by omega)⟩
        · have f82 : 0 ≤ (((σ1_94.1 0 36) >>> ((v1_100 - 1) &&& 31)) &&& 1).toInt ∧ (((σ1_94.1 0 36) >>> ((v1_100 - 1) &&& 31)) &&& 1).toInt ≤ 1 := iand_toInt (by decide) (by decide)
          have f83 : (1 : Int32).toInt = 1 := by decide
          have g84 : (((σ1_94.1 0 36) >>> ((v1_100 - 1) &&& 31)) &&& 1).toInt ≠ (1 : Int32).toInt := fun z => h_74 (Int32.toInt_inj.mp z)
          refine ok_some.mpr ?_
          refine ok_ite.mpr ⟨fun h_85 => ?_, fun h_85 => ?_⟩
          · have g86 : (0 : Int32).toInt = (0 : Int32).toInt := by rw [h_85]
            refine ok_bd2.mpr ((o_fX10_isPointAltered hIσ1_94 (p1 := a2_1) (p2 := a3_94) (by omega) (by omega) (by omega) (by omega)).mono (fun o_87 ho_88 => ?_))
            obtain ⟨r41_99_101_104, σ42_99_101_104⟩ := o_87
            obtain ⟨hIσ42_99_101_104, hcσ42_99_101_104, r0r41_99_101_104, r1r41_99_101_104⟩ := ho_88
            dsimp only at hIσ42_99_101_104 hcσ42_99_101_104 r0r41_99_101_104 r1r41_99_101_104 ⊢
            have hfσ42_99_101_104 : Fr fr_fX10_isRound σ σ42_99_101_104 := Fr_c hfσ1_94 hcσ42_99_101_104 (by decide)
            refine ok_ite.mpr ⟨fun h_89 => ?_, fun h_89 => ?_⟩
            · have g90 : r41_99_101_104.toInt = (0 : Int32).toInt := by rw [h_89]
              refine ok_nm2 (fun x44_99_101_104 ex44_99_101_104 => ?_)
              have f91 : (a3_94 + (1 : Int32)).toInt = a3_94.toInt + (1 : Int32).toInt := iadd_toInt (by omega) (by omega)
              have qx44_99_101_104 : x44_99_101_104.toInt = (a3_94 + 1).toInt := congrArg Int32.toInt ex44_99_101_104
              exact hrec_94 _ (a1_94, x44_99_101_104, σ42_99_101_104) (show (3 + 1 - x44_99_101_104.toInt).toNat < n_94 by omega) ⟨rfl, hIσ42_99_101_104, hfσ42_99_101_104, (show 0 ≤ a1_94.toInt by omega), (show a1_94.toInt ≤ 1 by omega), (show 0 ≤ x44_99_101_104.toInt by omega), (show x44_99_101_104.toInt ≤ 3 by omega)⟩
            · have g92 : r41_99_101_104.toInt ≠ (0 : Int32).toInt := fun z => h_89 (Int32.toInt_inj.mp z)
              refine ok_nm2 (fun x45_99_101_104 ex45_99_101_104 => ?_)
              have qx45_99_101_104 : x45_99_101_104.toInt = 1 := by rw [ex45_99_101_104]; decide
              refine ok_nm2 (fun x46_99_101_104 ex46_99_101_104 => ?_)
              have f93 : (a3_94 + (1 : Int32)).toInt = a3_94.toInt + (1 : Int32).toInt := iadd_toInt (by omega) (by omega)
              have qx46_99_101_104 : x46_99_101_104.toInt = (a3_94 + 1).toInt := congrArg Int32.toInt ex46_99_101_104
              exact hrec_94 _ (x45_99_101_104, x46_99_101_104, σ42_99_101_104) (show (3 + 1 - x46_99_101_104.toInt).toNat < n_94 by omega) ⟨rfl, hIσ42_99_101_104, hfσ42_99_101_104, (show 0 ≤ x45_99_101_104.toInt by omega), (show x45_99_101_104.toInt ≤ 1 by omega), (show 0 ≤ x46_99_101_104.toInt by omega), (show x46_99_101_104.toInt ≤ 3 by omega)⟩
          · have g94 : (0 : Int32).toInt ≠ (0 : Int32).toInt := fun z => h_85 (Int32.toInt_inj.mp z)
            exfalso
            omega
set_option maxRecDepth 20000 in
set_option maxHeartbeats 2000000 in
theorem o_fX10_rests {σ : gS} (hIσ : JM σ) {p1 : Int32} (h0p1 : 1 ≤ p1.toInt) (h1p1 : p1.toInt ≤ 500) : Ok (fX10_rests σ p1) (fun out => JM out.2 ∧ Fr fr_fX10_rests σ out.2 ∧ 0 ≤ out.1.toInt ∧ out.1.toInt ≤ 500) := by
  unfold fX10_rests
  have hfσ : Fr fr_fX10_rests σ σ := Fr_r
  refine ok_nm2 (fun x1 ex1 => ?_)
  have f1 : (0 : Int32).toInt = 0 := by decide
  have qx1 : x1.toInt = 0 := by rw [ex1]; decide
  refine ok_lpc (I := fun n s => n = (500 + 1 - s.1.toInt).toNat ∧ JM s.2 ∧ Fr fr_fX10_rests σ s.2 ∧ 0 ≤ s.1.toInt ∧ s.1.toInt ≤ 500) (fun rec2_1r n_1 s_1 hs_1 hrec_1 => ?_) K9 ((500 + 1 - x1.toInt).toNat) (x1, σ) ⟨rfl, hIσ, hfσ, (show 0 ≤ x1.toInt by omega), (show x1.toInt ≤ 500 by omega)⟩ (by unfold K9; omega)
  obtain ⟨a2_1, σ1_1⟩ := s_1
  obtain ⟨hn_1, hIσ1_1, hfσ1_1, b0a2_1, b1a2_1⟩ := hs_1
  dsimp only at hn_1 hIσ1_1 hfσ1_1 b0a2_1 b1a2_1
  unfold bX10_rests_2
  try dsimp only
  refine ok_ite.mpr ⟨fun h_2 => ?_, fun h_2 => ?_⟩
  · have g3 : p1.toInt ≤ a2_1.toInt := Int32.le_iff_toInt_le.mp h_2
    refine ok_some.mpr ?_
    exact ⟨hIσ1_1, hfσ1_1, (show 0 ≤ a2_1.toInt by omega), (show a2_1.toInt ≤ 500 by omega)⟩
  · have g4 : ¬ p1.toInt ≤ a2_1.toInt := fun z => h_2 (Int32.le_iff_toInt_le.mpr z)
    refine ok_bd2.mpr ((o_fX10_isRound hIσ1_1  ).mono (fun o_5 ho_6 => ?_))
    obtain ⟨r4_2, σ5_2⟩ := o_5
    obtain ⟨hIσ5_2, hcσ5_2, r0r4_2, r1r4_2⟩ := ho_6
    dsimp only at hIσ5_2 hcσ5_2 r0r4_2 r1r4_2 ⊢
    have hfσ5_2 : Fr fr_fX10_rests σ σ5_2 := Fr_c hfσ1_1 hcσ5_2 (by decide)
    refine ok_ite.mpr ⟨fun h_7 => ?_, fun h_7 => ?_⟩
    · have g8 : r4_2.toInt = (0 : Int32).toInt := by rw [h_7]
      refine ok_some.mpr ?_
      exact ⟨hIσ5_2, hfσ5_2, (show 0 ≤ a2_1.toInt by omega), (show a2_1.toInt ≤ 500 by omega)⟩
    · have g9 : r4_2.toInt ≠ (0 : Int32).toInt := fun z => h_7 (Int32.toInt_inj.mp z)
      refine ok_nm2 (fun x7_2 ex7_2 => ?_)
      have f10 : (1 : Int32).toInt = 1 := by decide
      have f11 : (a2_1 + (1 : Int32)).toInt = a2_1.toInt + (1 : Int32).toInt := iadd_toInt (by omega) (by omega)
      have qx7_2 : x7_2.toInt = (a2_1 + 1).toInt := congrArg Int32.toInt ex7_2
      exact hrec_1 _ (x7_2, σ5_2) (show (500 + 1 - x7_2.toInt).toNat < n_1 by omega) ⟨rfl, hIσ5_2, hfσ5_2, (show 0 ≤ x7_2.toInt by omega), (show x7_2.toInt ≤ 500 by omega)⟩
set_option maxRecDepth 20000 in
set_option maxHeartbeats 2000000 in
theorem o_fX10_rounds {σ : gS} (hIσ : JM σ) {p1 : Int32}  : Ok (fX10_rounds σ p1) (fun out => JM out.2 ∧ Fr fr_fX10_rounds σ out.2 ∧ -1 ≤ out.1.toInt ∧ out.1.toInt ≤ 500) := by
  unfold fX10_rounds
  have hfσ : Fr fr_fX10_rounds σ σ := Fr_r
  refine ok_bd.mpr ?_
  try unfold fX10_isIn
  refine ok_ite.mpr ⟨fun h_1 => ?_, fun h_1 => ?_⟩
  · have f2 : p1.toInt64.toInt = p1.toInt := Int32.toInt_toInt64 _
    have f3 : (1 : Int64).toInt = 1 := by decide
    have g4 : p1.toInt64.toInt < (1 : Int64).toInt := Int64.lt_iff_toInt_lt.mp h_1
    refine ok_some.mpr ?_
    refine ok_ite.mpr ⟨fun h_5 => ?_, fun h_5 => ?_⟩
    · have f6 : (0 : Int32).toInt = 0 := by decide
      have g7 : (0 : Int32).toInt = (0 : Int32).toInt := by rw [h_5]
      refine ok_some.mpr ?_
      have f8 : (-1 : Int32).toInt = -1 := by decide
      exact ⟨hIσ, hfσ, (show -1 ≤ (-1 : Int32).toInt by omega), (show (-1 : Int32).toInt ≤ 500 by omega)⟩
    · have f9 : (0 : Int32).toInt = 0 := by decide
      have g10 : (0 : Int32).toInt ≠ (0 : Int32).toInt := fun z => h_5 (Int32.toInt_inj.mp z)
      exfalso
      omega
  · have f11 : p1.toInt64.toInt = p1.toInt := Int32.toInt_toInt64 _
    have f12 : (1 : Int64).toInt = 1 := by decide
    have g13 : ¬ p1.toInt64.toInt < (1 : Int64).toInt := fun z => h_1 (Int64.lt_iff_toInt_lt.mpr z)
    refine ok_ite.mpr ⟨fun h_14 => ?_, fun h_14 => ?_⟩
    · have f15 : (500 : Int64).toInt = 500 := by decide
      have g16 : (500 : Int64).toInt < p1.toInt64.toInt := Int64.lt_iff_toInt_lt.mp h_14
      refine ok_some.mpr ?_
      refine ok_ite.mpr ⟨fun h_17 => ?_, fun h_17 => ?_⟩
      · have f18 : (0 : Int32).toInt = 0 := by decide
        have g19 : (0 : Int32).toInt = (0 : Int32).toInt := by rw [h_17]
        refine ok_some.mpr ?_
        have f20 : (-1 : Int32).toInt = -1 := by decide
        exact ⟨hIσ, hfσ, (show -1 ≤ (-1 : Int32).toInt by omega), (show (-1 : Int32).toInt ≤ 500 by omega)⟩
      · have f21 : (0 : Int32).toInt = 0 := by decide
        have g22 : (0 : Int32).toInt ≠ (0 : Int32).toInt := fun z => h_17 (Int32.toInt_inj.mp z)
        exfalso
        omega
    · have f23 : (500 : Int64).toInt = 500 := by decide
      have g24 : ¬ (500 : Int64).toInt < p1.toInt64.toInt := fun z => h_14 (Int64.lt_iff_toInt_lt.mpr z)
      refine ok_some.mpr ?_
      refine ok_ite.mpr ⟨fun h_25 => ?_, fun h_25 => ?_⟩
      · have f26 : (1 : Int32).toInt = 1 := by decide
        have f27 : (0 : Int32).toInt = 0 := by decide
        have g28 : (1 : Int32).toInt = (0 : Int32).toInt := by rw [h_25]
        exfalso
        omega
      · have f29 : (1 : Int32).toInt = 1 := by decide
        have f30 : (0 : Int32).toInt = 0 := by decide
        have g31 : (1 : Int32).toInt ≠ (0 : Int32).toInt := fun z => h_25 (Int32.toInt_inj.mp z)
        refine ok_bd2.mpr ((o_fX10_rests hIσ (p1 := p1) (by omega) (by omega)).mono (fun o_32 ho_33 => ?_))
        obtain ⟨r5_4, σ6_4⟩ := o_32
        obtain ⟨hIσ6_4, hcσ6_4, r0r5_4, r1r5_4⟩ := ho_33
        dsimp only at hIσ6_4 hcσ6_4 r0r5_4 r1r5_4 ⊢
        have hfσ6_4 : Fr fr_fX10_rounds σ σ6_4 := Fr_c hfσ hcσ6_4 (by decide)
        refine ok_some.mpr ?_
        exact ⟨hIσ6_4, hfσ6_4, (show -1 ≤ r5_4.toInt by omega), (show r5_4.toInt ≤ 500 by omega)⟩
set_option maxRecDepth 20000 in
set_option maxHeartbeats 2000000 in
theorem o_fX10_doubtOf {σ : gS} (hIσ : JM σ) {p1 : Int32} (h0p1 : 0 ≤ p1.toInt) (h1p1 : p1.toInt ≤ 59) : Ok (fX10_doubtOf σ p1) (fun _ => True) := by
  unfold fX10_doubtOf
  have f1 : (0 : Int32).toInt = 0 := by decide
  refine ok_bd.mpr ((o_fX10_miss hIσ (p1 := p1) (p2 := (0 : Int32)) (by omega) (by omega) (by omega) (by omega)).mono (fun r2 ho_3 => ?_))
  refine ok_nm2 (fun x3 ex3 => ?_)
  have f4 : r2.toInt64.toInt = r2.toInt := Int32.toInt_toInt64 _
  have qx3 : x3.toInt = r2.toInt64.toInt := congrArg Int64.toInt ex3
  have f5 : (1 : Int32).toInt = 1 := by decide
  refine ok_bd.mpr ((o_fX10_miss hIσ (p1 := p1) (p2 := (1 : Int32)) (by omega) (by omega) (by omega) (by omega)).mono (fun r5 ho_7 => ?_))
  refine ok_nm2 (fun x6 ex6 => ?_)
  have f8 : r5.toInt64.toInt = r5.toInt := Int32.toInt_toInt64 _
  have qx6 : x6.toInt = r5.toInt64.toInt := congrArg Int64.toInt ex6
  refine ok_bd.mpr ?_
  try unfold fX10_weightOf
  have f9 : (60 : Int32).toInt = 60 := by decide
  have f10 : ((60 : Int32) + p1).toInt = (60 : Int32).toInt + p1.toInt := iadd_toInt (by omega) (by omega)
  refine ok_gd.mpr ⟨gb_of (by omega) (by omega), ?_⟩
  refine ok_nm2 (fun v1_1 ev1_1 => ?_)
  have qv1_1 : v1_1.toInt = (σ.1 25 (60 + p1).toNatClampNeg).toInt := congrArg Int32.toInt ev1_1
  refine ok_some.mpr ?_
  refine ok_some.mpr ?_
  exact trivial
set_option maxRecDepth 20000 in
set_option maxHeartbeats 2000000 in
theorem o_fX10_sum {σ : gS} (hIσ : JM σ)   : Ok (fX10_sum σ ) (fun _ => True) := by
  unfold fX10_sum
  refine ok_nm2 (fun x1 ex1 => ?_)
  have f1 : (0 : Int64).toInt = 0 := by decide
  have qx1 : x1.toInt = (0 : Int64).toInt := congrArg Int64.toInt ex1
  refine ok_nm2 (fun x2 ex2 => ?_)
  have f2 : (0 : Int32).toInt = 0 := by decide
  have qx2 : x2.toInt = 0 := by rw [ex2]; decide
  refine ok_lpc (I := fun n s => n = (60 + 1 - s.2.toInt).toNat ∧ 0 ≤ s.2.toInt ∧ s.2.toInt ≤ 60) (fun rec4_1r n_1 s_1 hs_1 hrec_1 => ?_) K9 ((60 + 1 - x2.toInt).toNat) (x1, x2) ⟨rfl, (show 0 ≤ x2.toInt by omega), (show x2.toInt ≤ 60 by omega)⟩ (by unfold K9; omega)
  obtain ⟨a1_1, a3_1⟩ := s_1
  obtain ⟨hn_1, b0a3_1, b1a3_1⟩ := hs_1
  dsimp only at hn_1 b0a3_1 b1a3_1
  unfold bX10_sum_4
  try dsimp only
  refine ok_bd.mpr ?_
  try unfold fX10_rows
  have f3 : (9 : Int32).toInt = 9 := by decide
  refine ok_gd.mpr ⟨gb_of (by omega) (by omega), ?_⟩
  refine ok_nm2 (fun v1_102 ev1_102 => ?_)
  have f4 : 0 ≤ (σ.1 15 9).toInt ∧ (σ.1 15 9).toInt ≤ 60 := hIσ 15 9
  have qv1_102 : v1_102.toInt = (σ.1 15 9).toInt := congrArg Int32.toInt ev1_102
  refine ok_some.mpr ?_
  refine ok_ite.mpr ⟨fun h_5 => ?_, fun h_5 => ?_⟩
  · have g6 : v1_102.toInt ≤ a3_1.toInt := Int32.le_iff_toInt_le.mp h_5
    refine ok_nm2 (fun x6_101_103 ex6_101_103 => ?_)
    have qx6_101_103 : x6_101_103.toInt = 0 := by rw [ex6_101_103]; decide
    refine ok_lpc (I := fun n s => n = (12 + 1 - s.2.toInt).toNat ∧ 0 ≤ s.2.toInt ∧ s.2.toInt ≤ 12) (fun rec37_104r n_104 s_104 hs_104 hrec_104 => ?_) K9 ((12 + 1 - x6_101_103.toInt).toNat) (a1_1, x6_101_103) ⟨rfl, (show 0 ≤ x6_101_103.toInt by omega), (show x6_101_103.toInt ≤ 12 by omega)⟩ (by unfold K9; omega)
    obtain ⟨a1_104, a3_104⟩ := s_104
    obtain ⟨hn_104, b0a3_104, b1a3_104⟩ := hs_104
    dsimp only at hn_104 b0a3_104 b1a3_104
    unfold bX10_sum_37
    try dsimp only
    refine ok_bd.mpr ?_
    try unfold fX10_pictures
    have f7 : (7 : Int32).toInt = 7 := by decide
    refine ok_gd.mpr ⟨gb_of (by omega) (by omega), ?_⟩
    refine ok_nm2 (fun v1_189 ev1_189 => ?_)
    have f8 : 0 ≤ (σ.1 15 7).toInt ∧ (σ.1 15 7).toInt ≤ 12 := hIσ 15 7
    have qv1_189 : v1_189.toInt = (σ.1 15 7).toInt := congrArg Int32.toInt ev1_189
    refine ok_some.mpr ?_
    refine ok_ite.mpr ⟨fun h_9 => ?_, fun h_9 => ?_⟩
    · have g10 : v1_189.toInt ≤ a3_104.toInt := Int32.le_iff_toInt_le.mp h_9
      refine ok_some.mpr ?_
      exact trivial
    · have g11 : ¬ v1_189.toInt ≤ a3_104.toInt := fun z => h_9 (Int32.le_iff_toInt_le.mpr z)
      refine ok_nm2 (fun x10_186_190 ex10_186_190 => ?_)
      have qx10_186_190 : x10_186_190.toInt = 0 := by rw [ex10_186_190]; decide
      refine ok_lpc (I := fun n s => n = (3 + 1 - s.2.toInt).toNat ∧ 0 ≤ s.2.toInt ∧ s.2.toInt ≤ 3) (fun rec48_191r n_191 s_191 hs_191 hrec_191 => ?_) K9 ((3 + 1 - x10_186_190.toInt).toNat) (a1_104, x10_186_190) ⟨rfl, (show 0 ≤ x10_186_190.toInt by omega), (show x10_186_190.toInt ≤ 3 by omega)⟩ (by unfold K9; omega)
      obtain ⟨a1_191, a4_191⟩ := s_191
      obtain ⟨hn_191, b0a4_191, b1a4_191⟩ := hs_191
      dsimp only at hn_191 b0a4_191 b1a4_191
      unfold bX10_sum_48
      try dsimp only
      refine ok_ite.mpr ⟨fun h_12 => ?_, fun h_12 => ?_⟩
      · have f13 : (2 : Int32).toInt = 2 := by decide
        have g14 : (2 : Int32).toInt ≤ a4_191.toInt := Int32.le_iff_toInt_le.mp h_12
        refine ok_nm2 (fun x12_200 ex12_200 => ?_)
        have f15 : (1 : Int32).toInt = 1 := by decide
        have f16 : (a3_104 + (1 : Int32)).toInt = a3_104.toInt + (1 : Int32).toInt := iadd_toInt (by omega) (by omega)
        have qx12_200 : x12_200.toInt = (a3_104 + 1).toInt := congrArg Int32.toInt ex12_200
        exact hrec_104 _ (a1_191, x12_200) (show (12 + 1 - x12_200.toInt).toNat < n_104 by omega) ⟨rfl, (show 0 ≤ x12_200.toInt by omega), (show x12_200.toInt ≤ 12 by omega)⟩
      · have f17 : (2 : Int32).toInt = 2 := by decide
        have g18 : ¬ (2 : Int32).toInt ≤ a4_191.toInt := fun z => h_12 (Int32.le_iff_toInt_le.mpr z)
        have f19 : (38 : Int32).toInt = 38 := by decide
        have f20 : ((38 : Int32) * a4_191).toInt = 38 * a4_191.toInt := imulc (by decide) (by omega) (by omega)
        have f21 : ((38 * a4_191) + a3_104).toInt = (38 * a4_191).toInt + a3_104.toInt := iadd_toInt (by omega) (by omega)
        refine ok_gd.mpr ⟨gb_of (by omega) (by omega), ?_⟩
        refine ok_nm2 (fun v13_200 ev13_200 => ?_)
        have qv13_200 : v13_200.toInt = (σ.1 28 ((38 * a4_191) + a3_104).toNatClampNeg).toInt := congrArg Int32.toInt ev13_200
        refine ok_bd.mpr ?_
        try unfold fX10_strip
        have f22 : (12 : Int32).toInt = 12 := by decide
        have f23 : ((12 : Int32) + a3_104).toInt = (12 : Int32).toInt + a3_104.toInt := iadd_toInt (by omega) (by omega)
        refine ok_gd.mpr ⟨gb_of (by omega) (by omega), ?_⟩
        refine ok_nm2 (fun v1_201 ev1_201 => ?_)
        have f24 : 0 ≤ (σ.1 16 (12 + a3_104).toNatClampNeg).toInt ∧ (σ.1 16 (12 + a3_104).toNatClampNeg).toInt ≤ 5 := hIσ 16 _
        have qv1_201 : v1_201.toInt = (σ.1 16 (12 + a3_104).toNatClampNeg).toInt := congrArg Int32.toInt ev1_201
        refine ok_some.mpr ?_
        have f25 : (32 : Int32).toInt = 32 := by decide
        have f26 : ((38 * a4_191) + (32 : Int32)).toInt = (38 * a4_191).toInt + (32 : Int32).toInt := iadd_toInt (by omega) (by omega)
        have f27 : (((38 * a4_191) + 32) + v1_201).toInt = ((38 * a4_191) + 32).toInt + v1_201.toInt := iadd_toInt (by omega) (by omega)
        refine ok_gd.mpr ⟨gb_of (by omega) (by omega), ?_⟩
        refine ok_nm2 (fun v16_200_202 ev16_200_202 => ?_)
        have qv16_200_202 : v16_200_202.toInt = (σ.1 28 (((38 * a4_191) + 32) + v1_201).toNatClampNeg).toInt := congrArg Int32.toInt ev16_200_202
        have f28 : (24 : Int32).toInt = 24 := by decide
        have f29 : ((2 : Int32) * a3_104).toInt = 2 * a3_104.toInt := imulc (by decide) (by omega) (by omega)
        have f30 : ((24 : Int32) + (2 * a3_104)).toInt = (24 : Int32).toInt + (2 * a3_104).toInt := iadd_toInt (by omega) (by omega)
        have f31 : ((24 + (2 * a3_104)) + a4_191).toInt = (24 + (2 * a3_104)).toInt + a4_191.toInt := iadd_toInt (by omega) (by omega)
        refine ok_gd.mpr ⟨gb_of (by omega) (by omega), ?_⟩
        refine ok_nm2 (fun v17_200_202 ev17_200_202 => ?_)
        have qv17_200_202 : v17_200_202.toInt = (σ.1 19 ((24 + (2 * a3_104)) + a4_191).toNatClampNeg).toInt := congrArg Int32.toInt ev17_200_202
        refine ok_nm2 (fun x18_200_202 ex18_200_202 => ?_)
        have f32 : (100 : Int32).toInt = 100 := by decide
        have f33 : ((v13_200 - v16_200_202) - (100 * v17_200_202)).toInt64.toInt = ((v13_200 - v16_200_202) - (100 * v17_200_202)).toInt := Int32.toInt_toInt64 _
        have qx18_200_202 : x18_200_202.toInt = ((v13_200 - v16_200_202) - (100 * v17_200_202)).toInt64.toInt := congrArg Int64.toInt ex18_200_202
        refine ok_bd.mpr ?_
        try unfold fX10_centreOf
        refine ok_gd.mpr ⟨gb_of (by omega) (by omega), ?_⟩
        refine ok_nm2 (fun v1_203 ev1_203 => ?_)
        have f34 : 0 ≤ (σ.1 18 (12 + a3_104).toNatClampNeg).toInt ∧ (σ.1 18 (12 + a3_104).toNatClampNeg).toInt ≤ 9999 := hIσ 18 _
        have qv1_203 : v1_203.toInt = (σ.1 18 (12 + a3_104).toNatClampNeg).toInt := congrArg Int32.toInt ev1_203
        refine ok_some.mpr ?_
        refine ok_nm2 (fun x21_200_202_204 ex21_200_202_204 => ?_)
        refine ok_nm2 (fun x22_200_202_204 ex22_200_202_204 => ?_)
        have f35 : (1 : Int32).toInt = 1 := by decide
        have f36 : (a4_191 + (1 : Int32)).toInt = a4_191.toInt + (1 : Int32).toInt := iadd_toInt (by omega) (by omega)
        have qx22_200_202_204 : x22_200_202_204.toInt = (a4_191 + 1).toInt := congrArg Int32.toInt ex22_200_202_204
        exact hrec_191 _ (x21_200_202_204, x22_200_202_204) (show (3 + 1 - x22_200_202_204.toInt).toNat < n_191 by omega) ⟨rfl, (show 0 ≤ x22_200_202_204.toInt by omega), (show x22_200_202_204.toInt ≤ 3 by omega)⟩
  · have g37 : ¬ v1_102.toInt ≤ a3_1.toInt := fun z => h_5 (Int32.le_iff_toInt_le.mpr z)
    refine ok_gd.mpr ⟨gb_of (by omega) (by omega), ?_⟩
    refine ok_nm2 (fun v23_101_103 ev23_101_103 => ?_)
    have qv23_101_103 : v23_101_103.toInt = (σ.1 26 a3_1.toNatClampNeg).toInt := congrArg Int32.toInt ev23_101_103
    refine ok_ite.mpr ⟨fun h_38 => ?_, fun h_38 => ?_⟩
    · have g39 : v23_101_103.toInt = (0 : Int32).toInt := by rw [h_38]
      refine ok_bd.mpr ((o_fX10_doubtOf hIσ (p1 := a3_1) (by omega) (by omega)).mono (fun r27_101_103 ho_41 => ?_))
      refine ok_nm2 (fun x28_101_103 ex28_101_103 => ?_)
      refine ok_nm2 (fun x29_101_103 ex29_101_103 => ?_)
      have f42 : (1 : Int32).toInt = 1 := by decide
      have f43 : (a3_1 + (1 : Int32)).toInt = a3_1.toInt + (1 : Int32).toInt := iadd_toInt (by omega) (by omega)
      have qx29_101_103 : x29_101_103.toInt = (a3_1 + 1).toInt := congrArg Int32.toInt ex29_101_103
      exact hrec_1 _ (x28_101_103, x29_101_103) (show (60 + 1 - x29_101_103.toInt).toNat < n_1 by omega) ⟨rfl, (show 0 ≤ x29_101_103.toInt by omega), (show x29_101_103.toInt ≤ 60 by omega)⟩
    · have g44 : v23_101_103.toInt ≠ (0 : Int32).toInt := fun z => h_38 (Int32.toInt_inj.mp z)
      refine ok_nm2 (fun x25_101_103 ex25_101_103 => ?_)
      have f45 : (1 : Int32).toInt = 1 := by decide
      have f46 : (a3_1 + (1 : Int32)).toInt = a3_1.toInt + (1 : Int32).toInt := iadd_toInt (by omega) (by omega)
      have qx25_101_103 : x25_101_103.toInt = (a3_1 + 1).toInt := congrArg Int32.toInt ex25_101_103
      exact hrec_1 _ (a1_1, x25_101_103) (show (60 + 1 - x25_101_103.toInt).toNat < n_1 by omega) ⟨rfl, (show 0 ≤ x25_101_103.toInt by omega), (show x25_101_103.toInt ≤ 60 by omega)⟩
