/-! THE INVARIANT OF BOTH WORLDS; the tape -/
section PT9
set_option maxRecDepth 20000 in
set_option maxHeartbeats 2000000 in
theorem t_fX10_on {σ : gS} (hIσ : JM σ)   : Ok (fX10_on σ ) (fun out => JM out.2 ∧ Fr fr_fX10_on σ out.2 ∧ 0 ≤ out.1.toInt ∧ out.1.toInt ≤ 1 ∧ (out.2.1 0 1).toInt = 0) := by
  unfold fX10_on
  have hfσ : Fr fr_fX10_on σ σ := Fr_r
  have f1 : 0 ≤ (σ.1 0 1).toInt ∧ (σ.1 0 1).toInt ≤ 1600 := hIσ 0 1
  refine ok_nm2 (fun x1 ex1 => ?_)
  have qx1 : x1.toInt = (σ.1 0 1).toInt := congrArg Int32.toInt ex1
  refine ok_nm2 (fun σ2 eσ2 => ?_)
  have f2 : (0 : Int32).toInt = 0 := by decide
  have hIσ2 : JM σ2 := by rw [eσ2]; exact JM_w hIσ (show 0 ≤ _ by omega) (show _ ≤ 1600 by omega)
  have hfσ2 : Fr fr_fX10_on σ σ2 := by rw [eσ2]; exact Fr_w hfσ (by decide)
  have sσ2_0_1 : (σ2.1 0 1).toInt = (0 : Int32).toInt := by rw [eσ2]; rfl
  refine ok_bd.mpr ((o_fX10_isTold hIσ2 (p1 := x1) (by omega) (by omega)).mono (fun r4 ho_4 => ?_))
  obtain ⟨r0r4, r1r4⟩ := ho_4
  refine ok_ite.mpr ⟨fun h_5 => ?_, fun h_5 => ?_⟩
  · have g6 : r4.toInt = (0 : Int32).toInt := by rw [h_5]
    refine ok_some.mpr ?_
    exact ⟨hIσ2, hfσ2, (show 0 ≤ (0 : Int32).toInt by omega), (show (0 : Int32).toInt ≤ 1 by omega), (show (σ2.1 0 1).toInt = 0 by omega)⟩
  · have g7 : r4.toInt ≠ (0 : Int32).toInt := fun z => h_5 (Int32.toInt_inj.mp z)
    refine ok_gd.mpr ⟨gb_of (by omega) (by omega), ?_⟩
    refine ok_nm2 (fun v6 ev6 => ?_)
    have f8 : 0 ≤ (σ2.1 1 0).toInt ∧ (σ2.1 1 0).toInt ≤ 255 := hIσ2 1 _
    have qv6 : v6.toInt = (σ2.1 1 0).toInt := congrArg Int32.toInt ev6
    refine ok_nm2 (fun σ7 eσ7 => ?_)
    have hIσ7 : JM σ7 := by rw [eσ7]; exact JM_w hIσ2 (Int32.le_toInt _) (Int32.toInt_le _)
    have hfσ7 : Fr fr_fX10_on σ σ7 := by rw [eσ7]; exact Fr_w hfσ2 (by decide)
    have sσ7_0_1 : (σ7.1 0 1).toInt = (σ2.1 0 1).toInt := by rw [eσ7]; rfl
    refine ok_nm2 (fun x8 ex8 => ?_)
    have f9 : (1 : Int32).toInt = 1 := by decide
    have qx8 : x8.toInt = 1 := by rw [ex8]; decide
    refine ok_nm2 (fun x9 ex9 => ?_)
    have qx9 : x9.toInt = 0 := by rw [ex9]; decide
    have f10 : 0 ≤ (σ7.1 0 1).toInt ∧ (σ7.1 0 1).toInt ≤ 1600 := hIσ7 0 1
    refine ok_lpc (I := fun n s => n = (12 + 1 - s.2.1.toInt).toNat ∧ JM s.2.2 ∧ Fr fr_fX10_on σ s.2.2 ∧ 1 ≤ s.1.toInt ∧ s.1.toInt ≤ 109 ∧ 0 ≤ s.2.1.toInt ∧ s.2.1.toInt ≤ 12 ∧ s.1.toInt = 1 + 9 * s.2.1.toInt ∧ (s.2.2.1 0 1).toInt = 0) (fun rec34_1r n_1 s_1 hs_1 hrec_1 => ?_) K9 ((12 + 1 - x9.toInt).toNat) (x8, x9, σ7) ⟨rfl, hIσ7, hfσ7, (show 1 ≤ x8.toInt by omega), (show x8.toInt ≤ 109 by omega), (show 0 ≤ x9.toInt by omega), (show x9.toInt ≤ 12 by omega), (show x8.toInt = 1 + 9 * x9.toInt by omega), (show (σ7.1 0 1).toInt = 0 by omega)⟩ (by unfold K9; omega)
    obtain ⟨a2_1, a3_1, σ1_1⟩ := s_1
    obtain ⟨hn_1, hIσ1_1, hfσ1_1, b0a2_1, b1a2_1, b0a3_1, b1a3_1, iv0_1, iv1_1⟩ := hs_1
    dsimp only at hn_1 hIσ1_1 hfσ1_1 b0a2_1 b1a2_1 b0a3_1 b1a3_1 iv0_1 iv1_1
    unfold bX10_on_34
    try dsimp only
    refine ok_bd.mpr ?_
    try unfold fX10_pictures
    have f11 : (7 : Int32).toInt = 7 := by decide
    refine ok_gd.mpr ⟨gb_of (by omega) (by omega), ?_⟩
    refine ok_nm2 (fun v1_41 ev1_41 => ?_)
    have f12 : 0 ≤ (σ1_1.1 15 7).toInt ∧ (σ1_1.1 15 7).toInt ≤ 12 := hIσ1_1 15 7
    have qv1_41 : v1_41.toInt = (σ1_1.1 15 7).toInt := congrArg Int32.toInt ev1_41
    refine ok_some.mpr ?_
    refine ok_ite.mpr ⟨fun h_13 => ?_, fun h_13 => ?_⟩
    · have g14 : v1_41.toInt ≤ a3_1.toInt := Int32.le_iff_toInt_le.mp h_13
      refine ok_nm2 (fun x13_40_42 ex13_40_42 => ?_)
      have qx13_40_42 : x13_40_42.toInt = 0 := by rw [ex13_40_42]; decide
      have f15 : 0 ≤ (σ1_1.1 0 1).toInt ∧ (σ1_1.1 0 1).toInt ≤ 1600 := hIσ1_1 0 1
      refine ok_lpc (I := fun n s => n = (20 + 1 - s.2.1.toInt).toNat ∧ JM s.2.2 ∧ Fr fr_fX10_on σ s.2.2 ∧ 1 ≤ s.1.toInt ∧ s.1.toInt ≤ 269 ∧ 0 ≤ s.2.1.toInt ∧ s.2.1.toInt ≤ 20 ∧ s.1.toInt ≤ 109 + 8 * s.2.1.toInt ∧ (s.2.2.1 0 1).toInt = 0) (fun rec71_43r n_43 s_43 hs_43 hrec_43 => ?_) K9 ((20 + 1 - x13_40_42.toInt).toNat) (a2_1, x13_40_42, σ1_1) ⟨rfl, hIσ1_1, hfσ1_1, (show 1 ≤ a2_1.toInt by omega), (show a2_1.toInt ≤ 269 by omega), (show 0 ≤ x13_40_42.toInt by omega), (show x13_40_42.toInt ≤ 20 by omega), (show a2_1.toInt ≤ 109 + 8 * x13_40_42.toInt by omega), (show (σ1_1.1 0 1).toInt = 0 by omega)⟩ (by unfold K9; omega)
      obtain ⟨a2_43, a3_43, σ1_43⟩ := s_43
      obtain ⟨hn_43, hIσ1_43, hfσ1_43, b0a2_43, b1a2_43, b0a3_43, b1a3_43, iv0_43, iv1_43⟩ := hs_43
      dsimp only at hn_43 hIσ1_43 hfσ1_43 b0a2_43 b1a2_43 b0a3_43 b1a3_43 iv0_43 iv1_43
      unfold bX10_on_71
      try dsimp only
      refine ok_bd.mpr ?_
      try unfold fX10_points
      have f16 : (8 : Int32).toInt = 8 := by decide
      refine ok_gd.mpr ⟨gb_of (by omega) (by omega), ?_⟩
      refine ok_nm2 (fun v1_74 ev1_74 => ?_)
      have f17 : 0 ≤ (σ1_43.1 15 8).toInt ∧ (σ1_43.1 15 8).toInt ≤ 20 := hIσ1_43 15 8
      have qv1_74 : v1_74.toInt = (σ1_43.1 15 8).toInt := congrArg Int32.toInt ev1_74
      refine ok_some.mpr ?_
      refine ok_ite.mpr ⟨fun h_18 => ?_, fun h_18 => ?_⟩
      · have g19 : v1_74.toInt ≤ a3_43.toInt := Int32.le_iff_toInt_le.mp h_18
        refine ok_nm2 (fun x17_73_75 ex17_73_75 => ?_)
        have qx17_73_75 : x17_73_75.toInt = 0 := by rw [ex17_73_75]; decide
        have f20 : 0 ≤ (σ1_43.1 0 1).toInt ∧ (σ1_43.1 0 1).toInt ≤ 1600 := hIσ1_43 0 1
        refine ok_lpc (I := fun n s => n = (6 + 1 - s.2.1.toInt).toNat ∧ JM s.2.2 ∧ Fr fr_fX10_on σ s.2.2 ∧ 1 ≤ s.1.toInt ∧ s.1.toInt ≤ 317 ∧ 0 ≤ s.2.1.toInt ∧ s.2.1.toInt ≤ 6 ∧ s.1.toInt ≤ 269 + 8 * s.2.1.toInt ∧ (s.2.2.1 0 1).toInt = 0) (fun rec97_76r n_76 s_76 hs_76 hrec_76 => ?_) K9 ((6 + 1 - x17_73_75.toInt).toNat) (a2_43, x17_73_75, σ1_43) ⟨rfl, hIσ1_43, hfσ1_43, (show 1 ≤ a2_43.toInt by omega), (show a2_43.toInt ≤ 317 by omega), (show 0 ≤ x17_73_75.toInt by omega), (show x17_73_75.toInt ≤ 6 by omega), (show a2_43.toInt ≤ 269 + 8 * x17_73_75.toInt by omega), (show (σ1_43.1 0 1).toInt = 0 by omega)⟩ (by unfold K9; omega)
        obtain ⟨a2_76, a3_76, σ1_76⟩ := s_76
        obtain ⟨hn_76, hIσ1_76, hfσ1_76, b0a2_76, b1a2_76, b0a3_76, b1a3_76, iv0_76, iv1_76⟩ := hs_76
        dsimp only at hn_76 hIσ1_76 hfσ1_76 b0a2_76 b1a2_76 b0a3_76 b1a3_76 iv0_76 iv1_76
        unfold bX10_on_97
        try dsimp only
        have f21 : (6 : Int32).toInt = 6 := by decide
        refine ok_gd.mpr ⟨gb_of (by omega) (by omega), ?_⟩
        refine ok_nm2 (fun v18_95 ev18_95 => ?_)
        have f22 : 0 ≤ (σ1_76.1 15 6).toInt ∧ (σ1_76.1 15 6).toInt ≤ 6 := hIσ1_76 15 6
        have qv18_95 : v18_95.toInt = (σ1_76.1 15 6).toInt := congrArg Int32.toInt ev18_95
        refine ok_ite.mpr ⟨fun h_23 => ?_, fun h_23 => ?_⟩
        · have g24 : v18_95.toInt ≤ a3_76.toInt := Int32.le_iff_toInt_le.mp h_23
          refine ok_nm2 (fun x20_95 ex20_95 => ?_)
          have qx20_95 : x20_95.toInt = 0 := by rw [ex20_95]; decide
          have f25 : 0 ≤ (σ1_76.1 0 1).toInt ∧ (σ1_76.1 0 1).toInt ≤ 1600 := hIσ1_76 0 1
          refine ok_lpc (I := fun n s => n = (60 + 1 - s.1.toInt).toNat ∧ JM s.2 ∧ Fr fr_fX10_on σ s.2 ∧ 0 ≤ s.1.toInt ∧ s.1.toInt ≤ 60 ∧ (s.2.1 0 1).toInt = 0) (fun rec126_96r n_96 s_96 hs_96 hrec_96 => ?_) K9 ((60 + 1 - x20_95.toInt).toNat) (x20_95, σ1_76) ⟨rfl, hIσ1_76, hfσ1_76, (show 0 ≤ x20_95.toInt by omega), (show x20_95.toInt ≤ 60 by omega), (show (σ1_76.1 0 1).toInt = 0 by omega)⟩ (by unfold K9; omega)
          obtain ⟨a3_96, σ1_96⟩ := s_96
          obtain ⟨hn_96, hIσ1_96, hfσ1_96, b0a3_96, b1a3_96, iv0_96⟩ := hs_96
          dsimp only at hn_96 hIσ1_96 hfσ1_96 b0a3_96 b1a3_96 iv0_96
          unfold bX10_on_126
          try dsimp only
          refine ok_bd.mpr ?_
          try unfold fX10_rows
          have f26 : (9 : Int32).toInt = 9 := by decide
          refine ok_gd.mpr ⟨gb_of (by omega) (by omega), ?_⟩
          refine ok_nm2 (fun v1_116 ev1_116 => ?_)
          have f27 : 0 ≤ (σ1_96.1 15 9).toInt ∧ (σ1_96.1 15 9).toInt ≤ 60 := hIσ1_96 15 9
          have qv1_116 : v1_116.toInt = (σ1_96.1 15 9).toInt := congrArg Int32.toInt ev1_116
          refine ok_some.mpr ?_
          refine ok_ite.mpr ⟨fun h_28 => ?_, fun h_28 => ?_⟩
          · have g29 : v1_116.toInt ≤ a3_96.toInt := Int32.le_iff_toInt_le.mp h_28
            refine ok_some.mpr ?_
            exact ⟨hIσ1_96, hfσ1_96, (show 0 ≤ (1 : Int32).toInt by omega), (show (1 : Int32).toInt ≤ 1 by omega), (show (σ1_96.1 0 1).toInt = 0 by omega)⟩
          · have g30 : ¬ v1_116.toInt ≤ a3_96.toInt := fun z => h_28 (Int32.le_iff_toInt_le.mpr z)
            have f31 : (a2_76 + a3_96).toInt = a2_76.toInt + a3_96.toInt := iadd_toInt (by omega) (by omega)
            refine ok_gd.mpr ⟨gb_of (by omega) (by omega), ?_⟩
            refine ok_nm2 (fun v24_115_117 ev24_115_117 => ?_)
            have f32 : 0 ≤ (σ1_96.1 1 (a2_76 + a3_96).toNatClampNeg).toInt ∧ (σ1_96.1 1 (a2_76 + a3_96).toNatClampNeg).toInt ≤ 255 := hIσ1_96 1 _
            have qv24_115_117 : v24_115_117.toInt = (σ1_96.1 1 (a2_76 + a3_96).toNatClampNeg).toInt := congrArg Int32.toInt ev24_115_117
            refine ok_ite.mpr ⟨fun h_33 => ?_, fun h_33 => ?_⟩
            · have g34 : v24_115_117.toInt = (1 : Int32).toInt := by rw [h_33]
              refine ok_gd.mpr ⟨gb_of (by omega) (by omega), ?_⟩
              refine ok_nm2 (fun σ28_115_117 eσ28_115_117 => ?_)
              have hIσ28_115_117 : JM σ28_115_117 := by rw [eσ28_115_117]; exact JM_w hIσ1_96 (Int32.le_toInt _) (Int32.toInt_le _)
              have hfσ28_115_117 : Fr fr_fX10_on σ σ28_115_117 := by rw [eσ28_115_117]; exact Fr_w0 hfσ1_96 (by decide)
              have sσ28_115_117_0_1 : (σ28_115_117.1 0 1).toInt = (σ1_96.1 0 1).toInt := by rw [eσ28_115_117]; rfl
              refine ok_nm2 (fun x29_115_117 ex29_115_117 => ?_)
              have f35 : (a3_96 + (1 : Int32)).toInt = a3_96.toInt + (1 : Int32).toInt := iadd_toInt (by omega) (by omega)
              have qx29_115_117 : x29_115_117.toInt = (a3_96 + 1).toInt := congrArg Int32.toInt ex29_115_117
              have f36 : 0 ≤ (σ28_115_117.1 0 1).toInt ∧ (σ28_115_117.1 0 1).toInt ≤ 1600 := hIσ28_115_117 0 1
              exact hrec_96 _ (x29_115_117, σ28_115_117) (show (60 + 1 - x29_115_117.toInt).toNat < n_96 by omega) ⟨rfl, hIσ28_115_117, hfσ28_115_117, (show 0 ≤ x29_115_117.toInt by omega), (show x29_115_117.toInt ≤ 60 by omega), (show (σ28_115_117.1 0 1).toInt = 0 by omega)⟩
            · have g37 : v24_115_117.toInt ≠ (1 : Int32).toInt := fun z => h_33 (Int32.toInt_inj.mp z)
              refine ok_gd.mpr ⟨gb_of (by omega) (by omega), ?_⟩
              refine ok_nm2 (fun σ26_115_117 eσ26_115_117 => ?_)
              have hIσ26_115_117 : JM σ26_115_117 := by rw [eσ26_115_117]; exact JM_w hIσ1_96 (Int32.le_toInt _) (Int32.toInt_le _)
              have hfσ26_115_117 : Fr fr_fX10_on σ σ26_115_117 := by rw [eσ26_115_117]; exact Fr_w0 hfσ1_96 (by decide)
              have sσ26_115_117_0_1 : (σ26_115_117.1 0 1).toInt = (σ1_96.1 0 1).toInt := by rw [eσ26_115_117]; rfl
              refine ok_nm2 (fun x27_115_117 ex27_115_117 => ?_)
              have f38 : (a3_96 + (1 : Int32)).toInt = a3_96.toInt + (1 : Int32).toInt := iadd_toInt (by omega) (by omega)
              have qx27_115_117 : x27_115_117.toInt = (a3_96 + 1).toInt := congrArg Int32.toInt ex27_115_117
              have f39 : 0 ≤ (σ26_115_117.1 0 1).toInt ∧ (σ26_115_117.1 0 1).toInt ≤ 1600 := hIσ26_115_117 0 1
              exact hrec_96 _ (x27_115_117, σ26_115_117) (show (60 + 1 - x27_115_117.toInt).toNat < n_96 by omega) ⟨rfl, hIσ26_115_117, hfσ26_115_117, (show 0 ≤ x27_115_117.toInt by omega), (show x27_115_117.toInt ≤ 60 by omega), (show (σ26_115_117.1 0 1).toInt = 0 by omega)⟩
        · have g40 : ¬ v18_95.toInt ≤ a3_76.toInt := fun z => h_23 (Int32.le_iff_toInt_le.mpr z)
          have f41 : (32 : Int32).toInt = 32 := by decide
          have f42 : ((32 : Int32) + a3_76).toInt = (32 : Int32).toInt + a3_76.toInt := iadd_toInt (by omega) (by omega)
          refine ok_bd2.mpr ((o_fX10_tells hIσ1_76 (p1 := a2_76) (p2 := (32 + a3_76)) (by omega) (by omega) (by omega) (by omega)).mono (fun o_43 ho_44 => ?_))
          obtain ⟨r31_95, σ32_95⟩ := o_43
          obtain ⟨hIσ32_95, hcσ32_95, r0r31_95, r1r31_95, hp_45⟩ := ho_44
          dsimp only at hIσ32_95 hcσ32_95 r0r31_95 r1r31_95 hp_45 ⊢
          have hfσ32_95 : Fr fr_fX10_on σ σ32_95 := Fr_c hfσ1_76 hcσ32_95 (by decide)
          have sσ32_95_0_1 : (σ32_95.1 0 1).toInt = (σ1_76.1 0 1).toInt := by rw [(hcσ32_95 0 1 (by decide) (by decide)).1]
          refine ok_nm.mpr ?_
          refine ok_nm2 (fun x34_95_118 ex34_95_118 => ?_)
          have f46 : (a3_76 + (1 : Int32)).toInt = a3_76.toInt + (1 : Int32).toInt := iadd_toInt (by omega) (by omega)
          have qx34_95_118 : x34_95_118.toInt = (a3_76 + 1).toInt := congrArg Int32.toInt ex34_95_118
          have f47 : 0 ≤ (σ32_95.1 0 1).toInt ∧ (σ32_95.1 0 1).toInt ≤ 1600 := hIσ32_95 0 1
          exact hrec_76 _ (r31_95, x34_95_118, σ32_95) (show (6 + 1 - x34_95_118.toInt).toNat < n_76 by omega) ⟨rfl, hIσ32_95, hfσ32_95, (show 1 ≤ r31_95.toInt by omega), (show r31_95.toInt ≤ 317 by omega), (show 0 ≤ x34_95_118.toInt by omega), (show x34_95_118.toInt ≤ 6 by omega), (show r31_95.toInt ≤ 269 + 8 * x34_95_118.toInt by omega), (show (σ32_95.1 0 1).toInt = 0 by omega)⟩
      · have g48 : ¬ v1_74.toInt ≤ a3_43.toInt := fun z => h_18 (Int32.le_iff_toInt_le.mpr z)
        have f49 : (12 : Int32).toInt = 12 := by decide
        have f50 : ((12 : Int32) + a3_43).toInt = (12 : Int32).toInt + a3_43.toInt := iadd_toInt (by omega) (by omega)
        refine ok_bd2.mpr ((o_fX10_tells hIσ1_43 (p1 := a2_43) (p2 := (12 + a3_43)) (by omega) (by omega) (by omega) (by omega)).mono (fun o_51 ho_52 => ?_))
        obtain ⟨r36_73_75, σ37_73_75⟩ := o_51
        obtain ⟨hIσ37_73_75, hcσ37_73_75, r0r36_73_75, r1r36_73_75, hp_53⟩ := ho_52
        dsimp only at hIσ37_73_75 hcσ37_73_75 r0r36_73_75 r1r36_73_75 hp_53 ⊢
        have hfσ37_73_75 : Fr fr_fX10_on σ σ37_73_75 := Fr_c hfσ1_43 hcσ37_73_75 (by decide)
        have sσ37_73_75_0_1 : (σ37_73_75.1 0 1).toInt = (σ1_43.1 0 1).toInt := by rw [(hcσ37_73_75 0 1 (by decide) (by decide)).1]
        refine ok_nm.mpr ?_
        refine ok_nm2 (fun x39_73_75_119 ex39_73_75_119 => ?_)
        have f54 : (a3_43 + (1 : Int32)).toInt = a3_43.toInt + (1 : Int32).toInt := iadd_toInt (by omega) (by omega)
        have qx39_73_75_119 : x39_73_75_119.toInt = (a3_43 + 1).toInt := congrArg Int32.toInt ex39_73_75_119
        have f55 : 0 ≤ (σ37_73_75.1 0 1).toInt ∧ (σ37_73_75.1 0 1).toInt ≤ 1600 := hIσ37_73_75 0 1
        exact hrec_43 _ (r36_73_75, x39_73_75_119, σ37_73_75) (show (20 + 1 - x39_73_75_119.toInt).toNat < n_43 by omega) ⟨rfl, hIσ37_73_75, hfσ37_73_75, (show 1 ≤ r36_73_75.toInt by omega), (show r36_73_75.toInt ≤ 269 by omega), (show 0 ≤ x39_73_75_119.toInt by omega), (show x39_73_75_119.toInt ≤ 20 by omega), (show r36_73_75.toInt ≤ 109 + 8 * x39_73_75_119.toInt by omega), (show (σ37_73_75.1 0 1).toInt = 0 by omega)⟩
    · have g56 : ¬ v1_41.toInt ≤ a3_1.toInt := fun z => h_13 (Int32.le_iff_toInt_le.mpr z)
      refine ok_gd.mpr ⟨gb_of (by omega) (by omega), ?_⟩
      refine ok_nm2 (fun v40_40_42 ev40_40_42 => ?_)
      have f57 : 0 ≤ (σ1_1.1 1 a2_1.toNatClampNeg).toInt ∧ (σ1_1.1 1 a2_1.toNatClampNeg).toInt ≤ 255 := hIσ1_1 1 _
      have qv40_40_42 : v40_40_42.toInt = (σ1_1.1 1 a2_1.toNatClampNeg).toInt := congrArg Int32.toInt ev40_40_42
      refine ok_gd.mpr ⟨gb_of (by omega) (by omega), ?_⟩
      refine ok_nm2 (fun σ41_40_42 eσ41_40_42 => ?_)
      have hIσ41_40_42 : JM σ41_40_42 := by rw [eσ41_40_42]; exact JM_w hIσ1_1 (Int32.le_toInt _) (Int32.toInt_le _)
      have hfσ41_40_42 : Fr fr_fX10_on σ σ41_40_42 := by rw [eσ41_40_42]; exact Fr_w0 hfσ1_1 (by decide)
      have sσ41_40_42_0_1 : (σ41_40_42.1 0 1).toInt = (σ1_1.1 0 1).toInt := by rw [eσ41_40_42]; rfl
      have f58 : (a2_1 + (1 : Int32)).toInt = a2_1.toInt + (1 : Int32).toInt := iadd_toInt (by omega) (by omega)
      refine ok_bd2.mpr ((o_fX10_tells hIσ41_40_42 (p1 := (a2_1 + 1)) (p2 := a3_1) (by omega) (by omega) (by omega) (by omega)).mono (fun o_59 ho_60 => ?_))
      obtain ⟨r43_40_42, σ44_40_42⟩ := o_59
      obtain ⟨hIσ44_40_42, hcσ44_40_42, r0r43_40_42, r1r43_40_42, hp_61⟩ := ho_60
      dsimp only at hIσ44_40_42 hcσ44_40_42 r0r43_40_42 r1r43_40_42 hp_61 ⊢
      have hfσ44_40_42 : Fr fr_fX10_on σ σ44_40_42 := Fr_c hfσ41_40_42 hcσ44_40_42 (by decide)
      have sσ44_40_42_0_1 : (σ44_40_42.1 0 1).toInt = (σ41_40_42.1 0 1).toInt := by rw [(hcσ44_40_42 0 1 (by decide) (by decide)).1]
      refine ok_nm.mpr ?_
      refine ok_nm2 (fun x46_40_42_120 ex46_40_42_120 => ?_)
      have f62 : (a3_1 + (1 : Int32)).toInt = a3_1.toInt + (1 : Int32).toInt := iadd_toInt (by omega) (by omega)
      have qx46_40_42_120 : x46_40_42_120.toInt = (a3_1 + 1).toInt := congrArg Int32.toInt ex46_40_42_120
      have f63 : 0 ≤ (σ44_40_42.1 0 1).toInt ∧ (σ44_40_42.1 0 1).toInt ≤ 1600 := hIσ44_40_42 0 1
      exact hrec_1 _ (r43_40_42, x46_40_42_120, σ44_40_42) (show (12 + 1 - x46_40_42_120.toInt).toNat < n_1 by omega) ⟨rfl, hIσ44_40_42, hfσ44_40_42, (show 1 ≤ r43_40_42.toInt by omega), (show r43_40_42.toInt ≤ 109 by omega), (show 0 ≤ x46_40_42_120.toInt by omega), (show x46_40_42_120.toInt ≤ 12 by omega), (show r43_40_42.toInt = 1 + 9 * x46_40_42_120.toInt by omega), (show (σ44_40_42.1 0 1).toInt = 0 by omega)⟩
theorem bv_byte (x : BitVec 32) (s : Nat) (hs : s ≤ 24) : (x >>> s) &&& 255#32 = (x.sshiftRight s) &&& 255#32 := by
  apply BitVec.eq_of_getLsbD_eq
  intro i hi
  rw [BitVec.getLsbD_and, BitVec.getLsbD_and, BitVec.getLsbD_ushiftRight, BitVec.getLsbD_sshiftRight]
  by_cases h : i < 8
  · have h1 : s + i < 32 := by omega
    have h3 : decide (32 ≤ i) = false := decide_eq_false (by omega)
    simp [h1, h3]
  · have h2 : (255#32).getLsbD i = false := by
      rw [BitVec.getLsbD_ofNat]
      have : Nat.testBit 255 i = false := Nat.testBit_lt_two_pow (Nat.lt_of_lt_of_le (by decide : 255 < 2 ^ 8) (Nat.pow_le_pow_right (by decide) (by omega)))
      rw [this]
      simp
    rw [h2, Bool.and_false, Bool.and_false]
noncomputable def byC (x a : Int32) : Int32 := ((x.toUInt32 >>> (a.toUInt32 &&& Int32.toUInt32 31)).toInt32) &&& 255
noncomputable def byM (x a : Int32) : Int32 := (x >>> ((8 * (3 - (irm a 4))) &&& 31)) &&& 255
theorem by_24 (x : Int32) : (x >>> (24 : Int32)) &&& 255 = byC x 24 := by
  apply Int32.toBitVec_inj.mp
  exact (bv_byte x.toBitVec 24 (by decide)).symm
theorem by_16 (x : Int32) : (x >>> (16 : Int32)) &&& 255 = byC x 16 := by
  apply Int32.toBitVec_inj.mp
  exact (bv_byte x.toBitVec 16 (by decide)).symm
theorem by_8 (x : Int32) : (x >>> (8 : Int32)) &&& 255 = byC x 8 := by
  apply Int32.toBitVec_inj.mp
  exact (bv_byte x.toBitVec 8 (by decide)).symm
theorem by_0 (x : Int32) : (x >>> (0 : Int32)) &&& 255 = byC x 0 := by
  apply Int32.toBitVec_inj.mp
  exact (bv_byte x.toBitVec 0 (by decide)).symm
theorem byM_0 (x : Int32) : byM x 0 = byC x 24 := by
  have h : (8 * (3 - (irm (0 : Int32) 4))) &&& 31 = (24 : Int32) := by decide
  unfold byM
  rw [h]
  exact by_24 x
theorem byM_1 (x : Int32) : byM x 1 = byC x 16 := by
  have h : (8 * (3 - (irm (1 : Int32) 4))) &&& 31 = (16 : Int32) := by decide
  unfold byM
  rw [h]
  exact by_16 x
theorem byM_2 (x : Int32) : byM x 2 = byC x 8 := by
  have h : (8 * (3 - (irm (2 : Int32) 4))) &&& 31 = (8 : Int32) := by decide
  unfold byM
  rw [h]
  exact by_8 x
theorem byM_3 (x : Int32) : byM x 3 = byC x 0 := by
  have h : (8 * (3 - (irm (3 : Int32) 4))) &&& 31 = (0 : Int32) := by decide
  unfold byM
  rw [h]
  exact by_0 x
theorem byM_4 (x : Int32) : byM x 4 = byC x 24 := by
  have h : (8 * (3 - (irm (4 : Int32) 4))) &&& 31 = (24 : Int32) := by decide
  unfold byM
  rw [h]
  exact by_24 x
theorem byM_5 (x : Int32) : byM x 5 = byC x 16 := by
  have h : (8 * (3 - (irm (5 : Int32) 4))) &&& 31 = (16 : Int32) := by decide
  unfold byM
  rw [h]
  exact by_16 x
theorem byM_6 (x : Int32) : byM x 6 = byC x 8 := by
  have h : (8 * (3 - (irm (6 : Int32) 4))) &&& 31 = (8 : Int32) := by decide
  unfold byM
  rw [h]
  exact by_8 x
theorem byM_7 (x : Int32) : byM x 7 = byC x 0 := by
  have h : (8 * (3 - (irm (7 : Int32) 4))) &&& 31 = (0 : Int32) := by decide
  unfold byM
  rw [h]
  exact by_0 x
theorem byM_8 (x : Int32) : byM x 8 = byC x 24 := by
  have h : (8 * (3 - (irm (8 : Int32) 4))) &&& 31 = (24 : Int32) := by decide
  unfold byM
  rw [h]
  exact by_24 x
theorem byM_9 (x : Int32) : byM x 9 = byC x 16 := by
  have h : (8 * (3 - (irm (9 : Int32) 4))) &&& 31 = (16 : Int32) := by decide
  unfold byM
  rw [h]
  exact by_16 x
theorem byM_10 (x : Int32) : byM x 10 = byC x 8 := by
  have h : (8 * (3 - (irm (10 : Int32) 4))) &&& 31 = (8 : Int32) := by decide
  unfold byM
  rw [h]
  exact by_8 x
theorem byM_11 (x : Int32) : byM x 11 = byC x 0 := by
  have h : (8 * (3 - (irm (11 : Int32) 4))) &&& 31 = (0 : Int32) := by decide
  unfold byM
  rw [h]
  exact by_0 x
theorem byM_12 (x : Int32) : byM x 12 = byC x 24 := by
  have h : (8 * (3 - (irm (12 : Int32) 4))) &&& 31 = (24 : Int32) := by decide
  unfold byM
  rw [h]
  exact by_24 x
theorem byM_13 (x : Int32) : byM x 13 = byC x 16 := by
  have h : (8 * (3 - (irm (13 : Int32) 4))) &&& 31 = (16 : Int32) := by decide
  unfold byM
  rw [h]
  exact by_16 x
theorem byM_14 (x : Int32) : byM x 14 = byC x 8 := by
  have h : (8 * (3 - (irm (14 : Int32) 4))) &&& 31 = (8 : Int32) := by decide
  unfold byM
  rw [h]
  exact by_8 x
theorem byM_15 (x : Int32) : byM x 15 = byC x 0 := by
  have h : (8 * (3 - (irm (15 : Int32) 4))) &&& 31 = (0 : Int32) := by decide
  unfold byM
  rw [h]
  exact by_0 x
theorem byM_16 (x : Int32) : byM x 16 = byC x 24 := by
  have h : (8 * (3 - (irm (16 : Int32) 4))) &&& 31 = (24 : Int32) := by decide
  unfold byM
  rw [h]
  exact by_24 x
theorem byM_17 (x : Int32) : byM x 17 = byC x 16 := by
  have h : (8 * (3 - (irm (17 : Int32) 4))) &&& 31 = (16 : Int32) := by decide
  unfold byM
  rw [h]
  exact by_16 x
theorem byM_18 (x : Int32) : byM x 18 = byC x 8 := by
  have h : (8 * (3 - (irm (18 : Int32) 4))) &&& 31 = (8 : Int32) := by decide
  unfold byM
  rw [h]
  exact by_8 x
theorem byM_19 (x : Int32) : byM x 19 = byC x 0 := by
  have h : (8 * (3 - (irm (19 : Int32) 4))) &&& 31 = (0 : Int32) := by decide
  unfold byM
  rw [h]
  exact by_0 x
/-- a byte comes behind those on the tape -/
noncomputable def tp (s : gS) (x : Int32) : gS := gsI (gsI s 1 (s.1 0 1).toInt.toNat x) 0 1 (s.1 0 1 + 1)
noncomputable def tp4 (s : gS) (x : Int32) : gS := tp (tp (tp (tp s (byC x 24)) (byC x 16)) (byC x 8)) (byC x 0)
theorem tp_01 (s : gS) (x : Int32) : (tp s x).1 0 1 = s.1 0 1 + 1 := rfl
noncomputable def TP (a b : gS) : Prop := b.1 1 = a.1 1 ∧ b.1 0 1 = a.1 0 1
theorem TP_tp {a b : gS} (h : TP a b) (x : Int32) : TP (tp a x) (tp b x) := by
  obtain ⟨h1, h2⟩ := h
  refine ⟨?_, ?_⟩
  · funext j
    have e : ∀ s : gS, (tp s x).1 1 j = if j = (s.1 0 1).toInt.toNat then x else s.1 1 j := fun s => by
      show (gsI (gsI s 1 (s.1 0 1).toInt.toNat x) 0 1 (s.1 0 1 + 1)).1 1 j = _
      rw [gsI_row (k := 0) (by decide), gsI_at]
    rw [e, e, h1, h2]
  · rw [tp_01, tp_01, h2]
theorem TP_4 {a b : gS} (h : TP a b) (x : Int32) : TP (tp4 a x) (tp4 b x) := TP_tp (TP_tp (TP_tp (TP_tp h _) _) _) _
theorem tp_in {s : gS} {x : Int32} {n : Int} (h0 : 0 ≤ (s.1 0 1).toInt) (h1 : (s.1 0 1).toInt = n) (hn : n ≤ 1599) : ((tp s x).1 0 1).toInt = n + 1 := by
  rw [tp_01, i_inc (a := s.1 0 1) (c := 1599) (by omega) (by omega) (by decide), h1]
theorem tp4_in {s : gS} {x : Int32} {n : Int} (h0 : 0 ≤ n) (h1 : (s.1 0 1).toInt = n) (hn : n ≤ 1596) : ((tp4 s x).1 0 1).toInt = n + 4 := by
  have a1 := tp_in (s := s) (x := byC x 24) (by omega) h1 (by omega)
  have a2 := tp_in (s := tp s (byC x 24)) (x := byC x 16) (by omega) a1 (by omega)
  have a3 := tp_in (s := tp (tp s (byC x 24)) (byC x 16)) (x := byC x 8) (by omega) a2 (by omega)
  have a4 := tp_in (s := tp (tp (tp s (byC x 24)) (byC x 16)) (byC x 8)) (x := byC x 0) (by omega) a3 (by omega)
  unfold tp4
  omega
theorem c_num {s : gS} (x : Int32) {n : Int} (h0 : 0 ≤ n) (h1 : (s.1 0 1).toInt = n) (hn : n ≤ 1596) : fX9_tapeNumber s x = some (tp4 s x) := by
  have st : ∀ (K : Nat) (a : Int32) (t : gS), 0 < K → 0 ≤ a.toInt → 0 ≤ (t.1 0 1).toInt → (t.1 0 1).toInt ≤ 1599 → lpc (S := Int32 × gS) K (fun rec u => bX9_tapeNumber_3 s x (fun a2 σ1 => rec (a2, σ1)) u.1 u.2) (a, t) = lpc (S := Int32 × gS) (K - 1) (fun rec u => bX9_tapeNumber_3 s x (fun a2 σ1 => rec (a2, σ1)) u.1 u.2) (a + (-8), tp t (byC x a)) := by
    intro K a t hK ha g0 g1
    rw [lpc_pos hK]
    show bX9_tapeNumber_3 s x _ a t = _
    unfold bX9_tapeNumber_3
    rw [if_neg (fun z => by have := Int32.lt_iff_toInt_lt.mp z; have := z0; omega), q_gd (gb_of g0 (by omega))]
    rfl
  have a1 := tp_in (s := s) (x := byC x 24) (by omega) h1 (by omega)
  have a2 := tp_in (s := tp s (byC x 24)) (x := byC x 16) (by omega) a1 (by omega)
  have a3 := tp_in (s := tp (tp s (byC x 24)) (byC x 16)) (x := byC x 8) (by omega) a2 (by omega)
  have hK9 : K9 = 1048576 := rfl
  unfold fX9_tapeNumber
  rw [nm_eq, st K9 24 s (by omega) (by decide) (by omega) (by omega)]
  have e1 : (24 : Int32) + (-8) = 16 := by decide
  have e2 : (16 : Int32) + (-8) = 8 := by decide
  have e3 : (8 : Int32) + (-8) = 0 := by decide
  have e4 : (0 : Int32) + (-8) = -8 := by decide
  rw [e1, st (K9 - 1) 16 _ (by omega) (by decide) (by omega) (by omega), e2, st (K9 - 1 - 1) 8 _ (by omega) (by decide) (by omega) (by omega), e3, st (K9 - 1 - 1 - 1) 0 _ (by omega) (by decide) (by omega) (by omega), e4, lpc_pos (by omega)]
  show bX9_tapeNumber_3 s x _ (-8) _ = _
  unfold bX9_tapeNumber_3
  exact if_pos (by decide)
theorem c_feed {s : gS} (x1 x2 x3 x4 x5 : Int32) {n : Int} (h0 : 0 ≤ n) (h1 : (s.1 0 1).toInt = n) (hn : n ≤ 1580) : fX9_feed s x1 x2 x3 x4 x5 = some ((tp4 (tp4 (tp4 (tp4 (tp4 s x1) x2) x3) x4) x5).1 0 1, tp4 (tp4 (tp4 (tp4 (tp4 s x1) x2) x3) x4) x5) := by
  have l20 : (20 : Int32).toInt = 20 := by decide
  have l16 : (1600 : Int32).toInt = 1600 := by decide
  have a1 := tp4_in (s := s) (x := x1) h0 h1 (by omega)
  have a2 := tp4_in (s := tp4 s x1) (x := x2) (by omega) a1 (by omega)
  have a3 := tp4_in (s := tp4 (tp4 s x1) x2) (x := x3) (by omega) a2 (by omega)
  have a4 := tp4_in (s := tp4 (tp4 (tp4 s x1) x2) x3) (x := x4) (by omega) a3 (by omega)
  have e : (s.1 0 1 + 20).toInt = (s.1 0 1).toInt + 20 := by rw [iadd_toInt] <;> omega
  unfold fX9_feed
  rw [if_pos (q_le (by omega)), q_bd (c_num x1 h0 h1 (by omega)), q_bd (c_num x2 (by omega) a1 (by omega)), q_bd (c_num x3 (by omega) a2 (by omega)), q_bd (c_num x4 (by omega) a3 (by omega)), q_bd (c_num x5 (by omega) a4 (by omega))]
theorem m_fst {σ : gS} {x1 x2 x3 x4 x5 : Int32} {rec : Int32 → gS → Option (Int32 × gS)} {a : Int32} {t : gS} {y : Int32} (h20 : ¬ 20 ≤ a) (hy : (if 4 ≤ a then (if 8 ≤ a then (if 12 ≤ a then (if 16 ≤ a then x5 else x4) else x3) else x2) else x1) = y) (g0 : 0 ≤ (t.1 0 1).toInt) (g1 : (t.1 0 1).toInt ≤ 1599) : bX10_feed_18 σ x1 x2 x3 x4 x5 rec a t = rec (a + 1) (tp t (byM y a)) := by
  have j : ∀ z, jX10_feed_71 t x1 x2 x3 x4 x5 rec a z = rec (a + 1) (tp t (byM z a)) := fun z => by
    unfold jX10_feed_71
    rw [nm_eq, q_gd (gb_of g0 (by omega))]
    rfl
  unfold bX10_feed_18
  rw [if_neg h20, j, j, j, j, j, ← hy]
  by_cases h4 : 4 ≤ a
  · rw [if_pos h4, if_pos h4]
    by_cases h8 : 8 ≤ a
    · rw [if_pos h8, if_pos h8]
      by_cases h12 : 12 ≤ a
      · rw [if_pos h12, if_pos h12]
        by_cases h16 : 16 ≤ a
        · rw [if_pos h16, if_pos h16]
        · rw [if_neg h16, if_neg h16]
      · rw [if_neg h12, if_neg h12]
    · rw [if_neg h8, if_neg h8]
  · rw [if_neg h4, if_neg h4]
theorem m_four0 {σ : gS} {x1 x2 x3 x4 x5 : Int32} {K : Nat} (hK : 4 ≤ K) {t : gS} {n : Int} (h0 : 0 ≤ n) (h1 : (t.1 0 1).toInt = n) (hn : n ≤ 1596) : lpc (S := Int32 × gS) K (fun rec s => bX10_feed_18 σ x1 x2 x3 x4 x5 (fun a6 σ1 => rec (a6, σ1)) s.1 s.2) (0, t) = lpc (S := Int32 × gS) (K - 4) (fun rec s => bX10_feed_18 σ x1 x2 x3 x4 x5 (fun a6 σ1 => rec (a6, σ1)) s.1 s.2) (4, tp4 t x1) := by
  have st : ∀ (K : Nat) (a b : Int32) (t : gS), 0 < K → ¬ 20 ≤ a → (if 4 ≤ a then (if 8 ≤ a then (if 12 ≤ a then (if 16 ≤ a then x5 else x4) else x3) else x2) else x1) = x1 → byM x1 a = b → 0 ≤ (t.1 0 1).toInt → (t.1 0 1).toInt ≤ 1599 → lpc (S := Int32 × gS) K (fun rec s => bX10_feed_18 σ x1 x2 x3 x4 x5 (fun a6 σ1 => rec (a6, σ1)) s.1 s.2) (a, t) = lpc (S := Int32 × gS) (K - 1) (fun rec s => bX10_feed_18 σ x1 x2 x3 x4 x5 (fun a6 σ1 => rec (a6, σ1)) s.1 s.2) (a + 1, tp t b) := by
    intro K a b t hK h20 hy hb g0 g1
    rw [lpc_pos hK, ← hb]
    exact m_fst h20 hy g0 g1
  have a1 := tp_in (s := t) (x := byC x1 24) (by omega) h1 (by omega)
  have a2 := tp_in (s := tp t (byC x1 24)) (x := byC x1 16) (by omega) a1 (by omega)
  have a3 := tp_in (s := tp (tp t (byC x1 24)) (byC x1 16)) (x := byC x1 8) (by omega) a2 (by omega)
  have e1 : (0 : Int32) + 1 = 1 := by decide
  have e2 : (1 : Int32) + 1 = 2 := by decide
  have e3 : (2 : Int32) + 1 = 3 := by decide
  have e4 : (3 : Int32) + 1 = 4 := by decide
  have ek : K - 1 - 1 - 1 - 1 = K - 4 := by omega
  rw [st K 0 _ t (by omega) (by decide) rfl (byM_0 _) (by omega) (by omega), e1, st (K - 1) 1 _ _ (by omega) (by decide) rfl (byM_1 _) (by omega) (by omega), e2, st (K - 1 - 1) 2 _ _ (by omega) (by decide) rfl (byM_2 _) (by omega) (by omega), e3, st (K - 1 - 1 - 1) 3 _ _ (by omega) (by decide) rfl (byM_3 _) (by omega) (by omega), e4, ek]
  rfl
theorem m_four1 {σ : gS} {x1 x2 x3 x4 x5 : Int32} {K : Nat} (hK : 4 ≤ K) {t : gS} {n : Int} (h0 : 0 ≤ n) (h1 : (t.1 0 1).toInt = n) (hn : n ≤ 1596) : lpc (S := Int32 × gS) K (fun rec s => bX10_feed_18 σ x1 x2 x3 x4 x5 (fun a6 σ1 => rec (a6, σ1)) s.1 s.2) (4, t) = lpc (S := Int32 × gS) (K - 4) (fun rec s => bX10_feed_18 σ x1 x2 x3 x4 x5 (fun a6 σ1 => rec (a6, σ1)) s.1 s.2) (8, tp4 t x2) := by
  have st : ∀ (K : Nat) (a b : Int32) (t : gS), 0 < K → ¬ 20 ≤ a → (if 4 ≤ a then (if 8 ≤ a then (if 12 ≤ a then (if 16 ≤ a then x5 else x4) else x3) else x2) else x1) = x2 → byM x2 a = b → 0 ≤ (t.1 0 1).toInt → (t.1 0 1).toInt ≤ 1599 → lpc (S := Int32 × gS) K (fun rec s => bX10_feed_18 σ x1 x2 x3 x4 x5 (fun a6 σ1 => rec (a6, σ1)) s.1 s.2) (a, t) = lpc (S := Int32 × gS) (K - 1) (fun rec s => bX10_feed_18 σ x1 x2 x3 x4 x5 (fun a6 σ1 => rec (a6, σ1)) s.1 s.2) (a + 1, tp t b) := by
    intro K a b t hK h20 hy hb g0 g1
    rw [lpc_pos hK, ← hb]
    exact m_fst h20 hy g0 g1
  have a1 := tp_in (s := t) (x := byC x2 24) (by omega) h1 (by omega)
  have a2 := tp_in (s := tp t (byC x2 24)) (x := byC x2 16) (by omega) a1 (by omega)
  have a3 := tp_in (s := tp (tp t (byC x2 24)) (byC x2 16)) (x := byC x2 8) (by omega) a2 (by omega)
  have e1 : (4 : Int32) + 1 = 5 := by decide
  have e2 : (5 : Int32) + 1 = 6 := by decide
  have e3 : (6 : Int32) + 1 = 7 := by decide
  have e4 : (7 : Int32) + 1 = 8 := by decide
  have ek : K - 1 - 1 - 1 - 1 = K - 4 := by omega
  rw [st K 4 _ t (by omega) (by decide) rfl (byM_4 _) (by omega) (by omega), e1, st (K - 1) 5 _ _ (by omega) (by decide) rfl (byM_5 _) (by omega) (by omega), e2, st (K - 1 - 1) 6 _ _ (by omega) (by decide) rfl (byM_6 _) (by omega) (by omega), e3, st (K - 1 - 1 - 1) 7 _ _ (by omega) (by decide) rfl (byM_7 _) (by omega) (by omega), e4, ek]
  rfl
theorem m_four2 {σ : gS} {x1 x2 x3 x4 x5 : Int32} {K : Nat} (hK : 4 ≤ K) {t : gS} {n : Int} (h0 : 0 ≤ n) (h1 : (t.1 0 1).toInt = n) (hn : n ≤ 1596) : lpc (S := Int32 × gS) K (fun rec s => bX10_feed_18 σ x1 x2 x3 x4 x5 (fun a6 σ1 => rec (a6, σ1)) s.1 s.2) (8, t) = lpc (S := Int32 × gS) (K - 4) (fun rec s => bX10_feed_18 σ x1 x2 x3 x4 x5 (fun a6 σ1 => rec (a6, σ1)) s.1 s.2) (12, tp4 t x3) := by
  have st : ∀ (K : Nat) (a b : Int32) (t : gS), 0 < K → ¬ 20 ≤ a → (if 4 ≤ a then (if 8 ≤ a then (if 12 ≤ a then (if 16 ≤ a then x5 else x4) else x3) else x2) else x1) = x3 → byM x3 a = b → 0 ≤ (t.1 0 1).toInt → (t.1 0 1).toInt ≤ 1599 → lpc (S := Int32 × gS) K (fun rec s => bX10_feed_18 σ x1 x2 x3 x4 x5 (fun a6 σ1 => rec (a6, σ1)) s.1 s.2) (a, t) = lpc (S := Int32 × gS) (K - 1) (fun rec s => bX10_feed_18 σ x1 x2 x3 x4 x5 (fun a6 σ1 => rec (a6, σ1)) s.1 s.2) (a + 1, tp t b) := by
    intro K a b t hK h20 hy hb g0 g1
    rw [lpc_pos hK, ← hb]
    exact m_fst h20 hy g0 g1
  have a1 := tp_in (s := t) (x := byC x3 24) (by omega) h1 (by omega)
  have a2 := tp_in (s := tp t (byC x3 24)) (x := byC x3 16) (by omega) a1 (by omega)
  have a3 := tp_in (s := tp (tp t (byC x3 24)) (byC x3 16)) (x := byC x3 8) (by omega) a2 (by omega)
  have e1 : (8 : Int32) + 1 = 9 := by decide
  have e2 : (9 : Int32) + 1 = 10 := by decide
  have e3 : (10 : Int32) + 1 = 11 := by decide
  have e4 : (11 : Int32) + 1 = 12 := by decide
  have ek : K - 1 - 1 - 1 - 1 = K - 4 := by omega
  rw [st K 8 _ t (by omega) (by decide) rfl (byM_8 _) (by omega) (by omega), e1, st (K - 1) 9 _ _ (by omega) (by decide) rfl (byM_9 _) (by omega) (by omega), e2, st (K - 1 - 1) 10 _ _ (by omega) (by decide) rfl (byM_10 _) (by omega) (by omega), e3, st (K - 1 - 1 - 1) 11 _ _ (by omega) (by decide) rfl (byM_11 _) (by omega) (by omega), e4, ek]
  rfl
theorem m_four3 {σ : gS} {x1 x2 x3 x4 x5 : Int32} {K : Nat} (hK : 4 ≤ K) {t : gS} {n : Int} (h0 : 0 ≤ n) (h1 : (t.1 0 1).toInt = n) (hn : n ≤ 1596) : lpc (S := Int32 × gS) K (fun rec s => bX10_feed_18 σ x1 x2 x3 x4 x5 (fun a6 σ1 => rec (a6, σ1)) s.1 s.2) (12, t) = lpc (S := Int32 × gS) (K - 4) (fun rec s => bX10_feed_18 σ x1 x2 x3 x4 x5 (fun a6 σ1 => rec (a6, σ1)) s.1 s.2) (16, tp4 t x4) := by
  have st : ∀ (K : Nat) (a b : Int32) (t : gS), 0 < K → ¬ 20 ≤ a → (if 4 ≤ a then (if 8 ≤ a then (if 12 ≤ a then (if 16 ≤ a then x5 else x4) else x3) else x2) else x1) = x4 → byM x4 a = b → 0 ≤ (t.1 0 1).toInt → (t.1 0 1).toInt ≤ 1599 → lpc (S := Int32 × gS) K (fun rec s => bX10_feed_18 σ x1 x2 x3 x4 x5 (fun a6 σ1 => rec (a6, σ1)) s.1 s.2) (a, t) = lpc (S := Int32 × gS) (K - 1) (fun rec s => bX10_feed_18 σ x1 x2 x3 x4 x5 (fun a6 σ1 => rec (a6, σ1)) s.1 s.2) (a + 1, tp t b) := by
    intro K a b t hK h20 hy hb g0 g1
    rw [lpc_pos hK, ← hb]
    exact m_fst h20 hy g0 g1
  have a1 := tp_in (s := t) (x := byC x4 24) (by omega) h1 (by omega)
  have a2 := tp_in (s := tp t (byC x4 24)) (x := byC x4 16) (by omega) a1 (by omega)
  have a3 := tp_in (s := tp (tp t (byC x4 24)) (byC x4 16)) (x := byC x4 8) (by omega) a2 (by omega)
  have e1 : (12 : Int32) + 1 = 13 := by decide
  have e2 : (13 : Int32) + 1 = 14 := by decide
  have e3 : (14 : Int32) + 1 = 15 := by decide
  have e4 : (15 : Int32) + 1 = 16 := by decide
  have ek : K - 1 - 1 - 1 - 1 = K - 4 := by omega
  rw [st K 12 _ t (by omega) (by decide) rfl (byM_12 _) (by omega) (by omega), e1, st (K - 1) 13 _ _ (by omega) (by decide) rfl (byM_13 _) (by omega) (by omega), e2, st (K - 1 - 1) 14 _ _ (by omega) (by decide) rfl (byM_14 _) (by omega) (by omega), e3, st (K - 1 - 1 - 1) 15 _ _ (by omega) (by decide) rfl (byM_15 _) (by omega) (by omega), e4, ek]
  rfl
theorem m_four4 {σ : gS} {x1 x2 x3 x4 x5 : Int32} {K : Nat} (hK : 4 ≤ K) {t : gS} {n : Int} (h0 : 0 ≤ n) (h1 : (t.1 0 1).toInt = n) (hn : n ≤ 1596) : lpc (S := Int32 × gS) K (fun rec s => bX10_feed_18 σ x1 x2 x3 x4 x5 (fun a6 σ1 => rec (a6, σ1)) s.1 s.2) (16, t) = lpc (S := Int32 × gS) (K - 4) (fun rec s => bX10_feed_18 σ x1 x2 x3 x4 x5 (fun a6 σ1 => rec (a6, σ1)) s.1 s.2) (20, tp4 t x5) := by
  have st : ∀ (K : Nat) (a b : Int32) (t : gS), 0 < K → ¬ 20 ≤ a → (if 4 ≤ a then (if 8 ≤ a then (if 12 ≤ a then (if 16 ≤ a then x5 else x4) else x3) else x2) else x1) = x5 → byM x5 a = b → 0 ≤ (t.1 0 1).toInt → (t.1 0 1).toInt ≤ 1599 → lpc (S := Int32 × gS) K (fun rec s => bX10_feed_18 σ x1 x2 x3 x4 x5 (fun a6 σ1 => rec (a6, σ1)) s.1 s.2) (a, t) = lpc (S := Int32 × gS) (K - 1) (fun rec s => bX10_feed_18 σ x1 x2 x3 x4 x5 (fun a6 σ1 => rec (a6, σ1)) s.1 s.2) (a + 1, tp t b) := by
    intro K a b t hK h20 hy hb g0 g1
    rw [lpc_pos hK, ← hb]
    exact m_fst h20 hy g0 g1
  have a1 := tp_in (s := t) (x := byC x5 24) (by omega) h1 (by omega)
  have a2 := tp_in (s := tp t (byC x5 24)) (x := byC x5 16) (by omega) a1 (by omega)
  have a3 := tp_in (s := tp (tp t (byC x5 24)) (byC x5 16)) (x := byC x5 8) (by omega) a2 (by omega)
  have e1 : (16 : Int32) + 1 = 17 := by decide
  have e2 : (17 : Int32) + 1 = 18 := by decide
  have e3 : (18 : Int32) + 1 = 19 := by decide
  have e4 : (19 : Int32) + 1 = 20 := by decide
  have ek : K - 1 - 1 - 1 - 1 = K - 4 := by omega
  rw [st K 16 _ t (by omega) (by decide) rfl (byM_16 _) (by omega) (by omega), e1, st (K - 1) 17 _ _ (by omega) (by decide) rfl (byM_17 _) (by omega) (by omega), e2, st (K - 1 - 1) 18 _ _ (by omega) (by decide) rfl (byM_18 _) (by omega) (by omega), e3, st (K - 1 - 1 - 1) 19 _ _ (by omega) (by decide) rfl (byM_19 _) (by omega) (by omega), e4, ek]
  rfl
theorem m_feed {s : gS} (x1 x2 x3 x4 x5 : Int32) {n : Int} (h0 : 0 ≤ n) (h1 : (s.1 0 1).toInt = n) (hn : n ≤ 1580) : fX10_feed s x1 x2 x3 x4 x5 = some ((tp4 (tp4 (tp4 (tp4 (tp4 s x1) x2) x3) x4) x5).1 0 1, tp4 (tp4 (tp4 (tp4 (tp4 s x1) x2) x3) x4) x5) := by
  have l20 : (20 : Int32).toInt = 20 := by decide
  have l16 : (1600 : Int32).toInt = 1600 := by decide
  have a1 := tp4_in (s := s) (x := x1) h0 h1 (by omega)
  have a2 := tp4_in (s := tp4 s x1) (x := x2) (by omega) a1 (by omega)
  have a3 := tp4_in (s := tp4 (tp4 s x1) x2) (x := x3) (by omega) a2 (by omega)
  have a4 := tp4_in (s := tp4 (tp4 (tp4 s x1) x2) x3) (x := x4) (by omega) a3 (by omega)
  have e : (s.1 0 1 + 20).toInt = (s.1 0 1).toInt + 20 := by rw [iadd_toInt] <;> omega
  have hK9 : K9 = 1048576 := rfl
  unfold fX10_feed
  rw [if_pos (q_le (by omega)), nm_eq, m_four0 (by omega) h0 h1 (by omega), m_four1 (by omega) (by omega) a1 (by omega), m_four2 (by omega) (by omega) a2 (by omega), m_four3 (by omega) (by omega) a3 (by omega), m_four4 (by omega) (by omega) a4 (by omega), lpc_pos (by omega)]
  show bX10_feed_18 s x1 x2 x3 x4 x5 _ 20 _ = _
  unfold bX10_feed_18
  exact if_pos (by decide)
/-- what holds of both worlds ahead of every call -/
noncomputable def IV (σC σM : gS) : Prop := JC σC ∧ JM σM ∧ WM σM ∧ σM.1 1 = σC.1 1 ∧ σM.1 0 1 = σC.1 0 1 ∧ σM.1 0 7 = σC.1 0 15 ∧ σM.1 0 8 = σC.1 0 16 ∧ TRd σC σM
theorem IV_fr {LC LM : List (Nat × Nat)} {σC σM τC τM : gS} (h : IV σC σM) (jC : JC τC) (jM : JM τM) (FC : Fr LC σC τC) (FM : Fr LM σM τM) (hC : ∀ q ∈ LC, q ≠ (0, 0) ∧ q ≠ (0, 2) ∧ q ≠ (0, 16) ∧ q ≠ (0, 17) ∧ q.1 ≠ 1 ∧ q.1 ∉ [3, 5, 6, 7, 8, 9, 10, 11, 15, 16, 18, 19, 20, 22, 23]) (hM : ∀ q ∈ LM, q ≠ (0, 0) ∧ q ≠ (0, 2) ∧ q ≠ (0, 8) ∧ q ≠ (0, 9) ∧ q.1 ∉ [1, 2, 3, 4, 5, 6, 7, 8, 9, 10, 11, 12, 13, 14, 15, 16, 17, 18, 19, 20, 21, 22, 23]) (h25 : ∀ q ∈ LM, q.1 ≠ 24 ∧ q.1 ≠ 25 ∨ q.1 = 24) : IV τC τM := by
  obtain ⟨i1, i2, i3, i4, i5, i6, i7, i8⟩ := h
  have c1 : ∀ i, (0, i + 1) ∉ LC → τC.1 0 i = σC.1 0 i := fun i hi => (FC 0 i (fun z => (hC _ z).1 rfl) hi).1
  have m1 : ∀ i, (0, i + 1) ∉ LM → τM.1 0 i = σM.1 0 i := fun i hi => (FM 0 i (fun z => (hM _ z).1 rfl) hi).1
  refine ⟨jC, jM, WM_fr FM (fun q hq => ?_) i3, ?_, ?_, ?_, ?_, ?_⟩
  · have := (hM q hq).2.2.2.2
    simp at this
    omega
  · rw [Fr_row FM 1 (fun q hq z => (hM q hq).2.2.2.2 (by rw [z]; decide)), Fr_row FC 1 (fun q hq => (hC q hq).2.2.2.2.1)]
    exact i4
  · rw [m1 1 (fun z => (hM _ z).2.1 rfl), c1 1 (fun z => (hC _ z).2.1 rfl)]
    exact i5
  · rw [m1 7 (fun z => (hM _ z).2.2.1 rfl), c1 15 (fun z => (hC _ z).2.2.1 rfl)]
    exact i6
  · rw [m1 8 (fun z => (hM _ z).2.2.2.1 rfl), c1 16 (fun z => (hC _ z).2.2.2.1 rfl)]
    exact i7
  · have hm : ∀ k, k ∈ [14, 15, 16, 17, 18, 19, 20, 21, 22, 23] → τM.1 k = σM.1 k ∧ τM.2 k = σM.2 k := fun k hk => by
      have z : ∀ q ∈ LM, q.1 ≠ k := fun q hq z => (hM q hq).2.2.2.2 (by rw [z]; simp at hk ⊢; omega)
      exact ⟨Fr_row FM k z, Fr_row2 FM k z⟩
    have hc : ∀ k, k ∈ [3, 5, 6, 7, 8, 9, 10, 11, 15, 16, 18, 19, 20, 22, 23] → τC.1 k = σC.1 k := fun k hk => Fr_row FC k (fun q hq z => (hC q hq).2.2.2.2.2 (by rw [z]; exact hk))
    obtain ⟨h1, h2, h3, h4, h5⟩ := i8
    unfold TRd PTd QTd RTd
    have h25' : τM.1 25 = σM.1 25 := Fr_row FM 25 (fun q hq z => by rcases h25 q hq with w | w <;> omega)
    rw [h25', hc 15 (by decide), hc 22 (by decide), hc 23 (by decide), (hm 19 (by decide)).1, hc 3 (by decide), hc 8 (by decide), hc 9 (by decide), hc 20 (by decide), hc 16 (by decide), hc 18 (by decide), hc 19 (by decide), hc 10 (by decide), hc 11 (by decide), (hm 15 (by decide)).1, (hm 14 (by decide)).2, (hm 16 (by decide)).1, (hm 17 (by decide)).1, (hm 18 (by decide)).1, (hm 20 (by decide)).1, (hm 21 (by decide)).1, (hm 22 (by decide)).1, (hm 23 (by decide)).1]
    refine ⟨h1, fun K i hK hi => ?_, h3, h4, h5⟩
    rw [hc (5 + K) (by have hj : K = 0 ∨ K = 1 ∨ K = 2 := by omega
                       rcases hj with rfl | rfl | rfl <;> decide)]
    exact h2 K i hK hi
theorem IV_t {σC σM τC τM : gS} (h : IV σC σM) (jC : JC τC) (jM : JM τM) (FC : Fr [(0, 2), (1, 0)] σC τC) (FM : Fr [(0, 2), (1, 0)] σM τM) (t : TP τC τM) : IV τC τM := by
  obtain ⟨i1, i2, i3, i4, i5, i6, i7, i8⟩ := h
  refine ⟨jC, jM, WM_fr FM (by decide) i3, t.1, t.2, ?_, ?_, TR_eq i8 (fun k hk => Fr_row FC k (fun q hq => by simp at hq hk; rcases hq with rfl | rfl <;> dsimp only <;> omega)) (UP_f UP_r FM (by decide))⟩
  · rw [(FM 0 7 (by decide) (by decide)).1, (FC 0 15 (by decide) (by decide)).1]
    exact i6
  · rw [(FM 0 8 (by decide) (by decide)).1, (FC 0 16 (by decide) (by decide)).1]
    exact i7
theorem c_0 {σC σM : gS} (h : IV σC σM) (x1 x2 x3 x4 x5 : Int32) : ∃ (oc : Int32 × gS) (om : Int32 × gS), fX9_feed σC x1 x2 x3 x4 x5 = some oc ∧ fX10_feed σM x1 x2 x3 x4 x5 = some om ∧ oc.1 = om.1 ∧ IV oc.2 om.2 := by
  have h' := h
  obtain ⟨i1, i2, i3, i4, i5, i6, i7, i8⟩ := h
  have t0 : 0 ≤ (σC.1 0 1).toInt ∧ (σC.1 0 1).toInt ≤ 1600 := i1 0 1
  by_cases hb : (σC.1 0 1).toInt ≤ 1580
  · have eC := c_feed (s := σC) x1 x2 x3 x4 x5 t0.1 rfl hb
    have eM := m_feed (s := σM) x1 x2 x3 x4 x5 (n := (σC.1 0 1).toInt) t0.1 (by rw [i5]) hb
    have T := TP_4 (TP_4 (TP_4 (TP_4 (TP_4 (⟨i4, i5⟩ : TP σC σM) x1) x2) x3) x4) x5
    have oC := o_fX9_feed i1 (p1 := x1) (p2 := x2) (p3 := x3) (p4 := x4) (p5 := x5)
    have oM := o_fX10_feed i2 (p1 := x1) (p2 := x2) (p3 := x3) (p4 := x4) (p5 := x5)
    rw [eC] at oC
    rw [eM] at oM
    have oC := ok_some.mp oC
    have oM := ok_some.mp oM
    exact ⟨_, _, eC, eM, T.2.symm, IV_t h' oC.1 oM.1 (Fr_c Fr_r oC.2.1 (by decide)) (Fr_c Fr_r oM.2.1 (by decide)) T⟩
  · have l20 : (20 : Int32).toInt = 20 := by decide
    have l16 : (1600 : Int32).toInt = 1600 := by decide
    have e : (σC.1 0 1 + 20).toInt = (σC.1 0 1).toInt + 20 := by rw [iadd_toInt] <;> omega
    have n1 : ¬ (σC.1 0 1 + 20) ≤ 1600 := q_nle (by omega)
    have n2 : ¬ (σM.1 0 1 + 20) ≤ 1600 := by rw [i5]; exact n1
    exact ⟨_, _, if_neg n1, if_neg n2, rfl, h'⟩
theorem c_1 {σC σM : gS} (h : IV σC σM) (x1 : Int32) : ∃ (oc : Int32 × gS) (om : Int32 × gS), fX9_end σC x1 = some oc ∧ fX10_end σM x1 = some om ∧ oc.1 = om.1 ∧ IV oc.2 om.2 := by
  have h' := h
  obtain ⟨i1, i2, i3, i4, i5, i6, i7, i8⟩ := h
  have t0 : 0 ≤ (σC.1 0 1).toInt ∧ (σC.1 0 1).toInt ≤ 1600 := i1 0 1
  unfold fX9_end fX10_end
  rw [i5]
  by_cases a : x1 < 0
  · rw [if_pos a, if_pos a]
    exact ⟨_, _, rfl, rfl, rfl, h'⟩
  · rw [if_neg a, if_neg a]
    by_cases b : x1 ≤ σC.1 0 1
    · rw [if_pos b, if_pos b]
      have b' := Int32.le_iff_toInt_le.mp b
      have a' : ¬ x1.toInt < (0 : Int32).toInt := fun z => a (Int32.lt_iff_toInt_lt.mpr z)
      have z0' := z0
      refine ⟨_, _, rfl, rfl, rfl, IV_t h' (JC_w i1 (show 0 ≤ _ by omega) (show _ ≤ 1600 by omega)) (JM_w i2 (show 0 ≤ _ by omega) (show _ ≤ 1600 by omega)) (Fr_w Fr_r (by decide)) (Fr_w Fr_r (by decide)) ⟨?_, rfl⟩⟩
      show (gsI σM 0 1 x1).1 1 = (gsI σC 0 1 x1).1 1
      rw [gsI_row (by decide), gsI_row (by decide)]
      exact i4
    · rw [if_neg b, if_neg b]
      exact ⟨_, _, rfl, rfl, rfl, h'⟩
theorem c_2 {σC σM : gS} (h : IV σC σM) : ∃ (oc : Int32 × gS) (om : Int32 × gS), fX9_block σC = some oc ∧ fX10_block σM = some om ∧ oc.1 = om.1 ∧ IV oc.2 om.2 := by
  obtain ⟨i1, i2, i3, i4, i5, i6, i7, i8⟩ := h
  obtain ⟨oc, om, eC, eM, ⟨jC, FC, -, -, t0⟩, ⟨jM, FM, -, -⟩, b1, b2, b3, b4, b5, -⟩ := (((p_block i1 i2 i3 i4 i5 i8).r (o_fX10_block i2)).l (o_fX9_block i1))
  refine ⟨oc, om, eC, eM, b1, jC, jM, WM_fr FM (by decide) i3, ?_, ?_, b4, b5, b2⟩
  · rw [Fr_row FM 1 (by decide), Fr_row FC 1 (by decide)]
    exact i4
  · rw [b3]
    exact (q_of 0 (t0.trans (by decide))).symm
theorem c_3 {σC σM : gS} (h : IV σC σM) (x1 : Int32) : ∃ (oc : Int32) (om : Int32), fX9_fault σC x1 = some oc ∧ fX10_fault σM x1 = some om ∧ oc = om ∧ IV σC σM := by
  have h' := h
  obtain ⟨i1, i2, i3, i4, i5, i6, i7, i8⟩ := h
  unfold fX9_fault fX10_fault
  by_cases a : x1 = 0
  · rw [if_pos a, if_pos a]
    exact ⟨_, _, rfl, rfl, i6.symm, h'⟩
  · rw [if_neg a, if_neg a]
    by_cases b : x1 = 1
    · rw [if_pos b, if_pos b]
      exact ⟨_, _, rfl, rfl, i7.symm, h'⟩
    · rw [if_neg b, if_neg b]
      exact ⟨_, _, rfl, rfl, rfl, h'⟩
theorem IV_on {σC σM τC τM : gS} (h : IV σC σM) (jC : JC τC) (jM : JM τM) (FC : Fr fr_fX9_on σC τC) (FM : Fr fr_fX10_on σM τM) (tC : (τC.1 0 1).toInt = 0) (tM : (τM.1 0 1).toInt = 0) : IV τC τM := by
  obtain ⟨i1, i2, i3, i4, i5, i6, i7, i8⟩ := h
  refine ⟨jC, jM, WM_fr FM (by decide) i3, ?_, Int32.toInt_inj.mp (tM.trans tC.symm), ?_, ?_, TR_eq i8 (fun k hk => Fr_row FC k (fun q hq z => (show ∀ q ∈ fr_fX9_on, q.1 ∉ [3, 5, 6, 7, 8, 9, 10, 11, 15, 16, 18, 19, 20, 22, 23] by decide) q hq (by rw [z]; exact hk))) (UP_f UP_r FM (by decide))⟩
  · rw [Fr_row FM 1 (by decide), Fr_row FC 1 (by decide)]
    exact i4
  · rw [(FM 0 7 (by decide) (by decide)).1, (FC 0 15 (by decide) (by decide)).1]
    exact i6
  · rw [(FM 0 8 (by decide) (by decide)).1, (FC 0 16 (by decide) (by decide)).1]
    exact i7
/-! the calls that come through, whatever they answer -/
theorem g_4 {σC σM : gS} (h : IV σC σM) (x1 : Int32) : ∃ (oc : Int32) (om : Int32), fX9_has σC x1 = some oc ∧ fX10_has σM x1 = some om ∧ IV σC σM := by
  obtain ⟨oc, eC, hC⟩ := o_fX9_has h.1 (p1 := x1)
  obtain ⟨om, eM, hM⟩ := o_fX10_has h.2.1 (p1 := x1)
  exact ⟨oc, om, eC, eM, h⟩
theorem g_5 {σC σM : gS} (h : IV σC σM) (x1 x2 x3 : Int32) : ∃ (oc : Int32) (om : Int32), fX9_letter σC x1 x2 x3 = some oc ∧ fX10_letter σM x1 x2 x3 = some om ∧ IV σC σM := by
  obtain ⟨oc, eC, hC⟩ := o_fX9_letter h.1 (p1 := x1) (p2 := x2) (p3 := x3)
  obtain ⟨om, eM, hM⟩ := o_fX10_letter h.2.1 (p1 := x1) (p2 := x2) (p3 := x3)
  exact ⟨oc, om, eC, eM, h⟩
theorem g_6 {σC σM : gS} (h : IV σC σM) (x1 x2 : Int32) : ∃ (oc : Int32 × gS) (om : Int32 × gS), fX9_picture σC x1 x2 = some oc ∧ fX10_picture σM x1 x2 = some om ∧ IV oc.2 om.2 := by
  obtain ⟨oc, eC, hC⟩ := o_fX9_picture h.1 (p1 := x1) (p2 := x2)
  obtain ⟨om, eM, hM⟩ := o_fX10_picture h.2.1 (p1 := x1) (p2 := x2)
  exact ⟨oc, om, eC, eM, IV_fr h hC.1 hM.1 hC.2 hM.2 (by decide) (by decide) (by decide)⟩
theorem g_7 {σC σM : gS} (h : IV σC σM) (x1 x2 : Int32) : ∃ (oc : Int32 × gS) (om : Int32 × gS), fX9_point σC x1 x2 = some oc ∧ fX10_point σM x1 x2 = some om ∧ IV oc.2 om.2 := by
  obtain ⟨oc, eC, hC⟩ := o_fX9_point h.1 (p1 := x1) (p2 := x2)
  obtain ⟨om, eM, hM⟩ := o_fX10_point h.2.1 (p1 := x1) (p2 := x2)
  exact ⟨oc, om, eC, eM, IV_fr h hC.1 hM.1 hC.2 hM.2 (by decide) (by decide) (by decide)⟩
theorem g_8 {σC σM : gS} (h : IV σC σM) (x1 x2 : Int32) : ∃ (oc : Int32 × gS) (om : Int32 × gS), fX9_row σC x1 x2 = some oc ∧ fX10_row σM x1 x2 = some om ∧ IV oc.2 om.2 := by
  obtain ⟨oc, eC, hC⟩ := o_fX9_row h.1 (p1 := x1) (p2 := x2)
  obtain ⟨om, eM, hM⟩ := o_fX10_row h.2.1 (p1 := x1) (p2 := x2)
  exact ⟨oc, om, eC, eM, IV_fr h hC.1 hM.1 hC.2 hM.2 (by decide) (by decide) (by decide)⟩
theorem g_9 {σC σM : gS} (h : IV σC σM) (x1 x2 : Int32) : ∃ (oc : Int32) (om : Int32), fX9_drift σC x1 x2 = some oc ∧ fX10_drift σM x1 x2 = some om ∧ IV σC σM := by
  obtain ⟨oc, eC, hC⟩ := o_fX9_drift h.1 (p1 := x1) (p2 := x2)
  obtain ⟨om, eM, hM⟩ := o_fX10_drift h.2.1 (p1 := x1) (p2 := x2)
  exact ⟨oc, om, eC, eM, h⟩
theorem g_10 {σC σM : gS} (h : IV σC σM) : ∃ (oc : Int32 × gS) (om : Int32 × gS), fX9_start σC  = some oc ∧ fX10_start σM  = some om ∧ IV oc.2 om.2 := by
  obtain ⟨oc, eC, hC⟩ := o_fX9_start h.1 
  obtain ⟨om, eM, hM⟩ := o_fX10_start h.2.1 
  exact ⟨oc, om, eC, eM, IV_fr h hC.1 hM.1 hC.2 hM.2 (by decide) (by decide) (by decide)⟩
theorem g_11 {σC σM : gS} (h : IV σC σM) (x1 : Int32) : ∃ (oc : Int32 × gS) (om : Int32 × gS), fX9_rounds σC x1 = some oc ∧ fX10_rounds σM x1 = some om ∧ IV oc.2 om.2 := by
  obtain ⟨oc, eC, hC⟩ := o_fX9_rounds h.1 (p1 := x1)
  obtain ⟨om, eM, hM⟩ := o_fX10_rounds h.2.1 (p1 := x1)
  exact ⟨oc, om, eC, eM, IV_fr h hC.1 hM.1 hC.2.1 hM.2.1 (by decide) (by decide) (by decide)⟩
theorem g_12 {σC σM : gS} (h : IV σC σM) : ∃ (oc : Int64) (om : Int64), fX9_sum σC  = some oc ∧ fX10_sum σM  = some om ∧ IV σC σM := by
  obtain ⟨oc, eC, hC⟩ := o_fX9_sum h.1 
  obtain ⟨om, eM, hM⟩ := o_fX10_sum h.2.1 
  exact ⟨oc, om, eC, eM, h⟩
theorem g_13 {σC σM : gS} (h : IV σC σM) (x1 x2 x3 : Int32) : ∃ (oc : Int32 × gS) (om : Int32 × gS), fX9_whole σC x1 x2 x3 = some oc ∧ fX10_whole σM x1 x2 x3 = some om ∧ IV oc.2 om.2 := by
  obtain ⟨oc, eC, hC⟩ := o_fX9_whole h.1 (p1 := x1) (p2 := x2) (p3 := x3)
  obtain ⟨om, eM, hM⟩ := o_fX10_whole h.2.1 (p1 := x1) (p2 := x2) (p3 := x3) (TR_RM h.2.2.2.2.2.2.2)
  exact ⟨oc, om, eC, eM, IV_fr h hC.1 hM.1 hC.2 hM.2 (by decide) (by decide) (by decide)⟩
theorem g_14 {σC σM : gS} (h : IV σC σM) (x1 : Int32) : ∃ (oc : Int32 × gS) (om : Int32 × gS), fX9_sets σC x1 = some oc ∧ fX10_sets σM x1 = some om ∧ IV oc.2 om.2 := by
  obtain ⟨oc, eC, hC⟩ := o_fX9_sets h.1 (p1 := x1)
  obtain ⟨om, eM, hM⟩ := o_fX10_sets h.2.1 (p1 := x1)
  exact ⟨oc, om, eC, eM, IV_fr h hC.1 hM.1 hC.2 hM.2 (by decide) (by decide) (by decide)⟩
theorem g_15 {σC σM : gS} (h : IV σC σM) : ∃ (oc : Int32 × gS) (om : Int32 × gS), fX9_parts σC  = some oc ∧ fX10_parts σM  = some om ∧ IV oc.2 om.2 := by
  obtain ⟨oc, eC, hC⟩ := o_fX9_parts h.1 
  obtain ⟨om, eM, hM⟩ := o_fX10_parts h.2.1 
  exact ⟨oc, om, eC, eM, IV_fr h hC.1 hM.1 hC.2 hM.2 (by decide) (by decide) (by decide)⟩
theorem g_16 {σC σM : gS} (h : IV σC σM) (x1 x2 : Int32) : ∃ (oc : Int32 × gS) (om : Int32 × gS), fX9_hang σC x1 x2 = some oc ∧ fX10_hang σM x1 x2 = some om ∧ IV oc.2 om.2 := by
  obtain ⟨oc, eC, hC⟩ := o_fX9_hang h.1 (p1 := x1) (p2 := x2)
  obtain ⟨om, eM, hM⟩ := o_fX10_hang h.2.1 (p1 := x1) (p2 := x2)
  exact ⟨oc, om, eC, eM, IV_fr h hC.1 hM.1 hC.2.1 hM.2.1 (by decide) (by decide) (by decide)⟩
theorem g_17 {σC σM : gS} (h : IV σC σM) : ∃ (oc : Int32 × gS) (om : Int32 × gS), fX9_blind σC  = some oc ∧ fX10_blind σM  = some om ∧ IV oc.2 om.2 := by
  obtain ⟨oc, eC, hC⟩ := o_fX9_blind h.1 
  obtain ⟨om, eM, hM⟩ := o_fX10_blind h.2.1 
  exact ⟨oc, om, eC, eM, IV_fr h hC.1 hM.1 hC.2 hM.2 (by decide) (by decide) (by decide)⟩
theorem g_18 {σC σM : gS} (h : IV σC σM) (x1 : Int32) : ∃ (oc : Int32 × gS) (om : Int32 × gS), fX9_needs σC x1 = some oc ∧ fX10_needs σM x1 = some om ∧ IV oc.2 om.2 := by
  obtain ⟨oc, eC, hC⟩ := o_fX9_needs h.1 (p1 := x1)
  obtain ⟨om, eM, hM⟩ := o_fX10_needs h.2.1 (p1 := x1)
  exact ⟨oc, om, eC, eM, IV_fr h hC.1 hM.1 hC.2 hM.2 (by decide) (by decide) (by decide)⟩
theorem g_19 {σC σM : gS} (h : IV σC σM) (x1 : Int32) : ∃ (oc : Int64) (om : Int64), fX9_doubt σC x1 = some oc ∧ fX10_doubt σM x1 = some om ∧ IV σC σM := by
  obtain ⟨oc, eC, hC⟩ := o_fX9_doubt h.1 (p1 := x1)
  obtain ⟨om, eM, hM⟩ := o_fX10_doubt h.2.1 (p1 := x1)
  exact ⟨oc, om, eC, eM, h⟩
theorem g_20 {σC σM : gS} (h : IV σC σM) : ∃ (oc : Int32 × gS) (om : Int32 × gS), fX9_worst σC  = some oc ∧ fX10_worst σM  = some om ∧ IV oc.2 om.2 := by
  obtain ⟨oc, eC, hC⟩ := o_fX9_worst h.1 
  obtain ⟨om, eM, hM⟩ := o_fX10_worst h.2.1 
  exact ⟨oc, om, eC, eM, IV_fr h hC.1 hM.1 hC.2.1 hM.2.1 (by decide) (by decide) (by decide)⟩
theorem g_21 {σC σM : gS} (h : IV σC σM) (x1 x2 : Int32) : ∃ (oc : Int32 × gS) (om : Int32 × gS), fX9_drop σC x1 x2 = some oc ∧ fX10_drop σM x1 x2 = some om ∧ IV oc.2 om.2 := by
  obtain ⟨oc, eC, hC⟩ := o_fX9_drop h.1 (p1 := x1) (p2 := x2)
  obtain ⟨om, eM, hM⟩ := o_fX10_drop h.2.1 (p1 := x1) (p2 := x2)
  exact ⟨oc, om, eC, eM, IV_fr h hC.1 hM.1 hC.2.1 hM.2.1 (by decide) (by decide) (by decide)⟩
theorem g_22 {σC σM : gS} (h : IV σC σM) (x1 : Int64) : ∃ (oc : Int32 × gS) (om : Int32 × gS), fX9_clean σC x1 = some oc ∧ fX10_clean σM x1 = some om ∧ IV oc.2 om.2 := by
  obtain ⟨oc, eC, hC⟩ := o_fX9_clean h.1 (p1 := x1)
  obtain ⟨om, eM, hM⟩ := o_fX10_clean h.2.1 (p1 := x1)
  exact ⟨oc, om, eC, eM, IV_fr h hC.1 hM.1 hC.2 hM.2.1 (by decide) (by decide) (by decide)⟩
theorem g_23 {σC σM : gS} (h : IV σC σM) (x1 x2 x3 : Int32) : ∃ (oc : Int32 × gS) (om : Int32), fX9_tie σC x1 x2 x3 = some oc ∧ fX10_tie σM x1 x2 x3 = some om ∧ IV oc.2 σM := by
  obtain ⟨oc, eC, hC⟩ := o_fX9_tie h.1 (p1 := x1) (p2 := x2) (p3 := x3)
  obtain ⟨om, eM, hM⟩ := o_fX10_tie h.2.1 (p1 := x1) (p2 := x2) (p3 := x3)
  exact ⟨oc, om, eC, eM, IV_fr h hC.1 h.2.1 hC.2 (Fr_r (L := [])) (by decide) (by decide) (by decide)⟩
theorem g_24 {σC σM : gS} (h : IV σC σM) (x1 x2 x3 x4 : Int32) : ∃ (oc : Int32 × gS) (om : Int32), fX9_loop σC x1 x2 x3 x4 = some oc ∧ fX10_loop σM x1 x2 x3 x4 = some om ∧ IV oc.2 σM := by
  obtain ⟨oc, eC, hC⟩ := o_fX9_loop h.1 (p1 := x1) (p2 := x2) (p3 := x3) (p4 := x4)
  obtain ⟨om, eM, hM⟩ := o_fX10_loop h.2.1 (p1 := x1) (p2 := x2) (p3 := x3) (p4 := x4)
  exact ⟨oc, om, eC, eM, IV_fr h hC.1 h.2.1 hC.2 (Fr_r (L := [])) (by decide) (by decide) (by decide)⟩
theorem g_25 {σC σM : gS} (h : IV σC σM) (x1 : Int32) : ∃ (oc : Int32 × gS) (om : Int32), fX9_gap σC x1 = some oc ∧ fX10_gap σM x1 = some om ∧ IV oc.2 σM := by
  obtain ⟨oc, eC, hC⟩ := o_fX9_gap h.1 (p1 := x1)
  obtain ⟨om, eM, hM⟩ := o_fX10_gap h.2.1 (p1 := x1)
  exact ⟨oc, om, eC, eM, IV_fr h hC.1 h.2.1 hC.2 (Fr_r (L := [])) (by decide) (by decide) (by decide)⟩
theorem g_26 {σC σM : gS} (h : IV σC σM) (x1 : Int32) : ∃ (oc : Int32 × gS) (om : Int32 × gS), fX9_tree σC x1 = some oc ∧ fX10_tree σM x1 = some om ∧ IV oc.2 om.2 := by
  obtain ⟨oc, eC, hC⟩ := o_fX9_tree h.1 (p1 := x1)
  obtain ⟨om, eM, hM⟩ := o_fX10_tree h.2.1 (p1 := x1)
  exact ⟨oc, om, eC, eM, IV_fr h hC.1 hM.1 hC.2.1 hM.2 (by decide) (by decide) (by decide)⟩
theorem g_27 {σC σM : gS} (h : IV σC σM) (x1 : Int32) : ∃ (oc : Int32 × gS) (om : Int32 × gS), fX9_plan σC x1 = some oc ∧ fX10_plan σM x1 = some om ∧ IV oc.2 om.2 := by
  obtain ⟨oc, eC, hC⟩ := o_fX9_plan h.1 (p1 := x1)
  obtain ⟨om, eM, hM⟩ := o_fX10_plan h.2.1 (p1 := x1)
  exact ⟨oc, om, eC, eM, IV_fr h hC.1 hM.1 hC.2 hM.2 (by decide) (by decide) (by decide)⟩
theorem g_28 {σC σM : gS} (h : IV σC σM) (x1 x2 : Int32) : ∃ (oc : Int32 × gS) (om : Int32 × gS), fX9_differ σC x1 x2 = some oc ∧ fX10_differ σM x1 x2 = some om ∧ IV oc.2 om.2 := by
  obtain ⟨oc, eC, hC⟩ := o_fX9_differ h.1 (p1 := x1) (p2 := x2)
  obtain ⟨om, eM, hM⟩ := o_fX10_differ h.2.1 (p1 := x1) (p2 := x2)
  exact ⟨oc, om, eC, eM, IV_fr h hC.1 hM.1 hC.2 hM.2 (by decide) (by decide) (by decide)⟩
theorem g_29 {σC σM : gS} (h : IV σC σM) (x1 x2 x3 x4 : Int32) : ∃ (oc : Int32 × gS) (om : Int32 × gS), fX9_alters σC x1 x2 x3 x4 = some oc ∧ fX10_alters σM x1 x2 x3 x4 = some om ∧ IV oc.2 om.2 := by
  obtain ⟨oc, eC, hC⟩ := o_fX9_alters h.1 (p1 := x1) (p2 := x2) (p3 := x3) (p4 := x4)
  obtain ⟨om, eM, hM⟩ := o_fX10_alters h.2.1 (p1 := x1) (p2 := x2) (p3 := x3) (p4 := x4)
  exact ⟨oc, om, eC, eM, IV_fr h hC.1 hM.1 hC.2 hM.2 (by decide) (by decide) (by decide)⟩
theorem g_30 {σC σM : gS} (h : IV σC σM) (x1 x2 x3 : Int32) : ∃ (oc : Int32 × gS) (om : Int32 × gS), fX9_measure σC x1 x2 x3 = some oc ∧ fX10_measure σM x1 x2 x3 = some om ∧ IV oc.2 om.2 := by
  obtain ⟨oc, eC, hC⟩ := o_fX9_measure h.1 (p1 := x1) (p2 := x2) (p3 := x3)
  obtain ⟨om, eM, hM⟩ := o_fX10_measure h.2.1 (p1 := x1) (p2 := x2) (p3 := x3)
  exact ⟨oc, om, eC, eM, IV_fr h hC.1 hM.1 hC.2.1 hM.2.1 (by decide) (by decide) (by decide)⟩
theorem g_31 {σC σM : gS} (h : IV σC σM) (x1 x2 x3 : Int32) : ∃ (oc : Int32 × gS) (om : Int32 × gS), fX9_slips σC x1 x2 x3 = some oc ∧ fX10_slips σM x1 x2 x3 = some om ∧ IV oc.2 om.2 := by
  obtain ⟨oc, eC, hC⟩ := o_fX9_slips h.1 (p1 := x1) (p2 := x2) (p3 := x3)
  obtain ⟨om, eM, hM⟩ := o_fX10_slips h.2.1 (p1 := x1) (p2 := x2) (p3 := x3)
  exact ⟨oc, om, eC, eM, IV_fr h hC.1 hM.1 hC.2 hM.2 (by decide) (by decide) (by decide)⟩
theorem g_32 {σC σM : gS} (h : IV σC σM) : ∃ (oc : Int32 × gS) (om : Int32 × gS), fX9_image σC  = some oc ∧ fX10_image σM  = some om ∧ IV oc.2 om.2 := by
  obtain ⟨oc, eC, hC⟩ := o_fX9_image h.1 
  obtain ⟨om, eM, hM⟩ := o_fX10_image h.2.1 
  exact ⟨oc, om, eC, eM, IV_fr h hC.1 hM.1 hC.2.1 hM.2.1 (by decide) (by decide) (by decide)⟩
theorem g_33 {σC σM : gS} (h : IV σC σM) (x1 : Int32) : ∃ (oc : Int32) (om : Int32), fX9_octet σC x1 = some oc ∧ fX10_octet σM x1 = some om ∧ IV σC σM := by
  obtain ⟨oc, eC, hC⟩ := o_fX9_octet h.1 (p1 := x1)
  obtain ⟨om, eM, hM⟩ := o_fX10_octet h.2.1 (p1 := x1)
  exact ⟨oc, om, eC, eM, h⟩
theorem g_34 {σC σM : gS} (h : IV σC σM) : ∃ (oc : Int32 × gS) (om : Int32 × gS), fX9_on σC  = some oc ∧ fX10_on σM  = some om ∧ IV oc.2 om.2 := by
  obtain ⟨oc, eC, hC⟩ := o_fX9_on h.1 
  obtain ⟨om, eM, hM⟩ := t_fX10_on h.2.1
  exact ⟨oc, om, eC, eM, IV_on h hC.1 hM.1 hC.2.1 hM.2.1 hC.2.2.2.2 hM.2.2.2.2⟩
end PT9
