/-! comes through, c 8 -/
set_option maxRecDepth 20000 in
set_option maxHeartbeats 2000000 in
theorem o_fX7_survey {σ : gS} (hIσ : JC σ)   : Ok (fX7_survey σ ) (fun out => JC out ∧ Fr fr_fX7_survey σ out) := by
  unfold fX7_survey
  have hfσ : Fr fr_fX7_survey σ σ := Fr_r
  have f1 : (1 : Int32).toInt = 1 := by decide
  refine ok_gd.mpr ⟨gb_of (by omega) (by omega), ?_⟩
  refine ok_nm2 (fun v1 ev1 => ?_)
  have f2 : 0 ≤ (σ.1 3 1).toInt ∧ (σ.1 3 1).toInt ≤ 12 := hIσ 3 1
  have qv1 : v1.toInt = (σ.1 3 1).toInt := congrArg Int32.toInt ev1
  refine ok_nm.mpr ?_
  refine ok_nm2 (fun x3_1 ex3_1 => ?_)
  have f3 : (0 : Int32).toInt = 0 := by decide
  have qx3_1 : x3_1.toInt = 0 := by rw [ex3_1]; decide
  refine ok_lpc (I := fun n s => n = (12 + 1 - s.1.toInt).toNat ∧ JC s.2 ∧ Fr fr_fX7_survey σ s.2 ∧ 0 ≤ s.1.toInt ∧ s.1.toInt ≤ 12) (fun rec12_2r n_2 s_2 hs_2 hrec_2 => ?_) K9 ((12 + 1 - x3_1.toInt).toNat) (x3_1, σ) ⟨rfl, hIσ, hfσ, (show 0 ≤ x3_1.toInt by omega), (show x3_1.toInt ≤ 12 by omega)⟩ (by unfold K9; omega)
  obtain ⟨a2_2, σ1_2⟩ := s_2
  obtain ⟨hn_2, hIσ1_2, hfσ1_2, b0a2_2, b1a2_2⟩ := hs_2
  dsimp only at hn_2 hIσ1_2 hfσ1_2 b0a2_2 b1a2_2
  unfold bX7_survey_12
  try dsimp only
  refine ok_ite.mpr ⟨fun h_4 => ?_, fun h_4 => ?_⟩
  · have g5 : v1.toInt ≤ a2_2.toInt := Int32.le_iff_toInt_le.mp h_4
    refine ok_nm2 (fun x5_21 ex5_21 => ?_)
    have qx5_21 : x5_21.toInt = 0 := by rw [ex5_21]; decide
    refine ok_lpc (I := fun n s => n = (60 + 1 - s.1.toInt).toNat ∧ JC s.2 ∧ Fr fr_fX7_survey σ s.2 ∧ 0 ≤ s.1.toInt ∧ s.1.toInt ≤ 60) (fun rec35_22r n_22 s_22 hs_22 hrec_22 => ?_) K9 ((60 + 1 - x5_21.toInt).toNat) (x5_21, σ1_2) ⟨rfl, hIσ1_2, hfσ1_2, (show 0 ≤ x5_21.toInt by omega), (show x5_21.toInt ≤ 60 by omega)⟩ (by unfold K9; omega)
    obtain ⟨a2_22, σ1_22⟩ := s_22
    obtain ⟨hn_22, hIσ1_22, hfσ1_22, b0a2_22, b1a2_22⟩ := hs_22
    dsimp only at hn_22 hIσ1_22 hfσ1_22 b0a2_22 b1a2_22
    unfold bX7_survey_35
    try dsimp only
    have f6 : (3 : Int32).toInt = 3 := by decide
    refine ok_gd.mpr ⟨gb_of (by omega) (by omega), ?_⟩
    refine ok_nm2 (fun v6_41 ev6_41 => ?_)
    have f7 : 0 ≤ (σ1_22.1 3 3).toInt ∧ (σ1_22.1 3 3).toInt ≤ 60 := hIσ1_22 3 3
    have qv6_41 : v6_41.toInt = (σ1_22.1 3 3).toInt := congrArg Int32.toInt ev6_41
    refine ok_ite.mpr ⟨fun h_8 => ?_, fun h_8 => ?_⟩
    · have g9 : v6_41.toInt ≤ a2_22.toInt := Int32.le_iff_toInt_le.mp h_8
      refine ok_nm2 (fun x8_41 ex8_41 => ?_)
      have qx8_41 : x8_41.toInt = 0 := by rw [ex8_41]; decide
      refine ok_lpc (I := fun n s => n = (12 + 1 - s.1.toInt).toNat ∧ JC s.2 ∧ Fr fr_fX7_survey σ s.2 ∧ 0 ≤ s.1.toInt ∧ s.1.toInt ≤ 12) (fun rec92_42r n_42 s_42 hs_42 hrec_42 => ?_) K9 ((12 + 1 - x8_41.toInt).toNat) (x8_41, σ1_22) ⟨rfl, hIσ1_22, hfσ1_22, (show 0 ≤ x8_41.toInt by omega), (show x8_41.toInt ≤ 12 by omega)⟩ (by unfold K9; omega)
      obtain ⟨a2_42, σ1_42⟩ := s_42
      obtain ⟨hn_42, hIσ1_42, hfσ1_42, b0a2_42, b1a2_42⟩ := hs_42
      dsimp only at hn_42 hIσ1_42 hfσ1_42 b0a2_42 b1a2_42
      unfold bX7_survey_92
      try dsimp only
      refine ok_ite.mpr ⟨fun h_10 => ?_, fun h_10 => ?_⟩
      · have g11 : v1.toInt ≤ a2_42.toInt := Int32.le_iff_toInt_le.mp h_10
        refine ok_some.mpr ?_
        exact ⟨hIσ1_42, hfσ1_42⟩
      · have g12 : ¬ v1.toInt ≤ a2_42.toInt := fun z => h_10 (Int32.le_iff_toInt_le.mpr z)
        refine ok_nm2 (fun x10_43 ex10_43 => ?_)
        have qx10_43 : x10_43.toInt = 0 := by rw [ex10_43]; decide
        refine ok_lpc (I := fun n s => n = (12 + 1 - s.1.toInt).toNat ∧ JC s.2 ∧ Fr fr_fX7_survey σ s.2 ∧ 0 ≤ s.1.toInt ∧ s.1.toInt ≤ 12) (fun rec99_46r n_46 s_46 hs_46 hrec_46 => ?_) K9 ((12 + 1 - x10_43.toInt).toNat) (x10_43, σ1_42) ⟨rfl, hIσ1_42, hfσ1_42, (show 0 ≤ x10_43.toInt by omega), (show x10_43.toInt ≤ 12 by omega)⟩ (by unfold K9; omega)
        obtain ⟨a3_46, σ1_46⟩ := s_46
        obtain ⟨hn_46, hIσ1_46, hfσ1_46, b0a3_46, b1a3_46⟩ := hs_46
        dsimp only at hn_46 hIσ1_46 hfσ1_46 b0a3_46 b1a3_46
        unfold bX7_survey_99
        try dsimp only
        refine ok_ite.mpr ⟨fun h_13 => ?_, fun h_13 => ?_⟩
        · have g14 : v1.toInt ≤ a3_46.toInt := Int32.le_iff_toInt_le.mp h_13
          refine ok_nm2 (fun x12_47 ex12_47 => ?_)
          have f15 : (a2_42 + (1 : Int32)).toInt = a2_42.toInt + (1 : Int32).toInt := iadd_toInt (by omega) (by omega)
          have qx12_47 : x12_47.toInt = (a2_42 + 1).toInt := congrArg Int32.toInt ex12_47
          exact hrec_42 _ (x12_47, σ1_46) (show (12 + 1 - x12_47.toInt).toNat < n_42 by omega) ⟨rfl, hIσ1_46, hfσ1_46, (show 0 ≤ x12_47.toInt by omega), (show x12_47.toInt ≤ 12 by omega)⟩
        · have g16 : ¬ v1.toInt ≤ a3_46.toInt := fun z => h_13 (Int32.le_iff_toInt_le.mpr z)
          refine ok_ite.mpr ⟨fun h_17 => ?_, fun h_17 => ?_⟩
          · have g18 : a2_42.toInt = a3_46.toInt := by rw [h_17]
            refine ok_nm2 (fun x14_47 ex14_47 => ?_)
            have f19 : (a3_46 + (1 : Int32)).toInt = a3_46.toInt + (1 : Int32).toInt := iadd_toInt (by omega) (by omega)
            have qx14_47 : x14_47.toInt = (a3_46 + 1).toInt := congrArg Int32.toInt ex14_47
            exact hrec_46 _ (x14_47, σ1_46) (show (12 + 1 - x14_47.toInt).toNat < n_46 by omega) ⟨rfl, hIσ1_46, hfσ1_46, (show 0 ≤ x14_47.toInt by omega), (show x14_47.toInt ≤ 12 by omega)⟩
          · have g20 : a2_42.toInt ≠ a3_46.toInt := fun z => h_17 (Int32.toInt_inj.mp z)
            refine ok_bd.mpr ((o_fX7_surveyTie hIσ1_46 (p1 := a2_42) (p2 := a3_46) (by omega) (by omega) (by omega) (by omega)).mono (fun σ16_47 ho_22 => ?_))
            obtain ⟨hIσ16_47, hcσ16_47⟩ := ho_22
            have hfσ16_47 : Fr fr_fX7_survey σ σ16_47 := Fr_c hfσ1_46 hcσ16_47 (by decide)
            refine ok_nm2 (fun x17_47 ex17_47 => ?_)
            have f23 : (a3_46 + (1 : Int32)).toInt = a3_46.toInt + (1 : Int32).toInt := iadd_toInt (by omega) (by omega)
            have qx17_47 : x17_47.toInt = (a3_46 + 1).toInt := congrArg Int32.toInt ex17_47
            exact hrec_46 _ (x17_47, σ16_47) (show (12 + 1 - x17_47.toInt).toNat < n_46 by omega) ⟨rfl, hIσ16_47, hfσ16_47, (show 0 ≤ x17_47.toInt by omega), (show x17_47.toInt ≤ 12 by omega)⟩
    · have g24 : ¬ v6_41.toInt ≤ a2_22.toInt := fun z => h_8 (Int32.le_iff_toInt_le.mpr z)
      refine ok_bd.mpr ?_
      try unfold fX5_uses_47
      refine ok_gd.mpr ⟨gb_of (by omega) (by omega), ?_⟩
      refine ok_nm2 (fun v1_48 ev1_48 => ?_)
      have qv1_48 : v1_48.toInt = (σ1_22.1 58 a2_22.toNatClampNeg).toInt := congrArg Int32.toInt ev1_48
      refine ok_ite.mpr ⟨fun h_25 => ?_, fun h_25 => ?_⟩
      · have g26 : v1_48.toInt = (0 : Int32).toInt := by rw [h_25]
        refine ok_some.mpr ?_
        refine ok_ite.mpr ⟨fun h_27 => ?_, fun h_27 => ?_⟩
        · have g28 : (1 : Int32).toInt = (0 : Int32).toInt := by rw [h_27]
          exfalso
          omega
        · have g29 : (1 : Int32).toInt ≠ (0 : Int32).toInt := fun z => h_27 (Int32.toInt_inj.mp z)
          refine ok_gd.mpr ⟨gb_of (by omega) (by omega), ?_⟩
          refine ok_nm2 (fun v22_41_49 ev22_41_49 => ?_)
          have f30 : 0 ≤ (σ1_22.1 10 a2_22.toNatClampNeg).toInt ∧ (σ1_22.1 10 a2_22.toNatClampNeg).toInt ≤ 11 := hIσ1_22 10 _
          have qv22_41_49 : v22_41_49.toInt = (σ1_22.1 10 a2_22.toNatClampNeg).toInt := congrArg Int32.toInt ev22_41_49
          refine ok_gd.mpr ⟨gb_of (by omega) (by omega), ?_⟩
          refine ok_gd.mpr ⟨gb_of (by omega) (by omega), ?_⟩
          refine ok_nm2 (fun v24_41_49 ev24_41_49 => ?_)
          have f31 : 0 ≤ (σ1_22.1 11 a2_22.toNatClampNeg).toInt ∧ (σ1_22.1 11 a2_22.toNatClampNeg).toInt ≤ 19 := hIσ1_22 11 _
          have qv24_41_49 : v24_41_49.toInt = (σ1_22.1 11 a2_22.toNatClampNeg).toInt := congrArg Int32.toInt ev24_41_49
          refine ok_gd.mpr ⟨gb_of (by omega) (by omega), ?_⟩
          refine ok_nm2 (fun σ25_41_49 eσ25_41_49 => ?_)
          have f32 : v22_41_49.toNatClampNeg = v22_41_49.toInt.toNat := rfl
          have hIσ25_41_49 : JC σ25_41_49 := by rw [eσ25_41_49]; exact JC_w142 hIσ1_22 (by omega) (by omega) (by omega) (by omega)
          have hfσ25_41_49 : Fr fr_fX7_survey σ σ25_41_49 := by
            have hj : (142 + v22_41_49.toNatClampNeg) = 142 ∨ (142 + v22_41_49.toNatClampNeg) = 143 ∨ (142 + v22_41_49.toNatClampNeg) = 144 ∨ (142 + v22_41_49.toNatClampNeg) = 145 ∨ (142 + v22_41_49.toNatClampNeg) = 146 ∨ (142 + v22_41_49.toNatClampNeg) = 147 ∨ (142 + v22_41_49.toNatClampNeg) = 148 ∨ (142 + v22_41_49.toNatClampNeg) = 149 ∨ (142 + v22_41_49.toNatClampNeg) = 150 ∨ (142 + v22_41_49.toNatClampNeg) = 151 ∨ (142 + v22_41_49.toNatClampNeg) = 152 ∨ (142 + v22_41_49.toNatClampNeg) = 153 := by omega
            rw [eσ25_41_49]; exact Fr_w0 hfσ1_22 (by rcases hj with hj | hj | hj | hj | hj | hj | hj | hj | hj | hj | hj | hj <;> rw [hj] <;> decide)
          refine ok_nm2 (fun x26_41_49 ex26_41_49 => ?_)
          have f33 : (a2_22 + (1 : Int32)).toInt = a2_22.toInt + (1 : Int32).toInt := iadd_toInt (by omega) (by omega)
          have qx26_41_49 : x26_41_49.toInt = (a2_22 + 1).toInt := congrArg Int32.toInt ex26_41_49
          exact hrec_22 _ (x26_41_49, σ25_41_49) (show (60 + 1 - x26_41_49.toInt).toNat < n_22 by omega) ⟨rfl, hIσ25_41_49, hfσ25_41_49, (show 0 ≤ x26_41_49.toInt by omega), (show x26_41_49.toInt ≤ 60 by omega)⟩
      · have g34 : v1_48.toInt ≠ (0 : Int32).toInt := fun z => h_25 (Int32.toInt_inj.mp z)
        refine ok_some.mpr ?_
        refine ok_ite.mpr ⟨fun h_35 => ?_, fun h_35 => ?_⟩
        · have g36 : (0 : Int32).toInt = (0 : Int32).toInt := by rw [h_35]
          refine ok_nm2 (fun x21_41_50 ex21_41_50 => ?_)
          have f37 : (a2_22 + (1 : Int32)).toInt = a2_22.toInt + (1 : Int32).toInt := iadd_toInt (by omega) (by omega)
          have qx21_41_50 : x21_41_50.toInt = (a2_22 + 1).toInt := congrArg Int32.toInt ex21_41_50
          exact hrec_22 _ (x21_41_50, σ1_22) (show (60 + 1 - x21_41_50.toInt).toNat < n_22 by omega) ⟨rfl, hIσ1_22, hfσ1_22, (show 0 ≤ x21_41_50.toInt by omega), (show x21_41_50.toInt ≤ 60 by omega)⟩
        · have g38 : (0 : Int32).toInt ≠ (0 : Int32).toInt := fun z => h_35 (Int32.toInt_inj.mp z)
          exfalso
          omega
  · have g39 : ¬ v1.toInt ≤ a2_2.toInt := fun z => h_4 (Int32.le_iff_toInt_le.mpr z)
    refine ok_gd.mpr ⟨gb_of (by omega) (by omega), ?_⟩
    have f40 : a2_2.toNatClampNeg = a2_2.toInt.toNat := rfl
    refine ok_bd.mpr ((o_fill (c := (142 + a2_2.toNatClampNeg)) (v := (-1 : Int32)) hIσ1_2 (by (have hj : (142 + a2_2.toNatClampNeg) = 142 ∨ (142 + a2_2.toNatClampNeg) = 143 ∨ (142 + a2_2.toNatClampNeg) = 144 ∨ (142 + a2_2.toNatClampNeg) = 145 ∨ (142 + a2_2.toNatClampNeg) = 146 ∨ (142 + a2_2.toNatClampNeg) = 147 ∨ (142 + a2_2.toNatClampNeg) = 148 ∨ (142 + a2_2.toNatClampNeg) = 149 ∨ (142 + a2_2.toNatClampNeg) = 150 ∨ (142 + a2_2.toNatClampNeg) = 151 ∨ (142 + a2_2.toNatClampNeg) = 152 ∨ (142 + a2_2.toNatClampNeg) = 153 := by omega); rcases hj with hj | hj | hj | hj | hj | hj | hj | hj | hj | hj | hj | hj <;> rw [hj] <;> decide) (fun i => by (have hj : (142 + a2_2.toNatClampNeg) = 142 ∨ (142 + a2_2.toNatClampNeg) = 143 ∨ (142 + a2_2.toNatClampNeg) = 144 ∨ (142 + a2_2.toNatClampNeg) = 145 ∨ (142 + a2_2.toNatClampNeg) = 146 ∨ (142 + a2_2.toNatClampNeg) = 147 ∨ (142 + a2_2.toNatClampNeg) = 148 ∨ (142 + a2_2.toNatClampNeg) = 149 ∨ (142 + a2_2.toNatClampNeg) = 150 ∨ (142 + a2_2.toNatClampNeg) = 151 ∨ (142 + a2_2.toNatClampNeg) = 152 ∨ (142 + a2_2.toNatClampNeg) = 153 := by omega); rcases hj with hj | hj | hj | hj | hj | hj | hj | hj | hj | hj | hj | hj <;> rw [hj] <;> exact ⟨show -1 ≤ (-1 : Int32).toInt by decide, show (-1 : Int32).toInt ≤ 59 by decide⟩)).mono (fun σ29_21 ho_41 => ?_))
    obtain ⟨hIσ29_21, hcσ29_21, hvσ29_21⟩ := ho_41
    have hfσ29_21 : Fr fr_fX7_survey σ σ29_21 := by
      have hj : (142 + a2_2.toNatClampNeg) = 142 ∨ (142 + a2_2.toNatClampNeg) = 143 ∨ (142 + a2_2.toNatClampNeg) = 144 ∨ (142 + a2_2.toNatClampNeg) = 145 ∨ (142 + a2_2.toNatClampNeg) = 146 ∨ (142 + a2_2.toNatClampNeg) = 147 ∨ (142 + a2_2.toNatClampNeg) = 148 ∨ (142 + a2_2.toNatClampNeg) = 149 ∨ (142 + a2_2.toNatClampNeg) = 150 ∨ (142 + a2_2.toNatClampNeg) = 151 ∨ (142 + a2_2.toNatClampNeg) = 152 ∨ (142 + a2_2.toNatClampNeg) = 153 := by omega
      exact Fr_c hfσ1_2 hcσ29_21 (by rcases hj with hj | hj | hj | hj | hj | hj | hj | hj | hj | hj | hj | hj <;> rw [hj] <;> decide)
    refine ok_nm2 (fun x30_21 ex30_21 => ?_)
    have f42 : (a2_2 + (1 : Int32)).toInt = a2_2.toInt + (1 : Int32).toInt := iadd_toInt (by omega) (by omega)
    have qx30_21 : x30_21.toInt = (a2_2 + 1).toInt := congrArg Int32.toInt ex30_21
    exact hrec_2 _ (x30_21, σ29_21) (show (12 + 1 - x30_21.toInt).toNat < n_2 by omega) ⟨rfl, hIσ29_21, hfσ29_21, (show 0 ≤ x30_21.toInt by omega), (show x30_21.toInt ≤ 12 by omega)⟩
set_option maxRecDepth 20000 in
set_option maxHeartbeats 2000000 in
theorem o_fX7_stepOf {σ : gS} (hIσ : JC σ) {p1 : Int32} {p2 : Int32} {p3 : Int32} (h0p1 : 0 ≤ p1.toInt) (h1p1 : p1.toInt ≤ 11) (h0p2 : 0 ≤ p2.toInt) (h1p2 : p2.toInt ≤ 11) : Ok (fX7_stepOf σ p1 p2 p3) (fun _ => True) := by
  unfold fX7_stepOf
  refine ok_ite.mpr ⟨fun h_1 => ?_, fun h_1 => ?_⟩
  · have f2 : (0 : Int32).toInt = 0 := by decide
    have g3 : p3.toInt = (0 : Int32).toInt := by rw [h_1]
    refine ok_gd.mpr ⟨gb_of (by omega) (by omega), ?_⟩
    refine ok_gd.mpr ⟨gb_of (by omega) (by omega), ?_⟩
    refine ok_nm2 (fun v5 ev5 => ?_)
    have qv5 : v5.toInt = (σ.1 (168 + p1.toNatClampNeg) p2.toNatClampNeg).toInt := congrArg Int32.toInt ev5
    refine ok_some.mpr ?_
    exact trivial
  · have f4 : (0 : Int32).toInt = 0 := by decide
    have g5 : p3.toInt ≠ (0 : Int32).toInt := fun z => h_1 (Int32.toInt_inj.mp z)
    refine ok_gd.mpr ⟨gb_of (by omega) (by omega), ?_⟩
    refine ok_gd.mpr ⟨gb_of (by omega) (by omega), ?_⟩
    refine ok_nm2 (fun v3 ev3 => ?_)
    have qv3 : v3.toInt = (σ.1 (181 + p1.toNatClampNeg) p2.toNatClampNeg).toInt := congrArg Int32.toInt ev3
    refine ok_some.mpr ?_
    exact trivial
set_option maxRecDepth 20000 in
set_option maxHeartbeats 2000000 in
theorem o_fX9_tie {σ : gS} (hIσ : JC σ) {p1 : Int32} {p2 : Int32} {p3 : Int32}  : Ok (fX9_tie σ p1 p2 p3) (fun out => JC out.2 ∧ Fr fr_fX9_tie σ out.2) := by
  unfold fX9_tie
  have hfσ : Fr fr_fX9_tie σ σ := Fr_r
  refine ok_bd.mpr ((o_fX9_areUnlike hIσ (p1 := p1) (p2 := p2) ).mono (fun r2 ho_2 => ?_))
  obtain ⟨r0r2, r1r2, hp_3⟩ := ho_2
  refine ok_ite.mpr ⟨fun h_4 => ?_, fun h_4 => ?_⟩
  · have f5 : (0 : Int32).toInt = 0 := by decide
    have g6 : r2.toInt = (0 : Int32).toInt := by rw [h_4]
    refine ok_some.mpr ?_
    have f7 : (-1000000000 : Int32).toInt = -1000000000 := by decide
    exact ⟨hIσ, hfσ⟩
  · have f8 : (0 : Int32).toInt = 0 := by decide
    have g9 : r2.toInt ≠ (0 : Int32).toInt := fun z => h_4 (Int32.toInt_inj.mp z)
    refine ok_ite.mpr ⟨fun h_10 => ?_, fun h_10 => ?_⟩
    · have g11 : p3.toInt < (0 : Int32).toInt := Int32.lt_iff_toInt_lt.mp h_10
      refine ok_some.mpr ?_
      have f12 : (-1000000000 : Int32).toInt = -1000000000 := by decide
      exact ⟨hIσ, hfσ⟩
    · have g13 : ¬ p3.toInt < (0 : Int32).toInt := fun z => h_10 (Int32.lt_iff_toInt_lt.mpr z)
      refine ok_ite.mpr ⟨fun h_14 => ?_, fun h_14 => ?_⟩
      · have f15 : (2 : Int32).toInt = 2 := by decide
        have g16 : p3.toInt ≤ (2 : Int32).toInt := Int32.le_iff_toInt_le.mp h_14
        refine ok_bd.mpr ((o_fX7_survey hIσ  ).mono (fun σ7 ho_18 => ?_))
        obtain ⟨hIσ7, hcσ7⟩ := ho_18
        have hfσ7 : Fr fr_fX9_tie σ σ7 := Fr_c hfσ hcσ7 (by decide)
        refine ok_ite.mpr ⟨fun h_19 => ?_, fun h_19 => ?_⟩
        · have g20 : p3.toInt = (0 : Int32).toInt := by rw [h_19]
          refine ok_gd.mpr ⟨gb_of (by omega) (by omega), ?_⟩
          refine ok_gd.mpr ⟨gb_of (by omega) (by omega), ?_⟩
          refine ok_nm2 (fun v15 ev15 => ?_)
          have qv15 : v15.toInt = (σ7.1 (155 + p1.toNatClampNeg) p2.toNatClampNeg).toInt := congrArg Int32.toInt ev15
          refine ok_some.mpr ?_
          exact ⟨hIσ7, hfσ7⟩
        · have g21 : p3.toInt ≠ (0 : Int32).toInt := fun z => h_19 (Int32.toInt_inj.mp z)
          refine ok_gd.mpr ⟨gb_of (by omega) (by omega), ?_⟩
          refine ok_gd.mpr ⟨gb_of (by omega) (by omega), ?_⟩
          refine ok_nm2 (fun v10 ev10 => ?_)
          have qv10 : v10.toInt = (σ7.1 (155 + p1.toNatClampNeg) p2.toNatClampNeg).toInt := congrArg Int32.toInt ev10
          refine ok_ite.mpr ⟨fun h_22 => ?_, fun h_22 => ?_⟩
          · have g23 : v10.toInt = (0 : Int32).toInt := by rw [h_22]
            refine ok_some.mpr ?_
            have f24 : (-1000000000 : Int32).toInt = -1000000000 := by decide
            exact ⟨hIσ7, hfσ7⟩
          · have g25 : v10.toInt ≠ (0 : Int32).toInt := fun z => h_22 (Int32.toInt_inj.mp z)
            refine ok_bd.mpr ?_
            try unfold fX7_stepOf
            refine ok_ite.mpr ⟨fun h_26 => ?_, fun h_26 => ?_⟩
            · have f27 : (1 : Int32).toInt = 1 := by decide
              have f28 : (p3 - (1 : Int32)).toInt = p3.toInt - (1 : Int32).toInt := isub_toInt (by omega) (by omega)
              have g29 : (p3 - 1).toInt = (0 : Int32).toInt := by rw [h_26]
              refine ok_gd.mpr ⟨gb_of (by omega) (by omega), ?_⟩
              refine ok_gd.mpr ⟨gb_of (by omega) (by omega), ?_⟩
              refine ok_nm2 (fun v5_1 ev5_1 => ?_)
              have qv5_1 : v5_1.toInt = (σ7.1 (168 + p1.toNatClampNeg) p2.toNatClampNeg).toInt := congrArg Int32.toInt ev5_1
              refine ok_some.mpr ?_
              refine ok_some.mpr ?_
              exact ⟨hIσ7, hfσ7⟩
            · have f30 : (1 : Int32).toInt = 1 := by decide
              have f31 : (p3 - (1 : Int32)).toInt = p3.toInt - (1 : Int32).toInt := isub_toInt (by omega) (by omega)
              have g32 : (p3 - 1).toInt ≠ (0 : Int32).toInt := fun z => h_26 (Int32.toInt_inj.mp z)
              refine ok_gd.mpr ⟨gb_of (by omega) (by omega), ?_⟩
              refine ok_gd.mpr ⟨gb_of (by omega) (by omega), ?_⟩
              refine ok_nm2 (fun v3_1 ev3_1 => ?_)
              have qv3_1 : v3_1.toInt = (σ7.1 (181 + p1.toNatClampNeg) p2.toNatClampNeg).toInt := congrArg Int32.toInt ev3_1
              refine ok_some.mpr ?_
              refine ok_some.mpr ?_
              exact ⟨hIσ7, hfσ7⟩
      · have f33 : (2 : Int32).toInt = 2 := by decide
        have g34 : ¬ p3.toInt ≤ (2 : Int32).toInt := fun z => h_14 (Int32.le_iff_toInt_le.mpr z)
        refine ok_some.mpr ?_
        have f35 : (-1000000000 : Int32).toInt = -1000000000 := by decide
        exact ⟨hIσ, hfσ⟩
set_option maxRecDepth 20000 in
set_option maxHeartbeats 2000000 in
theorem o_fX7_isLoop {σ : gS} (hIσ : JC σ) {p1 : Int32} {p2 : Int32} {p3 : Int32} (h0p1 : 0 ≤ p1.toInt) (h1p1 : p1.toInt ≤ 11) (h0p2 : 0 ≤ p2.toInt) (h1p2 : p2.toInt ≤ 11) (h0p3 : 0 ≤ p3.toInt) (h1p3 : p3.toInt ≤ 11) : Ok (fX7_isLoop σ p1 p2 p3) (fun out => 0 ≤ out.toInt ∧ out.toInt ≤ 1) := by
  unfold fX7_isLoop
  refine ok_gd.mpr ⟨gb_of (by omega) (by omega), ?_⟩
  refine ok_gd.mpr ⟨gb_of (by omega) (by omega), ?_⟩
  refine ok_nm2 (fun v2 ev2 => ?_)
  have qv2 : v2.toInt = (σ.1 (155 + p1.toNatClampNeg) p2.toNatClampNeg).toInt := congrArg Int32.toInt ev2
  refine ok_ite.mpr ⟨fun h_1 => ?_, fun h_1 => ?_⟩
  · have f2 : (0 : Int32).toInt = 0 := by decide
    have g3 : v2.toInt ≤ (0 : Int32).toInt := Int32.le_iff_toInt_le.mp h_1
    refine ok_some.mpr ?_
    exact ⟨(show 0 ≤ (0 : Int32).toInt by omega), (show (0 : Int32).toInt ≤ 1 by omega)⟩
  · have f4 : (0 : Int32).toInt = 0 := by decide
    have g5 : ¬ v2.toInt ≤ (0 : Int32).toInt := fun z => h_1 (Int32.le_iff_toInt_le.mpr z)
    refine ok_gd.mpr ⟨gb_of (by omega) (by omega), ?_⟩
    refine ok_gd.mpr ⟨gb_of (by omega) (by omega), ?_⟩
    refine ok_nm2 (fun v5 ev5 => ?_)
    have qv5 : v5.toInt = (σ.1 (155 + p2.toNatClampNeg) p3.toNatClampNeg).toInt := congrArg Int32.toInt ev5
    refine ok_ite.mpr ⟨fun h_6 => ?_, fun h_6 => ?_⟩
    · have g7 : v5.toInt ≤ (0 : Int32).toInt := Int32.le_iff_toInt_le.mp h_6
      refine ok_some.mpr ?_
      exact ⟨(show 0 ≤ (0 : Int32).toInt by omega), (show (0 : Int32).toInt ≤ 1 by omega)⟩
    · have g8 : ¬ v5.toInt ≤ (0 : Int32).toInt := fun z => h_6 (Int32.le_iff_toInt_le.mpr z)
      refine ok_gd.mpr ⟨gb_of (by omega) (by omega), ?_⟩
      refine ok_gd.mpr ⟨gb_of (by omega) (by omega), ?_⟩
      refine ok_nm2 (fun v8 ev8 => ?_)
      have qv8 : v8.toInt = (σ.1 (155 + p3.toNatClampNeg) p1.toNatClampNeg).toInt := congrArg Int32.toInt ev8
      refine ok_ite.mpr ⟨fun h_9 => ?_, fun h_9 => ?_⟩
      · have g10 : v8.toInt ≤ (0 : Int32).toInt := Int32.le_iff_toInt_le.mp h_9
        refine ok_some.mpr ?_
        exact ⟨(show 0 ≤ (0 : Int32).toInt by omega), (show (0 : Int32).toInt ≤ 1 by omega)⟩
      · have g11 : ¬ v8.toInt ≤ (0 : Int32).toInt := fun z => h_9 (Int32.le_iff_toInt_le.mpr z)
        refine ok_some.mpr ?_
        have f12 : (1 : Int32).toInt = 1 := by decide
        exact ⟨(show 0 ≤ (1 : Int32).toInt by omega), (show (1 : Int32).toInt ≤ 1 by omega)⟩
set_option maxRecDepth 20000 in
set_option maxHeartbeats 2000000 in
theorem o_fX7_loopOf {σ : gS} (hIσ : JC σ) {p1 : Int32} {p2 : Int32} {p3 : Int32} {p4 : Int32} (h0p1 : 0 ≤ p1.toInt) (h1p1 : p1.toInt ≤ 11) (h0p2 : 0 ≤ p2.toInt) (h1p2 : p2.toInt ≤ 11) (h0p3 : 0 ≤ p3.toInt) (h1p3 : p3.toInt ≤ 11) : Ok (fX7_loopOf σ p1 p2 p3 p4) (fun _ => True) := by
  unfold fX7_loopOf
  refine ok_bd.mpr ?_
  try unfold fX7_stepOf
  refine ok_ite.mpr ⟨fun h_1 => ?_, fun h_1 => ?_⟩
  · have f2 : (0 : Int32).toInt = 0 := by decide
    have g3 : p4.toInt = (0 : Int32).toInt := by rw [h_1]
    refine ok_gd.mpr ⟨gb_of (by omega) (by omega), ?_⟩
    refine ok_gd.mpr ⟨gb_of (by omega) (by omega), ?_⟩
    refine ok_nm2 (fun v5_1 ev5_1 => ?_)
    have qv5_1 : v5_1.toInt = (σ.1 (168 + p1.toNatClampNeg) p2.toNatClampNeg).toInt := congrArg Int32.toInt ev5_1
    refine ok_some.mpr ?_
    refine ok_bd.mpr ?_
    try unfold fX7_stepOf
    refine ok_ite.mpr ⟨fun h_4 => ?_, fun h_4 => ?_⟩
    · have g5 : p4.toInt = (0 : Int32).toInt := by rw [h_4]
      refine ok_gd.mpr ⟨gb_of (by omega) (by omega), ?_⟩
      refine ok_gd.mpr ⟨gb_of (by omega) (by omega), ?_⟩
      refine ok_nm2 (fun v5_3 ev5_3 => ?_)
      have qv5_3 : v5_3.toInt = (σ.1 (168 + p2.toNatClampNeg) p3.toNatClampNeg).toInt := congrArg Int32.toInt ev5_3
      refine ok_some.mpr ?_
      refine ok_bd.mpr ?_
      try unfold fX7_stepOf
      refine ok_ite.mpr ⟨fun h_6 => ?_, fun h_6 => ?_⟩
      · have g7 : p4.toInt = (0 : Int32).toInt := by rw [h_6]
        refine ok_gd.mpr ⟨gb_of (by omega) (by omega), ?_⟩
        refine ok_gd.mpr ⟨gb_of (by omega) (by omega), ?_⟩
        refine ok_nm2 (fun v5_5 ev5_5 => ?_)
        have qv5_5 : v5_5.toInt = (σ.1 (168 + p3.toNatClampNeg) p1.toNatClampNeg).toInt := congrArg Int32.toInt ev5_5
        refine ok_some.mpr ?_
        refine ok_some.mpr ?_
        exact trivial
      · have g8 : p4.toInt ≠ (0 : Int32).toInt := fun z => h_6 (Int32.toInt_inj.mp z)
        exfalso
        omega
    · have g9 : p4.toInt ≠ (0 : Int32).toInt := fun z => h_4 (Int32.toInt_inj.mp z)
      exfalso
      omega
  · have f10 : (0 : Int32).toInt = 0 := by decide
    have g11 : p4.toInt ≠ (0 : Int32).toInt := fun z => h_1 (Int32.toInt_inj.mp z)
    refine ok_gd.mpr ⟨gb_of (by omega) (by omega), ?_⟩
    refine ok_gd.mpr ⟨gb_of (by omega) (by omega), ?_⟩
    refine ok_nm2 (fun v3_1 ev3_1 => ?_)
    have qv3_1 : v3_1.toInt = (σ.1 (181 + p1.toNatClampNeg) p2.toNatClampNeg).toInt := congrArg Int32.toInt ev3_1
    refine ok_some.mpr ?_
    refine ok_bd.mpr ?_
    try unfold fX7_stepOf
    refine ok_ite.mpr ⟨fun h_12 => ?_, fun h_12 => ?_⟩
    · have g13 : p4.toInt = (0 : Int32).toInt := by rw [h_12]
      refine ok_gd.mpr ⟨gb_of (by omega) (by omega), ?_⟩
      refine ok_gd.mpr ⟨gb_of (by omega) (by omega), ?_⟩
      refine ok_nm2 (fun v5_8 ev5_8 => ?_)
      have qv5_8 : v5_8.toInt = (σ.1 (168 + p2.toNatClampNeg) p3.toNatClampNeg).toInt := congrArg Int32.toInt ev5_8
      refine ok_some.mpr ?_
      refine ok_bd.mpr ?_
      try unfold fX7_stepOf
      refine ok_ite.mpr ⟨fun h_14 => ?_, fun h_14 => ?_⟩
      · have g15 : p4.toInt = (0 : Int32).toInt := by rw [h_14]
        refine ok_gd.mpr ⟨gb_of (by omega) (by omega), ?_⟩
        refine ok_gd.mpr ⟨gb_of (by omega) (by omega), ?_⟩
        refine ok_nm2 (fun v5_10 ev5_10 => ?_)
        have qv5_10 : v5_10.toInt = (σ.1 (168 + p3.toNatClampNeg) p1.toNatClampNeg).toInt := congrArg Int32.toInt ev5_10
        refine ok_some.mpr ?_
        refine ok_some.mpr ?_
        exact trivial
      · have g16 : p4.toInt ≠ (0 : Int32).toInt := fun z => h_14 (Int32.toInt_inj.mp z)
        exfalso
        omega
    · have g17 : p4.toInt ≠ (0 : Int32).toInt := fun z => h_12 (Int32.toInt_inj.mp z)
      refine ok_gd.mpr ⟨gb_of (by omega) (by omega), ?_⟩
      refine ok_gd.mpr ⟨gb_of (by omega) (by omega), ?_⟩
      refine ok_nm2 (fun v3_8 ev3_8 => ?_)
      have qv3_8 : v3_8.toInt = (σ.1 (181 + p2.toNatClampNeg) p3.toNatClampNeg).toInt := congrArg Int32.toInt ev3_8
      refine ok_some.mpr ?_
      refine ok_bd.mpr ?_
      try unfold fX7_stepOf
      refine ok_ite.mpr ⟨fun h_18 => ?_, fun h_18 => ?_⟩
      · have g19 : p4.toInt = (0 : Int32).toInt := by rw [h_18]
        refine ok_gd.mpr ⟨gb_of (by omega) (by omega), ?_⟩
        refine ok_gd.mpr ⟨gb_of (by omega) (by omega), ?_⟩
        refine ok_nm2 (fun v5_13 ev5_13 => ?_)
        have qv5_13 : v5_13.toInt = (σ.1 (168 + p3.toNatClampNeg) p1.toNatClampNeg).toInt := congrArg Int32.toInt ev5_13
        refine ok_some.mpr ?_
        refine ok_some.mpr ?_
        exact trivial
      · have g20 : p4.toInt ≠ (0 : Int32).toInt := fun z => h_18 (Int32.toInt_inj.mp z)
        refine ok_gd.mpr ⟨gb_of (by omega) (by omega), ?_⟩
        refine ok_gd.mpr ⟨gb_of (by omega) (by omega), ?_⟩
        refine ok_nm2 (fun v3_13 ev3_13 => ?_)
        have qv3_13 : v3_13.toInt = (σ.1 (181 + p3.toNatClampNeg) p1.toNatClampNeg).toInt := congrArg Int32.toInt ev3_13
        refine ok_some.mpr ?_
        refine ok_some.mpr ?_
        exact trivial
set_option maxRecDepth 20000 in
set_option maxHeartbeats 2000000 in
theorem o_fX9_loop {σ : gS} (hIσ : JC σ) {p1 : Int32} {p2 : Int32} {p3 : Int32} {p4 : Int32}  : Ok (fX9_loop σ p1 p2 p3 p4) (fun out => JC out.2 ∧ Fr fr_fX9_loop σ out.2) := by
  unfold fX9_loop
  have hfσ : Fr fr_fX9_loop σ σ := Fr_r
  refine ok_bd.mpr ?_
  try unfold fX9_isAxis
  refine ok_ite.mpr ⟨fun h_1 => ?_, fun h_1 => ?_⟩
  · have f2 : (0 : Int32).toInt = 0 := by decide
    have g3 : p4.toInt = (0 : Int32).toInt := by rw [h_1]
    refine ok_some.mpr ?_
    refine ok_ite.mpr ⟨fun h_4 => ?_, fun h_4 => ?_⟩
    · have f5 : (1 : Int32).toInt = 1 := by decide
      have g6 : (1 : Int32).toInt = (0 : Int32).toInt := by rw [h_4]
      exfalso
      omega
    · have f7 : (1 : Int32).toInt = 1 := by decide
      have g8 : (1 : Int32).toInt ≠ (0 : Int32).toInt := fun z => h_4 (Int32.toInt_inj.mp z)
      refine ok_bd.mpr ((o_fX9_areUnlike hIσ (p1 := p1) (p2 := p2) ).mono (fun r5_2 ho_10 => ?_))
      obtain ⟨r0r5_2, r1r5_2, hp_11⟩ := ho_10
      refine ok_ite.mpr ⟨fun h_12 => ?_, fun h_12 => ?_⟩
      · have g13 : r5_2.toInt = (0 : Int32).toInt := by rw [h_12]
        refine ok_some.mpr ?_
        have f14 : (-1000000000 : Int32).toInt = -1000000000 := by decide
        exact ⟨hIσ, hfσ⟩
      · have g15 : r5_2.toInt ≠ (0 : Int32).toInt := fun z => h_12 (Int32.toInt_inj.mp z)
        refine ok_bd.mpr ((o_fX9_areUnlike hIσ (p1 := p2) (p2 := p3) ).mono (fun r8_2 ho_17 => ?_))
        obtain ⟨r0r8_2, r1r8_2, hp_18⟩ := ho_17
        refine ok_ite.mpr ⟨fun h_19 => ?_, fun h_19 => ?_⟩
        · have g20 : r8_2.toInt = (0 : Int32).toInt := by rw [h_19]
          refine ok_some.mpr ?_
          have f21 : (-1000000000 : Int32).toInt = -1000000000 := by decide
          exact ⟨hIσ, hfσ⟩
        · have g22 : r8_2.toInt ≠ (0 : Int32).toInt := fun z => h_19 (Int32.toInt_inj.mp z)
          refine ok_bd.mpr ((o_fX9_areUnlike hIσ (p1 := p3) (p2 := p1) ).mono (fun r11_2 ho_24 => ?_))
          obtain ⟨r0r11_2, r1r11_2, hp_25⟩ := ho_24
          refine ok_ite.mpr ⟨fun h_26 => ?_, fun h_26 => ?_⟩
          · have g27 : r11_2.toInt = (0 : Int32).toInt := by rw [h_26]
            refine ok_some.mpr ?_
            have f28 : (-1000000000 : Int32).toInt = -1000000000 := by decide
            exact ⟨hIσ, hfσ⟩
          · have g29 : r11_2.toInt ≠ (0 : Int32).toInt := fun z => h_26 (Int32.toInt_inj.mp z)
            refine ok_bd.mpr ((o_fX7_survey hIσ  ).mono (fun σ14_2 ho_31 => ?_))
            obtain ⟨hIσ14_2, hcσ14_2⟩ := ho_31
            have hfσ14_2 : Fr fr_fX9_loop σ σ14_2 := Fr_c hfσ hcσ14_2 (by decide)
            refine ok_bd.mpr ?_
            try unfold fX7_isLoop
            refine ok_gd.mpr ⟨gb_of (by omega) (by omega), ?_⟩
            refine ok_gd.mpr ⟨gb_of (by omega) (by omega), ?_⟩
            refine ok_nm2 (fun v2_3 ev2_3 => ?_)
            have qv2_3 : v2_3.toInt = (σ14_2.1 (155 + p1.toNatClampNeg) p2.toNatClampNeg).toInt := congrArg Int32.toInt ev2_3
            refine ok_ite.mpr ⟨fun h_32 => ?_, fun h_32 => ?_⟩
            · have g33 : v2_3.toInt ≤ (0 : Int32).toInt := Int32.le_iff_toInt_le.mp h_32
              refine ok_some.mpr ?_
              refine ok_ite.mpr ⟨fun h_34 => ?_, fun h_34 => ?_⟩
              · have g35 : (0 : Int32).toInt = (0 : Int32).toInt := by rw [h_34]
                refine ok_some.mpr ?_
                have f36 : (-1000000000 : Int32).toInt = -1000000000 := by decide
                exact ⟨hIσ14_2, hfσ14_2⟩
              · have g37 : (0 : Int32).toInt ≠ (0 : Int32).toInt := fun z => h_34 (Int32.toInt_inj.mp z)
                exfalso
                omega
            · have g38 : ¬ v2_3.toInt ≤ (0 : Int32).toInt := fun z => h_32 (Int32.le_iff_toInt_le.mpr z)
              refine ok_gd.mpr ⟨gb_of (by omega) (by omega), ?_⟩
              refine ok_gd.mpr ⟨gb_of (by omega) (by omega), ?_⟩
              refine ok_nm2 (fun v5_3 ev5_3 => ?_)
              have qv5_3 : v5_3.toInt = (σ14_2.1 (155 + p2.toNatClampNeg) p3.toNatClampNeg).toInt := congrArg Int32.toInt ev5_3
              refine ok_ite.mpr ⟨fun h_39 => ?_, fun h_39 => ?_⟩
              · have g40 : v5_3.toInt ≤ (0 : Int32).toInt := Int32.le_iff_toInt_le.mp h_39
                refine ok_some.mpr ?_
                refine ok_ite.mpr ⟨fun h_41 => ?_, fun h_41 => ?_⟩
                · have g42 : (0 : Int32).toInt = (0 : Int32).toInt := by rw [h_41]
                  refine ok_some.mpr ?_
                  have f43 : (-1000000000 : Int32).toInt = -1000000000 := by decide
                  exact ⟨hIσ14_2, hfσ14_2⟩
                · have g44 : (0 : Int32).toInt ≠ (0 : Int32).toInt := fun z => h_41 (Int32.toInt_inj.mp z)
                  exfalso
                  omega
              · have g45 : ¬ v5_3.toInt ≤ (0 : Int32).toInt := fun z => h_39 (Int32.le_iff_toInt_le.mpr z)
                refine ok_gd.mpr ⟨gb_of (by omega) (by omega), ?_⟩
                refine ok_gd.mpr ⟨gb_of (by omega) (by omega), ?_⟩
                refine ok_nm2 (fun v8_3 ev8_3 => ?_)
                have qv8_3 : v8_3.toInt = (σ14_2.1 (155 + p3.toNatClampNeg) p1.toNatClampNeg).toInt := congrArg Int32.toInt ev8_3
                refine ok_ite.mpr ⟨fun h_46 => ?_, fun h_46 => ?_⟩
                · have g47 : v8_3.toInt ≤ (0 : Int32).toInt := Int32.le_iff_toInt_le.mp h_46
                  refine ok_some.mpr ?_
                  refine ok_ite.mpr ⟨fun h_48 => ?_, fun h_48 => ?_⟩
                  · have g49 : (0 : Int32).toInt = (0 : Int32).toInt := by rw [h_48]
                    refine ok_some.mpr ?_
                    have f50 : (-1000000000 : Int32).toInt = -1000000000 := by decide
                    exact ⟨hIσ14_2, hfσ14_2⟩
                  · have g51 : (0 : Int32).toInt ≠ (0 : Int32).toInt := fun z => h_48 (Int32.toInt_inj.mp z)
                    exfalso
                    omega
                · have g52 : ¬ v8_3.toInt ≤ (0 : Int32).toInt := fun z => h_46 (Int32.le_iff_toInt_le.mpr z)
                  refine ok_some.mpr ?_
                  refine ok_ite.mpr ⟨fun h_53 => ?_, fun h_53 => ?_⟩
                  · have g54 : (1 : Int32).toInt = (0 : Int32).toInt := by rw [h_53]
                    exfalso
                    omega
                  · have g55 : (1 : Int32).toInt ≠ (0 : Int32).toInt := fun z => h_53 (Int32.toInt_inj.mp z)
                    refine ok_bd.mpr ((o_fX7_loopOf hIσ14_2 (p1 := p1) (p2 := p2) (p3 := p3) (p4 := p4) (by omega) (by omega) (by omega) (by omega) (by omega) (by omega)).mono (fun r19_2_7 ho_57 => ?_))
                    refine ok_some.mpr ?_
                    exact ⟨hIσ14_2, hfσ14_2⟩
  · have f58 : (0 : Int32).toInt = 0 := by decide
    have g59 : p4.toInt ≠ (0 : Int32).toInt := fun z => h_1 (Int32.toInt_inj.mp z)
    refine ok_ite.mpr ⟨fun h_60 => ?_, fun h_60 => ?_⟩
    · have f61 : (1 : Int32).toInt = 1 := by decide
      have g62 : p4.toInt = (1 : Int32).toInt := by rw [h_60]
      refine ok_some.mpr ?_
      refine ok_ite.mpr ⟨fun h_63 => ?_, fun h_63 => ?_⟩
      · have g64 : (1 : Int32).toInt = (0 : Int32).toInt := by rw [h_63]
        exfalso
        omega
      · have g65 : (1 : Int32).toInt ≠ (0 : Int32).toInt := fun z => h_63 (Int32.toInt_inj.mp z)
        refine ok_bd.mpr ((o_fX9_areUnlike hIσ (p1 := p1) (p2 := p2) ).mono (fun r5_8 ho_67 => ?_))
        obtain ⟨r0r5_8, r1r5_8, hp_68⟩ := ho_67
        refine ok_ite.mpr ⟨fun h_69 => ?_, fun h_69 => ?_⟩
        · have g70 : r5_8.toInt = (0 : Int32).toInt := by rw [h_69]
          refine ok_some.mpr ?_
          have f71 : (-1000000000 : Int32).toInt = -1000000000 := by decide
          exact ⟨hIσ, hfσ⟩
        · have g72 : r5_8.toInt ≠ (0 : Int32).toInt := fun z => h_69 (Int32.toInt_inj.mp z)
          refine ok_bd.mpr ((o_fX9_areUnlike hIσ (p1 := p2) (p2 := p3) ).mono (fun r8_8 ho_74 => ?_))
          obtain ⟨r0r8_8, r1r8_8, hp_75⟩ := ho_74
          refine ok_ite.mpr ⟨fun h_76 => ?_, fun h_76 => ?_⟩
          · have g77 : r8_8.toInt = (0 : Int32).toInt := by rw [h_76]
            refine ok_some.mpr ?_
            have f78 : (-1000000000 : Int32).toInt = -1000000000 := by decide
            exact ⟨hIσ, hfσ⟩
          · have g79 : r8_8.toInt ≠ (0 : Int32).toInt := fun z => h_76 (Int32.toInt_inj.mp z)
            refine ok_bd.mpr ((o_fX9_areUnlike hIσ (p1 := p3) (p2 := p1) ).mono (fun r11_8 ho_81 => ?_))
            obtain ⟨r0r11_8, r1r11_8, hp_82⟩ := ho_81
            refine ok_ite.mpr ⟨fun h_83 => ?_, fun h_83 => ?_⟩
            · have g84 : r11_8.toInt = (0 : Int32).toInt := by rw [h_83]
              refine ok_some.mpr ?_
              have f85 : (-1000000000 : Int32).toInt = -1000000000 := by decide
              exact ⟨hIσ, hfσ⟩
            · have g86 : r11_8.toInt ≠ (0 : Int32).toInt := fun z => h_83 (Int32.toInt_inj.mp z)
              refine ok_bd.mpr ((o_fX7_survey hIσ  ).mono (fun σ14_8 ho_88 => ?_))
              obtain ⟨hIσ14_8, hcσ14_8⟩ := ho_88
              have hfσ14_8 : Fr fr_fX9_loop σ σ14_8 := Fr_c hfσ hcσ14_8 (by decide)
              refine ok_bd.mpr ?_
              try unfold fX7_isLoop
              refine ok_gd.mpr ⟨gb_of (by omega) (by omega), ?_⟩
              refine ok_gd.mpr ⟨gb_of (by omega) (by omega), ?_⟩
              refine ok_nm2 (fun v2_9 ev2_9 => ?_)
              have qv2_9 : v2_9.toInt = (σ14_8.1 (155 + p1.toNatClampNeg) p2.toNatClampNeg).toInt := congrArg Int32.toInt ev2_9
              refine ok_ite.mpr ⟨fun h_89 => ?_, fun h_89 => ?_⟩
              · have g90 : v2_9.toInt ≤ (0 : Int32).toInt := Int32.le_iff_toInt_le.mp h_89
                refine ok_some.mpr ?_
                refine ok_ite.mpr ⟨fun h_91 => ?_, fun h_91 => ?_⟩
                · have g92 : (0 : Int32).toInt = (0 : Int32).toInt := by rw [h_91]
                  refine ok_some.mpr ?_
                  have f93 : (-1000000000 : Int32).toInt = -1000000000 := by decide
                  exact ⟨hIσ14_8, hfσ14_8⟩
                · have g94 : (0 : Int32).toInt ≠ (0 : Int32).toInt := fun z => h_91 (Int32.toInt_inj.mp z)
                  exfalso
                  omega
              · have g95 : ¬ v2_9.toInt ≤ (0 : Int32).toInt := fun z => h_89 (Int32.le_iff_toInt_le.mpr z)
                refine ok_gd.mpr ⟨gb_of (by omega) (by omega), ?_⟩
                refine ok_gd.mpr ⟨gb_of (by omega) (by omega), ?_⟩
                refine ok_nm2 (fun v5_9 ev5_9 => ?_)
                have qv5_9 : v5_9.toInt = (σ14_8.1 (155 + p2.toNatClampNeg) p3.toNatClampNeg).toInt := congrArg Int32.toInt ev5_9
                refine ok_ite.mpr ⟨fun h_96 => ?_, fun h_96 => ?_⟩
                · have g97 : v5_9.toInt ≤ (0 : Int32).toInt := Int32.le_iff_toInt_le.mp h_96
                  refine ok_some.mpr ?_
                  refine ok_ite.mpr ⟨fun h_98 => ?_, fun h_98 => ?_⟩
                  · have g99 : (0 : Int32).toInt = (0 : Int32).toInt := by rw [h_98]
                    refine ok_some.mpr ?_
                    have f100 : (-1000000000 : Int32).toInt = -1000000000 := by decide
                    exact ⟨hIσ14_8, hfσ14_8⟩
                  · have g101 : (0 : Int32).toInt ≠ (0 : Int32).toInt := fun z => h_98 (Int32.toInt_inj.mp z)
                    exfalso
                    omega
                · have g102 : ¬ v5_9.toInt ≤ (0 : Int32).toInt := fun z => h_96 (Int32.le_iff_toInt_le.mpr z)
                  refine ok_gd.mpr ⟨gb_of (by omega) (by omega), ?_⟩
                  refine ok_gd.mpr ⟨gb_of (by omega) (by omega), ?_⟩
                  refine ok_nm2 (fun v8_9 ev8_9 => ?_)
                  have qv8_9 : v8_9.toInt = (σ14_8.1 (155 + p3.toNatClampNeg) p1.toNatClampNeg).toInt := congrArg Int32.toInt ev8_9
                  refine ok_ite.mpr ⟨fun h_103 => ?_, fun h_103 => ?_⟩
                  · have g104 : v8_9.toInt ≤ (0 : Int32).toInt := Int32.le_iff_toInt_le.mp h_103
                    refine ok_some.mpr ?_
                    refine ok_ite.mpr ⟨fun h_105 => ?_, fun h_105 => ?_⟩
                    · have g106 : (0 : Int32).toInt = (0 : Int32).toInt := by rw [h_105]
                      refine ok_some.mpr ?_
                      have f107 : (-1000000000 : Int32).toInt = -1000000000 := by decide
                      exact ⟨hIσ14_8, hfσ14_8⟩
                    · have g108 : (0 : Int32).toInt ≠ (0 : Int32).toInt := fun z => h_105 (Int32.toInt_inj.mp z)
                      exfalso
                      omega
                  · have g109 : ¬ v8_9.toInt ≤ (0 : Int32).toInt := fun z => h_103 (Int32.le_iff_toInt_le.mpr z)
                    refine ok_some.mpr ?_
                    refine ok_ite.mpr ⟨fun h_110 => ?_, fun h_110 => ?_⟩
                    · have g111 : (1 : Int32).toInt = (0 : Int32).toInt := by rw [h_110]
                      exfalso
                      omega
                    · have g112 : (1 : Int32).toInt ≠ (0 : Int32).toInt := fun z => h_110 (Int32.toInt_inj.mp z)
                      refine ok_bd.mpr ((o_fX7_loopOf hIσ14_8 (p1 := p1) (p2 := p2) (p3 := p3) (p4 := p4) (by omega) (by omega) (by omega) (by omega) (by omega) (by omega)).mono (fun r19_8_13 ho_114 => ?_))
                      refine ok_some.mpr ?_
                      exact ⟨hIσ14_8, hfσ14_8⟩
    · have f115 : (1 : Int32).toInt = 1 := by decide
      have g116 : p4.toInt ≠ (1 : Int32).toInt := fun z => h_60 (Int32.toInt_inj.mp z)
      refine ok_some.mpr ?_
      refine ok_ite.mpr ⟨fun h_117 => ?_, fun h_117 => ?_⟩
      · have g118 : (0 : Int32).toInt = (0 : Int32).toInt := by rw [h_117]
        refine ok_some.mpr ?_
        have f119 : (-1000000000 : Int32).toInt = -1000000000 := by decide
        exact ⟨hIσ, hfσ⟩
      · have g120 : (0 : Int32).toInt ≠ (0 : Int32).toInt := fun z => h_117 (Int32.toInt_inj.mp z)
        exfalso
        omega
set_option maxRecDepth 20000 in
set_option maxHeartbeats 2000000 in
theorem o_fX7_takeGap {σ : gS} (hIσ : JC σ) {p1 : Int32} {p2 : Int32} {p3 : Int32} (h0p1 : 0 ≤ p1.toInt) (h1p1 : p1.toInt ≤ 11) (h0p2 : 0 ≤ p2.toInt) (h1p2 : p2.toInt ≤ 11) (h0p3 : 0 ≤ p3.toInt) (h1p3 : p3.toInt ≤ 11) : Ok (fX7_takeGap σ p1 p2 p3) (fun out => JC out ∧ Fr fr_fX7_takeGap σ out) := by
  unfold fX7_takeGap
  have hfσ : Fr fr_fX7_takeGap σ σ := Fr_r
  have f1 : (0 : Int32).toInt = 0 := by decide
  refine ok_bd.mpr ((o_fX7_loopOf hIσ (p1 := p1) (p2 := p2) (p3 := p3) (p4 := (0 : Int32)) (by omega) (by omega) (by omega) (by omega) (by omega) (by omega)).mono (fun r2 ho_3 => ?_))
  have f4 : (1 : Int32).toInt = 1 := by decide
  refine ok_bd.mpr ((o_fX7_loopOf hIσ (p1 := p1) (p2 := p2) (p3 := p3) (p4 := (1 : Int32)) (by omega) (by omega) (by omega) (by omega) (by omega) (by omega)).mono (fun r4 ho_6 => ?_))
  refine ok_nm2 (fun x5 ex5 => ?_)
  have f7 : ((if (0 : Int32) ≤ r2 then r2 else (0 - r2)).toInt = r2.toInt ∧ (0 : Int32).toInt ≤ r2.toInt) ∨ ((if (0 : Int32) ≤ r2 then r2 else (0 - r2)).toInt = (0 - r2).toInt ∧ ¬ (0 : Int32).toInt ≤ r2.toInt) := by
    by_cases hz : (0 : Int32) ≤ r2
    · exact .inl ⟨by rw [if_pos hz], Int32.le_iff_toInt_le.mp hz⟩
    · exact .inr ⟨by rw [if_neg hz], fun z => hz (Int32.le_iff_toInt_le.mpr z)⟩
  have f8 : ((if (0 : Int32) ≤ r4 then r4 else (0 - r4)).toInt = r4.toInt ∧ (0 : Int32).toInt ≤ r4.toInt) ∨ ((if (0 : Int32) ≤ r4 then r4 else (0 - r4)).toInt = (0 - r4).toInt ∧ ¬ (0 : Int32).toInt ≤ r4.toInt) := by
    by_cases hz : (0 : Int32) ≤ r4
    · exact .inl ⟨by rw [if_pos hz], Int32.le_iff_toInt_le.mp hz⟩
    · exact .inr ⟨by rw [if_neg hz], fun z => hz (Int32.le_iff_toInt_le.mpr z)⟩
  have qx5 : x5.toInt = ((if (0 : Int32) ≤ r2 then r2 else (0 - r2)) + (if (0 : Int32) ≤ r4 then r4 else (0 - r4))).toInt := congrArg Int32.toInt ex5
  refine ok_ite.mpr ⟨fun h_9 => ?_, fun h_9 => ?_⟩
  · have g10 : (σ.1 140 12).toInt < x5.toInt := Int32.lt_iff_toInt_lt.mp h_9
    refine ok_nm2 (fun σ7 eσ7 => ?_)
    have hIσ7 : JC σ7 := by rw [eσ7]; exact JC_w hIσ (Int32.le_toInt _) (Int32.toInt_le _)
    have hfσ7 : Fr fr_fX7_takeGap σ σ7 := by rw [eσ7]; exact Fr_w hfσ (by decide)
    have sσ7_140_12 : (σ7.1 140 12).toInt = x5.toInt := by rw [eσ7]; rfl
    refine ok_nm2 (fun σ8 eσ8 => ?_)
    have hIσ8 : JC σ8 := by rw [eσ8]; exact JC_w hIσ7 (Int32.le_toInt _) (Int32.toInt_le _)
    have hfσ8 : Fr fr_fX7_takeGap σ σ8 := by rw [eσ8]; exact Fr_w hfσ7 (by decide)
    have sσ8_140_12 : (σ8.1 140 12).toInt = (σ7.1 140 12).toInt := by rw [eσ8]; rfl
    refine ok_some.mpr ?_
    exact ⟨hIσ8, hfσ8⟩
  · have g11 : ¬ (σ.1 140 12).toInt < x5.toInt := fun z => h_9 (Int32.lt_iff_toInt_lt.mpr z)
    refine ok_some.mpr ?_
    exact ⟨hIσ, hfσ⟩
set_option maxRecDepth 20000 in
set_option maxHeartbeats 2000000 in
theorem o_fX7_findGap {σ : gS} (hIσ : JC σ)   : Ok (fX7_findGap σ ) (fun out => JC out ∧ Fr fr_fX7_findGap σ out) := by
  unfold fX7_findGap
  have hfσ : Fr fr_fX7_findGap σ σ := Fr_r
  refine ok_nm2 (fun σ1 eσ1 => ?_)
  have hIσ1 : JC σ1 := by rw [eσ1]; exact JC_w hIσ (Int32.le_toInt _) (Int32.toInt_le _)
  have hfσ1 : Fr fr_fX7_findGap σ σ1 := by rw [eσ1]; exact Fr_w hfσ (by decide)
  refine ok_nm2 (fun σ2 eσ2 => ?_)
  have hIσ2 : JC σ2 := by rw [eσ2]; exact JC_w hIσ1 (Int32.le_toInt _) (Int32.toInt_le _)
  have hfσ2 : Fr fr_fX7_findGap σ σ2 := by rw [eσ2]; exact Fr_w hfσ1 (by decide)
  have f1 : (1 : Int32).toInt = 1 := by decide
  refine ok_gd.mpr ⟨gb_of (by omega) (by omega), ?_⟩
  refine ok_nm2 (fun v3 ev3 => ?_)
  have f2 : 0 ≤ (σ2.1 3 1).toInt ∧ (σ2.1 3 1).toInt ≤ 12 := hIσ2 3 1
  have qv3 : v3.toInt = (σ2.1 3 1).toInt := congrArg Int32.toInt ev3
  refine ok_nm.mpr ?_
  refine ok_nm2 (fun x5_1 ex5_1 => ?_)
  have f3 : (0 : Int32).toInt = 0 := by decide
  have qx5_1 : x5_1.toInt = 0 := by rw [ex5_1]; decide
  refine ok_lpc (I := fun n s => n = (12 + 1 - s.1.toInt).toNat ∧ JC s.2 ∧ Fr fr_fX7_findGap σ s.2 ∧ 0 ≤ s.1.toInt ∧ s.1.toInt ≤ 12) (fun rec22_2r n_2 s_2 hs_2 hrec_2 => ?_) K9 ((12 + 1 - x5_1.toInt).toNat) (x5_1, σ2) ⟨rfl, hIσ2, hfσ2, (show 0 ≤ x5_1.toInt by omega), (show x5_1.toInt ≤ 12 by omega)⟩ (by unfold K9; omega)
  obtain ⟨a2_2, σ1_2⟩ := s_2
  obtain ⟨hn_2, hIσ1_2, hfσ1_2, b0a2_2, b1a2_2⟩ := hs_2
  dsimp only at hn_2 hIσ1_2 hfσ1_2 b0a2_2 b1a2_2
  unfold bX7_findGap_22
  try dsimp only
  refine ok_ite.mpr ⟨fun h_4 => ?_, fun h_4 => ?_⟩
  · have g5 : v3.toInt ≤ a2_2.toInt := Int32.le_iff_toInt_le.mp h_4
    refine ok_some.mpr ?_
    exact ⟨hIσ1_2, hfσ1_2⟩
  · have g6 : ¬ v3.toInt ≤ a2_2.toInt := fun z => h_4 (Int32.le_iff_toInt_le.mpr z)
    refine ok_nm2 (fun x7_160 ex7_160 => ?_)
    have f7 : (a2_2 + (1 : Int32)).toInt = a2_2.toInt + (1 : Int32).toInt := iadd_toInt (by omega) (by omega)
    have qx7_160 : x7_160.toInt = (a2_2 + 1).toInt := congrArg Int32.toInt ex7_160
    refine ok_lpc (I := fun n s => n = (12 + 1 - s.1.toInt).toNat ∧ JC s.2 ∧ Fr fr_fX7_findGap σ s.2 ∧ 1 ≤ s.1.toInt ∧ s.1.toInt ≤ 12) (fun rec31_165r n_165 s_165 hs_165 hrec_165 => ?_) K9 ((12 + 1 - x7_160.toInt).toNat) (x7_160, σ1_2) ⟨rfl, hIσ1_2, hfσ1_2, (show 1 ≤ x7_160.toInt by omega), (show x7_160.toInt ≤ 12 by omega)⟩ (by unfold K9; omega)
    obtain ⟨a3_165, σ1_165⟩ := s_165
    obtain ⟨hn_165, hIσ1_165, hfσ1_165, b0a3_165, b1a3_165⟩ := hs_165
    dsimp only at hn_165 hIσ1_165 hfσ1_165 b0a3_165 b1a3_165
    unfold bX7_findGap_31
    try dsimp only
    refine ok_ite.mpr ⟨fun h_8 => ?_, fun h_8 => ?_⟩
    · have g9 : v3.toInt ≤ a3_165.toInt := Int32.le_iff_toInt_le.mp h_8
      refine ok_nm2 (fun x9_170 ex9_170 => ?_)
      have qx9_170 : x9_170.toInt = (a2_2 + 1).toInt := congrArg Int32.toInt ex9_170
      exact hrec_2 _ (x9_170, σ1_165) (show (12 + 1 - x9_170.toInt).toNat < n_2 by omega) ⟨rfl, hIσ1_165, hfσ1_165, (show 0 ≤ x9_170.toInt by omega), (show x9_170.toInt ≤ 12 by omega)⟩
    · have g10 : ¬ v3.toInt ≤ a3_165.toInt := fun z => h_8 (Int32.le_iff_toInt_le.mpr z)
      refine ok_nm2 (fun x10_170 ex10_170 => ?_)
      have f11 : (a3_165 + (1 : Int32)).toInt = a3_165.toInt + (1 : Int32).toInt := iadd_toInt (by omega) (by omega)
      have qx10_170 : x10_170.toInt = (a3_165 + 1).toInt := congrArg Int32.toInt ex10_170
      refine ok_lpc (I := fun n s => n = (12 + 1 - s.1.toInt).toNat ∧ JC s.2 ∧ Fr fr_fX7_findGap σ s.2 ∧ 2 ≤ s.1.toInt ∧ s.1.toInt ≤ 12) (fun rec41_173r n_173 s_173 hs_173 hrec_173 => ?_) K9 ((12 + 1 - x10_170.toInt).toNat) (x10_170, σ1_165) ⟨rfl, hIσ1_165, hfσ1_165, (show 2 ≤ x10_170.toInt by omega), (show x10_170.toInt ≤ 12 by omega)⟩ (by unfold K9; omega)
      obtain ⟨a4_173, σ1_173⟩ := s_173
      obtain ⟨hn_173, hIσ1_173, hfσ1_173, b0a4_173, b1a4_173⟩ := hs_173
      dsimp only at hn_173 hIσ1_173 hfσ1_173 b0a4_173 b1a4_173
      unfold bX7_findGap_41
      try dsimp only
      refine ok_ite.mpr ⟨fun h_12 => ?_, fun h_12 => ?_⟩
      · have g13 : v3.toInt ≤ a4_173.toInt := Int32.le_iff_toInt_le.mp h_12
        refine ok_nm2 (fun x12_176 ex12_176 => ?_)
        have qx12_176 : x12_176.toInt = (a3_165 + 1).toInt := congrArg Int32.toInt ex12_176
        exact hrec_165 _ (x12_176, σ1_173) (show (12 + 1 - x12_176.toInt).toNat < n_165 by omega) ⟨rfl, hIσ1_173, hfσ1_173, (show 1 ≤ x12_176.toInt by omega), (show x12_176.toInt ≤ 12 by omega)⟩
      · have g14 : ¬ v3.toInt ≤ a4_173.toInt := fun z => h_12 (Int32.le_iff_toInt_le.mpr z)
        refine ok_bd.mpr ?_
        try unfold fX7_isLoop
        refine ok_gd.mpr ⟨gb_of (by omega) (by omega), ?_⟩
        refine ok_gd.mpr ⟨gb_of (by omega) (by omega), ?_⟩
        refine ok_nm2 (fun v2_177 ev2_177 => ?_)
        have qv2_177 : v2_177.toInt = (σ1_173.1 (155 + a2_2.toNatClampNeg) a3_165.toNatClampNeg).toInt := congrArg Int32.toInt ev2_177
        refine ok_ite.mpr ⟨fun h_15 => ?_, fun h_15 => ?_⟩
        · have g16 : v2_177.toInt ≤ (0 : Int32).toInt := Int32.le_iff_toInt_le.mp h_15
          refine ok_some.mpr ?_
          refine ok_ite.mpr ⟨fun h_17 => ?_, fun h_17 => ?_⟩
          · have g18 : (0 : Int32).toInt = (0 : Int32).toInt := by rw [h_17]
            refine ok_nm2 (fun x16_176_178 ex16_176_178 => ?_)
            have f19 : (a4_173 + (1 : Int32)).toInt = a4_173.toInt + (1 : Int32).toInt := iadd_toInt (by omega) (by omega)
            have qx16_176_178 : x16_176_178.toInt = (a4_173 + 1).toInt := congrArg Int32.toInt ex16_176_178
            exact hrec_173 _ (x16_176_178, σ1_173) (show (12 + 1 - x16_176_178.toInt).toNat < n_173 by omega) ⟨rfl, hIσ1_173, hfσ1_173, (show 2 ≤ x16_176_178.toInt by omega), (show x16_176_178.toInt ≤ 12 by omega)⟩
          · have g20 : (0 : Int32).toInt ≠ (0 : Int32).toInt := fun z => h_17 (Int32.toInt_inj.mp z)
            exfalso
            omega
        · have g21 : ¬ v2_177.toInt ≤ (0 : Int32).toInt := fun z => h_15 (Int32.le_iff_toInt_le.mpr z)
          refine ok_gd.mpr ⟨gb_of (by omega) (by omega), ?_⟩
          refine ok_gd.mpr ⟨gb_of (by omega) (by omega), ?_⟩
          refine ok_nm2 (fun v5_177 ev5_177 => ?_)
          have qv5_177 : v5_177.toInt = (σ1_173.1 (155 + a3_165.toNatClampNeg) a4_173.toNatClampNeg).toInt := congrArg Int32.toInt ev5_177
          refine ok_ite.mpr ⟨fun h_22 => ?_, fun h_22 => ?_⟩
          · have g23 : v5_177.toInt ≤ (0 : Int32).toInt := Int32.le_iff_toInt_le.mp h_22
            refine ok_some.mpr ?_
            refine ok_ite.mpr ⟨fun h_24 => ?_, fun h_24 => ?_⟩
            · have g25 : (0 : Int32).toInt = (0 : Int32).toInt := by rw [h_24]
              refine ok_nm2 (fun x16_176_179 ex16_176_179 => ?_)
              have f26 : (a4_173 + (1 : Int32)).toInt = a4_173.toInt + (1 : Int32).toInt := iadd_toInt (by omega) (by omega)
              have qx16_176_179 : x16_176_179.toInt = (a4_173 + 1).toInt := congrArg Int32.toInt ex16_176_179
              exact hrec_173 _ (x16_176_179, σ1_173) (show (12 + 1 - x16_176_179.toInt).toNat < n_173 by omega) ⟨rfl, hIσ1_173, hfσ1_173, (show 2 ≤ x16_176_179.toInt by omega), (show x16_176_179.toInt ≤ 12 by omega)⟩
            · have g27 : (0 : Int32).toInt ≠ (0 : Int32).toInt := fun z => h_24 (Int32.toInt_inj.mp z)
              exfalso
              omega
          · have g28 : ¬ v5_177.toInt ≤ (0 : Int32).toInt := fun z => h_22 (Int32.le_iff_toInt_le.mpr z)
            refine ok_gd.mpr ⟨gb_of (by omega) (by omega), ?_⟩
            refine ok_gd.mpr ⟨gb_of (by omega) (by omega), ?_⟩
            refine ok_nm2 (fun v8_177 ev8_177 => ?_)
            have qv8_177 : v8_177.toInt = (σ1_173.1 (155 + a4_173.toNatClampNeg) a2_2.toNatClampNeg).toInt := congrArg Int32.toInt ev8_177
            refine ok_ite.mpr ⟨fun h_29 => ?_, fun h_29 => ?_⟩
            · have g30 : v8_177.toInt ≤ (0 : Int32).toInt := Int32.le_iff_toInt_le.mp h_29
              refine ok_some.mpr ?_
              refine ok_ite.mpr ⟨fun h_31 => ?_, fun h_31 => ?_⟩
              · have g32 : (0 : Int32).toInt = (0 : Int32).toInt := by rw [h_31]
                refine ok_nm2 (fun x16_176_180 ex16_176_180 => ?_)
                have f33 : (a4_173 + (1 : Int32)).toInt = a4_173.toInt + (1 : Int32).toInt := iadd_toInt (by omega) (by omega)
                have qx16_176_180 : x16_176_180.toInt = (a4_173 + 1).toInt := congrArg Int32.toInt ex16_176_180
                exact hrec_173 _ (x16_176_180, σ1_173) (show (12 + 1 - x16_176_180.toInt).toNat < n_173 by omega) ⟨rfl, hIσ1_173, hfσ1_173, (show 2 ≤ x16_176_180.toInt by omega), (show x16_176_180.toInt ≤ 12 by omega)⟩
              · have g34 : (0 : Int32).toInt ≠ (0 : Int32).toInt := fun z => h_31 (Int32.toInt_inj.mp z)
                exfalso
                omega
            · have g35 : ¬ v8_177.toInt ≤ (0 : Int32).toInt := fun z => h_29 (Int32.le_iff_toInt_le.mpr z)
              refine ok_some.mpr ?_
              refine ok_ite.mpr ⟨fun h_36 => ?_, fun h_36 => ?_⟩
              · have g37 : (1 : Int32).toInt = (0 : Int32).toInt := by rw [h_36]
                exfalso
                omega
              · have g38 : (1 : Int32).toInt ≠ (0 : Int32).toInt := fun z => h_36 (Int32.toInt_inj.mp z)
                refine ok_bd.mpr ((o_fX7_takeGap hIσ1_173 (p1 := a2_2) (p2 := a3_165) (p3 := a4_173) (by omega) (by omega) (by omega) (by omega) (by omega) (by omega)).mono (fun σ18_176_181 ho_40 => ?_))
                obtain ⟨hIσ18_176_181, hcσ18_176_181⟩ := ho_40
                have hfσ18_176_181 : Fr fr_fX7_findGap σ σ18_176_181 := Fr_c hfσ1_173 hcσ18_176_181 (by decide)
                refine ok_nm2 (fun x19_176_181 ex19_176_181 => ?_)
                have f41 : (a4_173 + (1 : Int32)).toInt = a4_173.toInt + (1 : Int32).toInt := iadd_toInt (by omega) (by omega)
                have qx19_176_181 : x19_176_181.toInt = (a4_173 + 1).toInt := congrArg Int32.toInt ex19_176_181
                exact hrec_173 _ (x19_176_181, σ18_176_181) (show (12 + 1 - x19_176_181.toInt).toNat < n_173 by omega) ⟨rfl, hIσ18_176_181, hfσ18_176_181, (show 2 ≤ x19_176_181.toInt by omega), (show x19_176_181.toInt ≤ 12 by omega)⟩
set_option maxRecDepth 20000 in
set_option maxHeartbeats 2000000 in
theorem o_fX9_gap {σ : gS} (hIσ : JC σ) {p1 : Int32}  : Ok (fX9_gap σ p1) (fun out => JC out.2 ∧ Fr fr_fX9_gap σ out.2) := by
  unfold fX9_gap
  have hfσ : Fr fr_fX9_gap σ σ := Fr_r
  refine ok_ite.mpr ⟨fun h_1 => ?_, fun h_1 => ?_⟩
  · have f2 : (0 : Int32).toInt = 0 := by decide
    have g3 : p1.toInt = (0 : Int32).toInt := by rw [h_1]
    try unfold jX9_gap_11
    refine ok_bd.mpr ((o_fX7_survey hIσ  ).mono (fun σ3_1 ho_5 => ?_))
    obtain ⟨hIσ3_1, hcσ3_1⟩ := ho_5
    have hfσ3_1 : Fr fr_fX9_gap σ σ3_1 := Fr_c hfσ hcσ3_1 (by decide)
    have sσ3_1_140_11 : (σ3_1.1 140 11).toInt = (σ.1 140 11).toInt := by rw [(hcσ3_1 140 11 (by decide) (by decide)).1]
    have sσ3_1_140_12 : (σ3_1.1 140 12).toInt = (σ.1 140 12).toInt := by rw [(hcσ3_1 140 12 (by decide) (by decide)).1]
    refine ok_bd.mpr ((o_fX7_findGap hIσ3_1  ).mono (fun σ5_1 ho_7 => ?_))
    obtain ⟨hIσ5_1, hcσ5_1⟩ := ho_7
    have hfσ5_1 : Fr fr_fX9_gap σ σ5_1 := Fr_c hfσ3_1 hcσ5_1 (by decide)
    refine ok_ite.mpr ⟨fun h_8 => ?_, fun h_8 => ?_⟩
    · have g9 : p1.toInt = (0 : Int32).toInt := by rw [h_8]
      refine ok_some.mpr ?_
      exact ⟨hIσ5_1, hfσ5_1⟩
    · have g10 : p1.toInt ≠ (0 : Int32).toInt := fun z => h_8 (Int32.toInt_inj.mp z)
      exfalso
      omega
  · have f11 : (0 : Int32).toInt = 0 := by decide
    have g12 : p1.toInt ≠ (0 : Int32).toInt := fun z => h_1 (Int32.toInt_inj.mp z)
    refine ok_ite.mpr ⟨fun h_13 => ?_, fun h_13 => ?_⟩
    · have f14 : (1 : Int32).toInt = 1 := by decide
      have g15 : p1.toInt = (1 : Int32).toInt := by rw [h_13]
      try unfold jX9_gap_11
      refine ok_bd.mpr ((o_fX7_survey hIσ  ).mono (fun σ3_2 ho_17 => ?_))
      obtain ⟨hIσ3_2, hcσ3_2⟩ := ho_17
      have hfσ3_2 : Fr fr_fX9_gap σ σ3_2 := Fr_c hfσ hcσ3_2 (by decide)
      have sσ3_2_140_11 : (σ3_2.1 140 11).toInt = (σ.1 140 11).toInt := by rw [(hcσ3_2 140 11 (by decide) (by decide)).1]
      have sσ3_2_140_12 : (σ3_2.1 140 12).toInt = (σ.1 140 12).toInt := by rw [(hcσ3_2 140 12 (by decide) (by decide)).1]
      refine ok_bd.mpr ((o_fX7_findGap hIσ3_2  ).mono (fun σ5_2 ho_19 => ?_))
      obtain ⟨hIσ5_2, hcσ5_2⟩ := ho_19
      have hfσ5_2 : Fr fr_fX9_gap σ σ5_2 := Fr_c hfσ3_2 hcσ5_2 (by decide)
      refine ok_ite.mpr ⟨fun h_20 => ?_, fun h_20 => ?_⟩
      · have g21 : p1.toInt = (0 : Int32).toInt := by rw [h_20]
        exfalso
        omega
      · have g22 : p1.toInt ≠ (0 : Int32).toInt := fun z => h_20 (Int32.toInt_inj.mp z)
        refine ok_some.mpr ?_
        exact ⟨hIσ5_2, hfσ5_2⟩
    · have f23 : (1 : Int32).toInt = 1 := by decide
      have g24 : p1.toInt ≠ (1 : Int32).toInt := fun z => h_13 (Int32.toInt_inj.mp z)
      refine ok_some.mpr ?_
      have f25 : (-1 : Int32).toInt = -1 := by decide
      exact ⟨hIσ, hfσ⟩
set_option maxRecDepth 20000 in
set_option maxHeartbeats 2000000 in
theorem o_fX7_addBranch {σ : gS} (hIσ : JC σ)  (pre0 : (σ.1 140 10).toInt ≤ 10) : Ok (fX7_addBranch σ ) (fun out => JC out.2 ∧ Fr fr_fX7_addBranch σ out.2 ∧ 0 ≤ out.1.toInt ∧ out.1.toInt ≤ 1 ∧ (out.2.1 140 10).toInt ≤ (σ.1 140 10).toInt + 1) := by
  unfold fX7_addBranch
  have hfσ : Fr fr_fX7_addBranch σ σ := Fr_r
  have f1 : 0 ≤ (σ.1 140 10).toInt ∧ (σ.1 140 10).toInt ≤ 11 := hIσ 140 10
  refine ok_nm2 (fun x1 ex1 => ?_)
  have f2 : (0 : Int32).toInt = 0 := by decide
  have qx1 : x1.toInt = 0 := by rw [ex1]; decide
  refine ok_nm2 (fun x2 ex2 => ?_)
  have qx2 : x2.toInt = 0 := by rw [ex2]; decide
  refine ok_lpc (I := fun n s => n = (12 + 1 - s.2.1.toInt).toNat ∧ JC s.2.2 ∧ Fr fr_fX7_addBranch σ s.2.2 ∧ 0 ≤ s.2.1.toInt ∧ s.2.1.toInt ≤ 12 ∧ (s.2.2.1 140 10).toInt = (σ.1 140 10).toInt) (fun rec4_1r n_1 s_1 hs_1 hrec_1 => ?_) K9 ((12 + 1 - x2.toInt).toNat) (x1, x2, σ) ⟨rfl, hIσ, hfσ, (show 0 ≤ x2.toInt by omega), (show x2.toInt ≤ 12 by omega), (show (σ.1 140 10).toInt = (σ.1 140 10).toInt by omega)⟩ (by unfold K9; omega)
  obtain ⟨a1_1, a2_1, σ1_1⟩ := s_1
  obtain ⟨hn_1, hIσ1_1, hfσ1_1, b0a2_1, b1a2_1, iv0_1⟩ := hs_1
  dsimp only at hn_1 hIσ1_1 hfσ1_1 b0a2_1 b1a2_1 iv0_1
  unfold bX7_addBranch_4
  try dsimp only
  have f3 : (1 : Int32).toInt = 1 := by decide
  refine ok_gd.mpr ⟨gb_of (by omega) (by omega), ?_⟩
  refine ok_nm2 (fun v3_2 ev3_2 => ?_)
  have f4 : 0 ≤ (σ1_1.1 3 1).toInt ∧ (σ1_1.1 3 1).toInt ≤ 12 := hIσ1_1 3 1
  have qv3_2 : v3_2.toInt = (σ1_1.1 3 1).toInt := congrArg Int32.toInt ev3_2
  refine ok_ite.mpr ⟨fun h_5 => ?_, fun h_5 => ?_⟩
  · have g6 : v3_2.toInt ≤ a2_1.toInt := Int32.le_iff_toInt_le.mp h_5
    refine ok_ite.mpr ⟨fun h_7 => ?_, fun h_7 => ?_⟩
    · have g8 : a1_1.toInt = (0 : Int32).toInt := by rw [h_7]
      refine ok_some.mpr ?_
      exact ⟨hIσ1_1, hfσ1_1, (show 0 ≤ (0 : Int32).toInt by omega), (show (0 : Int32).toInt ≤ 1 by omega), (show (σ1_1.1 140 10).toInt ≤ (σ.1 140 10).toInt + 1 by omega)⟩
    · have g9 : a1_1.toInt ≠ (0 : Int32).toInt := fun z => h_7 (Int32.toInt_inj.mp z)
      have f10 : 0 ≤ (σ1_1.1 140 10).toInt ∧ (σ1_1.1 140 10).toInt ≤ 11 := hIσ1_1 140 10
      refine ok_gd.mpr ⟨gb_of (by omega) (by omega), ?_⟩
      refine ok_nm2 (fun v6_2 ev6_2 => ?_)
      have f12 : (σ1_1.1 140 10).toNatClampNeg = (σ1_1.1 140 10).toInt.toNat := rfl
      have f12_ : ((σ1_1.1 140 10).toNatClampNeg = 0 ∧ 0 ≤ (σ1_1.1 195 (σ1_1.1 140 10).toNatClampNeg).toInt ∧ (σ1_1.1 195 (σ1_1.1 140 10).toNatClampNeg).toInt ≤ 11) ∨ ((σ1_1.1 140 10).toNatClampNeg = 1 ∧ 0 ≤ (σ1_1.1 195 (σ1_1.1 140 10).toNatClampNeg).toInt ∧ (σ1_1.1 195 (σ1_1.1 140 10).toNatClampNeg).toInt ≤ 11) ∨ ((σ1_1.1 140 10).toNatClampNeg = 2 ∧ 0 ≤ (σ1_1.1 195 (σ1_1.1 140 10).toNatClampNeg).toInt ∧ (σ1_1.1 195 (σ1_1.1 140 10).toNatClampNeg).toInt ≤ 11) ∨ ((σ1_1.1 140 10).toNatClampNeg = 3 ∧ 0 ≤ (σ1_1.1 195 (σ1_1.1 140 10).toNatClampNeg).toInt ∧ (σ1_1.1 195 (σ1_1.1 140 10).toNatClampNeg).toInt ≤ 11) ∨ ((σ1_1.1 140 10).toNatClampNeg = 4 ∧ 0 ≤ (σ1_1.1 195 (σ1_1.1 140 10).toNatClampNeg).toInt ∧ (σ1_1.1 195 (σ1_1.1 140 10).toNatClampNeg).toInt ≤ 11) ∨ ((σ1_1.1 140 10).toNatClampNeg = 5 ∧ 0 ≤ (σ1_1.1 195 (σ1_1.1 140 10).toNatClampNeg).toInt ∧ (σ1_1.1 195 (σ1_1.1 140 10).toNatClampNeg).toInt ≤ 11) ∨ ((σ1_1.1 140 10).toNatClampNeg = 6 ∧ 0 ≤ (σ1_1.1 195 (σ1_1.1 140 10).toNatClampNeg).toInt ∧ (σ1_1.1 195 (σ1_1.1 140 10).toNatClampNeg).toInt ≤ 11) ∨ ((σ1_1.1 140 10).toNatClampNeg = 7 ∧ 0 ≤ (σ1_1.1 195 (σ1_1.1 140 10).toNatClampNeg).toInt ∧ (σ1_1.1 195 (σ1_1.1 140 10).toNatClampNeg).toInt ≤ 11) ∨ ((σ1_1.1 140 10).toNatClampNeg = 8 ∧ 0 ≤ (σ1_1.1 195 (σ1_1.1 140 10).toNatClampNeg).toInt ∧ (σ1_1.1 195 (σ1_1.1 140 10).toNatClampNeg).toInt ≤ 11) ∨ ((σ1_1.1 140 10).toNatClampNeg = 9 ∧ 0 ≤ (σ1_1.1 195 (σ1_1.1 140 10).toNatClampNeg).toInt ∧ (σ1_1.1 195 (σ1_1.1 140 10).toNatClampNeg).toInt ≤ 11) ∨ ((σ1_1.1 140 10).toNatClampNeg = 10 ∧ 0 ≤ (σ1_1.1 195 (σ1_1.1 140 10).toNatClampNeg).toInt ∧ (σ1_1.1 195 (σ1_1.1 140 10).toNatClampNeg).toInt ≤ 11) ∨ ((σ1_1.1 140 10).toNatClampNeg = 11 ∧ 0 ≤ (σ1_1.1 195 (σ1_1.1 140 10).toNatClampNeg).toInt ∧ (σ1_1.1 195 (σ1_1.1 140 10).toNatClampNeg).toInt ≤ 11) := by
        have hb := hIσ1_1 195 (σ1_1.1 140 10).toNatClampNeg
        have hj : (σ1_1.1 140 10).toNatClampNeg = 0 ∨ (σ1_1.1 140 10).toNatClampNeg = 1 ∨ (σ1_1.1 140 10).toNatClampNeg = 2 ∨ (σ1_1.1 140 10).toNatClampNeg = 3 ∨ (σ1_1.1 140 10).toNatClampNeg = 4 ∨ (σ1_1.1 140 10).toNatClampNeg = 5 ∨ (σ1_1.1 140 10).toNatClampNeg = 6 ∨ (σ1_1.1 140 10).toNatClampNeg = 7 ∨ (σ1_1.1 140 10).toNatClampNeg = 8 ∨ (σ1_1.1 140 10).toNatClampNeg = 9 ∨ (σ1_1.1 140 10).toNatClampNeg = 10 ∨ (σ1_1.1 140 10).toNatClampNeg = 11 := by omega
        generalize (σ1_1.1 140 10).toNatClampNeg = j at hb hj ⊢
        rcases hj with rfl | rfl | rfl | rfl | rfl | rfl | rfl | rfl | rfl | rfl | rfl | rfl
        · exact .inl ⟨rfl, hb.1, hb.2⟩
        · exact .inr (.inl ⟨rfl, hb.1, hb.2⟩)
        · exact .inr (.inr (.inl ⟨rfl, hb.1, hb.2⟩))
        · exact .inr (.inr (.inr (.inl ⟨rfl, hb.1, hb.2⟩)))
        · exact .inr (.inr (.inr (.inr (.inl ⟨rfl, hb.1, hb.2⟩))))
        · exact .inr (.inr (.inr (.inr (.inr (.inl ⟨rfl, hb.1, hb.2⟩)))))
        · exact .inr (.inr (.inr (.inr (.inr (.inr (.inl ⟨rfl, hb.1, hb.2⟩))))))
        · exact .inr (.inr (.inr (.inr (.inr (.inr (.inr (.inl ⟨rfl, hb.1, hb.2⟩)))))))
        · exact .inr (.inr (.inr (.inr (.inr (.inr (.inr (.inr (.inl ⟨rfl, hb.1, hb.2⟩))))))))
        · exact .inr (.inr (.inr (.inr (.inr (.inr (.inr (.inr (.inr (.inl ⟨rfl, hb.1, hb.2⟩)))))))))
        · exact .inr (.inr (.inr (.inr (.inr (.inr (.inr (.inr (.inr (.inr (.inl ⟨rfl, hb.1, hb.2⟩))))))))))
        · exact .inr (.inr (.inr (.inr (.inr (.inr (.inr (.inr (.inr (.inr (.inr (⟨rfl, hb.1, hb.2⟩)))))))))))
      have qv6_2 : v6_2.toInt = (σ1_1.1 195 (σ1_1.1 140 10).toNatClampNeg).toInt := congrArg Int32.toInt ev6_2
      refine ok_gd.mpr ⟨gb_of (by omega) (by omega), ?_⟩
      refine ok_nm2 (fun v7_2 ev7_2 => ?_)
      have qv7_2 : v7_2.toInt = (σ1_1.1 193 v6_2.toNatClampNeg).toInt := congrArg Int32.toInt ev7_2
      refine ok_nm.mpr ?_
      refine ok_gd.mpr ⟨gb_of (by omega) (by omega), ?_⟩
      refine ok_nm2 (fun v9_2_5 ev9_2_5 => ?_)
      have f13_ : ((σ1_1.1 140 10).toNatClampNeg = 0 ∧ 0 ≤ (σ1_1.1 194 (σ1_1.1 140 10).toNatClampNeg).toInt ∧ (σ1_1.1 194 (σ1_1.1 140 10).toNatClampNeg).toInt ≤ 11) ∨ ((σ1_1.1 140 10).toNatClampNeg = 1 ∧ 0 ≤ (σ1_1.1 194 (σ1_1.1 140 10).toNatClampNeg).toInt ∧ (σ1_1.1 194 (σ1_1.1 140 10).toNatClampNeg).toInt ≤ 11) ∨ ((σ1_1.1 140 10).toNatClampNeg = 2 ∧ 0 ≤ (σ1_1.1 194 (σ1_1.1 140 10).toNatClampNeg).toInt ∧ (σ1_1.1 194 (σ1_1.1 140 10).toNatClampNeg).toInt ≤ 11) ∨ ((σ1_1.1 140 10).toNatClampNeg = 3 ∧ 0 ≤ (σ1_1.1 194 (σ1_1.1 140 10).toNatClampNeg).toInt ∧ (σ1_1.1 194 (σ1_1.1 140 10).toNatClampNeg).toInt ≤ 11) ∨ ((σ1_1.1 140 10).toNatClampNeg = 4 ∧ 0 ≤ (σ1_1.1 194 (σ1_1.1 140 10).toNatClampNeg).toInt ∧ (σ1_1.1 194 (σ1_1.1 140 10).toNatClampNeg).toInt ≤ 11) ∨ ((σ1_1.1 140 10).toNatClampNeg = 5 ∧ 0 ≤ (σ1_1.1 194 (σ1_1.1 140 10).toNatClampNeg).toInt ∧ (σ1_1.1 194 (σ1_1.1 140 10).toNatClampNeg).toInt ≤ 11) ∨ ((σ1_1.1 140 10).toNatClampNeg = 6 ∧ 0 ≤ (σ1_1.1 194 (σ1_1.1 140 10).toNatClampNeg).toInt ∧ (σ1_1.1 194 (σ1_1.1 140 10).toNatClampNeg).toInt ≤ 11) ∨ ((σ1_1.1 140 10).toNatClampNeg = 7 ∧ 0 ≤ (σ1_1.1 194 (σ1_1.1 140 10).toNatClampNeg).toInt ∧ (σ1_1.1 194 (σ1_1.1 140 10).toNatClampNeg).toInt ≤ 11) ∨ ((σ1_1.1 140 10).toNatClampNeg = 8 ∧ 0 ≤ (σ1_1.1 194 (σ1_1.1 140 10).toNatClampNeg).toInt ∧ (σ1_1.1 194 (σ1_1.1 140 10).toNatClampNeg).toInt ≤ 11) ∨ ((σ1_1.1 140 10).toNatClampNeg = 9 ∧ 0 ≤ (σ1_1.1 194 (σ1_1.1 140 10).toNatClampNeg).toInt ∧ (σ1_1.1 194 (σ1_1.1 140 10).toNatClampNeg).toInt ≤ 11) ∨ ((σ1_1.1 140 10).toNatClampNeg = 10 ∧ 0 ≤ (σ1_1.1 194 (σ1_1.1 140 10).toNatClampNeg).toInt ∧ (σ1_1.1 194 (σ1_1.1 140 10).toNatClampNeg).toInt ≤ 11) ∨ ((σ1_1.1 140 10).toNatClampNeg = 11 ∧ 0 ≤ (σ1_1.1 194 (σ1_1.1 140 10).toNatClampNeg).toInt ∧ (σ1_1.1 194 (σ1_1.1 140 10).toNatClampNeg).toInt ≤ 11) := by
        have hb := hIσ1_1 194 (σ1_1.1 140 10).toNatClampNeg
        have hj : (σ1_1.1 140 10).toNatClampNeg = 0 ∨ (σ1_1.1 140 10).toNatClampNeg = 1 ∨ (σ1_1.1 140 10).toNatClampNeg = 2 ∨ (σ1_1.1 140 10).toNatClampNeg = 3 ∨ (σ1_1.1 140 10).toNatClampNeg = 4 ∨ (σ1_1.1 140 10).toNatClampNeg = 5 ∨ (σ1_1.1 140 10).toNatClampNeg = 6 ∨ (σ1_1.1 140 10).toNatClampNeg = 7 ∨ (σ1_1.1 140 10).toNatClampNeg = 8 ∨ (σ1_1.1 140 10).toNatClampNeg = 9 ∨ (σ1_1.1 140 10).toNatClampNeg = 10 ∨ (σ1_1.1 140 10).toNatClampNeg = 11 := by omega
        generalize (σ1_1.1 140 10).toNatClampNeg = j at hb hj ⊢
        rcases hj with rfl | rfl | rfl | rfl | rfl | rfl | rfl | rfl | rfl | rfl | rfl | rfl
        · exact .inl ⟨rfl, hb.1, hb.2⟩
        · exact .inr (.inl ⟨rfl, hb.1, hb.2⟩)
        · exact .inr (.inr (.inl ⟨rfl, hb.1, hb.2⟩))
        · exact .inr (.inr (.inr (.inl ⟨rfl, hb.1, hb.2⟩)))
        · exact .inr (.inr (.inr (.inr (.inl ⟨rfl, hb.1, hb.2⟩))))
        · exact .inr (.inr (.inr (.inr (.inr (.inl ⟨rfl, hb.1, hb.2⟩)))))
        · exact .inr (.inr (.inr (.inr (.inr (.inr (.inl ⟨rfl, hb.1, hb.2⟩))))))
        · exact .inr (.inr (.inr (.inr (.inr (.inr (.inr (.inl ⟨rfl, hb.1, hb.2⟩)))))))
        · exact .inr (.inr (.inr (.inr (.inr (.inr (.inr (.inr (.inl ⟨rfl, hb.1, hb.2⟩))))))))
        · exact .inr (.inr (.inr (.inr (.inr (.inr (.inr (.inr (.inr (.inl ⟨rfl, hb.1, hb.2⟩)))))))))
        · exact .inr (.inr (.inr (.inr (.inr (.inr (.inr (.inr (.inr (.inr (.inl ⟨rfl, hb.1, hb.2⟩))))))))))
        · exact .inr (.inr (.inr (.inr (.inr (.inr (.inr (.inr (.inr (.inr (.inr (⟨rfl, hb.1, hb.2⟩)))))))))))
      have qv9_2_5 : v9_2_5.toInt = (σ1_1.1 194 (σ1_1.1 140 10).toNatClampNeg).toInt := congrArg Int32.toInt ev9_2_5
      refine ok_gd.mpr ⟨gb_of (by omega) (by omega), ?_⟩
      refine ok_nm2 (fun v10_2_5 ev10_2_5 => ?_)
      have qv10_2_5 : v10_2_5.toInt = (σ1_1.1 193 v9_2_5.toNatClampNeg).toInt := congrArg Int32.toInt ev10_2_5
      refine ok_nm.mpr ?_
      refine ok_nm2 (fun x12_2_5_6 ex12_2_5_6 => ?_)
      have qx12_2_5_6 : x12_2_5_6.toInt = 0 := by rw [ex12_2_5_6]; decide
      refine ok_lpc (I := fun n s => n = (12 + 1 - s.1.toInt).toNat ∧ JC s.2 ∧ Fr fr_fX7_addBranch σ s.2 ∧ 0 ≤ s.1.toInt ∧ s.1.toInt ≤ 12 ∧ (s.2.1 140 10).toInt = (σ.1 140 10).toInt) (fun rec144_7r n_7 s_7 hs_7 hrec_7 => ?_) K9 ((12 + 1 - x12_2_5_6.toInt).toNat) (x12_2_5_6, σ1_1) ⟨rfl, hIσ1_1, hfσ1_1, (show 0 ≤ x12_2_5_6.toInt by omega), (show x12_2_5_6.toInt ≤ 12 by omega), (show (σ1_1.1 140 10).toInt = (σ.1 140 10).toInt by omega)⟩ (by unfold K9; omega)
      obtain ⟨a4_7, σ1_7⟩ := s_7
      obtain ⟨hn_7, hIσ1_7, hfσ1_7, b0a4_7, b1a4_7, iv0_7⟩ := hs_7
      dsimp only at hn_7 hIσ1_7 hfσ1_7 b0a4_7 b1a4_7 iv0_7
      unfold bX7_addBranch_144
      try dsimp only
      refine ok_ite.mpr ⟨fun h_14 => ?_, fun h_14 => ?_⟩
      · have f15 : (12 : Int32).toInt = 12 := by decide
        have g16 : (12 : Int32).toInt ≤ a4_7.toInt := Int32.le_iff_toInt_le.mp h_14
        refine ok_nm2 (fun σ14_8 eσ14_8 => ?_)
        have f17 : 0 ≤ (σ1_7.1 140 10).toInt ∧ (σ1_7.1 140 10).toInt ≤ 11 := hIσ1_7 140 10
        have f18 : ((σ1_7.1 140 10) + (1 : Int32)).toInt = (σ1_7.1 140 10).toInt + (1 : Int32).toInt := iadd_toInt (by omega) (by omega)
        have hIσ14_8 : JC σ14_8 := by rw [eσ14_8]; exact JC_w hIσ1_7 (show 0 ≤ _ by omega) (show _ ≤ 11 by omega)
        have hfσ14_8 : Fr fr_fX7_addBranch σ σ14_8 := by rw [eσ14_8]; exact Fr_w hfσ1_7 (by decide)
        have sσ14_8_140_10 : (σ14_8.1 140 10).toInt = ((σ1_7.1 140 10) + 1).toInt := by rw [eσ14_8]; rfl
        refine ok_some.mpr ?_
        exact ⟨hIσ14_8, hfσ14_8, (show 0 ≤ (1 : Int32).toInt by omega), (show (1 : Int32).toInt ≤ 1 by omega), (show (σ14_8.1 140 10).toInt ≤ (σ.1 140 10).toInt + 1 by omega)⟩
      · have f19 : (12 : Int32).toInt = 12 := by decide
        have g20 : ¬ (12 : Int32).toInt ≤ a4_7.toInt := fun z => h_14 (Int32.le_iff_toInt_le.mpr z)
        refine ok_gd.mpr ⟨gb_of (by omega) (by omega), ?_⟩
        refine ok_nm2 (fun v15_8 ev15_8 => ?_)
        have qv15_8 : v15_8.toInt = (σ1_7.1 193 a4_7.toNatClampNeg).toInt := congrArg Int32.toInt ev15_8
        refine ok_ite.mpr ⟨fun h_21 => ?_, fun h_21 => ?_⟩
        · have g22 : v15_8.toInt = v7_2.toInt := by rw [h_21]
          refine ok_gd.mpr ⟨gb_of (by omega) (by omega), ?_⟩
          refine ok_nm2 (fun σ18_8 eσ18_8 => ?_)
          have hIσ18_8 : JC σ18_8 := by rw [eσ18_8]; exact JC_w hIσ1_7 (Int32.le_toInt _) (Int32.toInt_le _)
          have hfσ18_8 : Fr fr_fX7_addBranch σ σ18_8 := by rw [eσ18_8]; exact Fr_w0 hfσ1_7 (by decide)
          have sσ18_8_140_10 : (σ18_8.1 140 10).toInt = (σ1_7.1 140 10).toInt := by rw [eσ18_8]; rfl
          refine ok_nm2 (fun x19_8 ex19_8 => ?_)
          have f23 : (a4_7 + (1 : Int32)).toInt = a4_7.toInt + (1 : Int32).toInt := iadd_toInt (by omega) (by omega)
          have qx19_8 : x19_8.toInt = (a4_7 + 1).toInt := congrArg Int32.toInt ex19_8
          have f24 : 0 ≤ (σ18_8.1 140 10).toInt ∧ (σ18_8.1 140 10).toInt ≤ 11 := hIσ18_8 140 10
          exact hrec_7 _ (x19_8, σ18_8) (show (12 + 1 - x19_8.toInt).toNat < n_7 by omega) ⟨rfl, hIσ18_8, hfσ18_8, (show 0 ≤ x19_8.toInt by omega), (show x19_8.toInt ≤ 12 by omega), (show (σ18_8.1 140 10).toInt = (σ.1 140 10).toInt by omega)⟩
        · have g25 : v15_8.toInt ≠ v7_2.toInt := fun z => h_21 (Int32.toInt_inj.mp z)
          refine ok_nm2 (fun x17_8 ex17_8 => ?_)
          have f26 : (a4_7 + (1 : Int32)).toInt = a4_7.toInt + (1 : Int32).toInt := iadd_toInt (by omega) (by omega)
          have qx17_8 : x17_8.toInt = (a4_7 + 1).toInt := congrArg Int32.toInt ex17_8
          have f27 : 0 ≤ (σ1_7.1 140 10).toInt ∧ (σ1_7.1 140 10).toInt ≤ 11 := hIσ1_7 140 10
          exact hrec_7 _ (x17_8, σ1_7) (show (12 + 1 - x17_8.toInt).toNat < n_7 by omega) ⟨rfl, hIσ1_7, hfσ1_7, (show 0 ≤ x17_8.toInt by omega), (show x17_8.toInt ≤ 12 by omega), (show (σ1_7.1 140 10).toInt = (σ.1 140 10).toInt by omega)⟩
  · have g28 : ¬ v3_2.toInt ≤ a2_1.toInt := fun z => h_5 (Int32.le_iff_toInt_le.mpr z)
    refine ok_nm2 (fun x20_2 ex20_2 => ?_)
    have f29 : (a2_1 + (1 : Int32)).toInt = a2_1.toInt + (1 : Int32).toInt := iadd_toInt (by omega) (by omega)
    have qx20_2 : x20_2.toInt = (a2_1 + 1).toInt := congrArg Int32.toInt ex20_2
    have f30 : 0 ≤ (σ1_1.1 140 10).toInt ∧ (σ1_1.1 140 10).toInt ≤ 11 := hIσ1_1 140 10
    refine ok_lpc (I := fun n s => n = (12 + 1 - s.2.1.toInt).toNat ∧ JC s.2.2 ∧ Fr fr_fX7_addBranch σ s.2.2 ∧ 1 ≤ s.2.1.toInt ∧ s.2.1.toInt ≤ 12 ∧ (s.2.2.1 140 10).toInt = (σ.1 140 10).toInt) (fun rec21_9r n_9 s_9 hs_9 hrec_9 => ?_) K9 ((12 + 1 - x20_2.toInt).toNat) (a1_1, x20_2, σ1_1) ⟨rfl, hIσ1_1, hfσ1_1, (show 1 ≤ x20_2.toInt by omega), (show x20_2.toInt ≤ 12 by omega), (show (σ1_1.1 140 10).toInt = (σ.1 140 10).toInt by omega)⟩ (by unfold K9; omega)
    obtain ⟨a1_9, a3_9, σ1_9⟩ := s_9
    obtain ⟨hn_9, hIσ1_9, hfσ1_9, b0a3_9, b1a3_9, iv0_9⟩ := hs_9
    dsimp only at hn_9 hIσ1_9 hfσ1_9 b0a3_9 b1a3_9 iv0_9
    unfold bX7_addBranch_21
    try dsimp only
    refine ok_gd.mpr ⟨gb_of (by omega) (by omega), ?_⟩
    refine ok_nm2 (fun v21_10 ev21_10 => ?_)
    have f31 : 0 ≤ (σ1_9.1 3 1).toInt ∧ (σ1_9.1 3 1).toInt ≤ 12 := hIσ1_9 3 1
    have qv21_10 : v21_10.toInt = (σ1_9.1 3 1).toInt := congrArg Int32.toInt ev21_10
    refine ok_ite.mpr ⟨fun h_32 => ?_, fun h_32 => ?_⟩
    · have g33 : v21_10.toInt ≤ a3_9.toInt := Int32.le_iff_toInt_le.mp h_32
      refine ok_nm2 (fun x23_10 ex23_10 => ?_)
      have qx23_10 : x23_10.toInt = (a2_1 + 1).toInt := congrArg Int32.toInt ex23_10
      have f34 : 0 ≤ (σ1_9.1 140 10).toInt ∧ (σ1_9.1 140 10).toInt ≤ 11 := hIσ1_9 140 10
      exact hrec_1 _ (a1_9, x23_10, σ1_9) (show (12 + 1 - x23_10.toInt).toNat < n_1 by omega) ⟨rfl, hIσ1_9, hfσ1_9, (show 0 ≤ x23_10.toInt by omega), (show x23_10.toInt ≤ 12 by omega), (show (σ1_9.1 140 10).toInt = (σ.1 140 10).toInt by omega)⟩
    · have g35 : ¬ v21_10.toInt ≤ a3_9.toInt := fun z => h_32 (Int32.le_iff_toInt_le.mpr z)
      refine ok_gd.mpr ⟨gb_of (by omega) (by omega), ?_⟩
      refine ok_nm2 (fun v24_10 ev24_10 => ?_)
      have qv24_10 : v24_10.toInt = (σ1_9.1 193 a2_1.toNatClampNeg).toInt := congrArg Int32.toInt ev24_10
      refine ok_gd.mpr ⟨gb_of (by omega) (by omega), ?_⟩
      refine ok_nm2 (fun v25_10 ev25_10 => ?_)
      have qv25_10 : v25_10.toInt = (σ1_9.1 193 a3_9.toNatClampNeg).toInt := congrArg Int32.toInt ev25_10
      refine ok_ite.mpr ⟨fun h_36 => ?_, fun h_36 => ?_⟩
      · have g37 : v24_10.toInt = v25_10.toInt := by rw [h_36]
        refine ok_nm2 (fun x27_10 ex27_10 => ?_)
        have f38 : (a3_9 + (1 : Int32)).toInt = a3_9.toInt + (1 : Int32).toInt := iadd_toInt (by omega) (by omega)
        have qx27_10 : x27_10.toInt = (a3_9 + 1).toInt := congrArg Int32.toInt ex27_10
        have f39 : 0 ≤ (σ1_9.1 140 10).toInt ∧ (σ1_9.1 140 10).toInt ≤ 11 := hIσ1_9 140 10
        exact hrec_9 _ (a1_9, x27_10, σ1_9) (show (12 + 1 - x27_10.toInt).toNat < n_9 by omega) ⟨rfl, hIσ1_9, hfσ1_9, (show 1 ≤ x27_10.toInt by omega), (show x27_10.toInt ≤ 12 by omega), (show (σ1_9.1 140 10).toInt = (σ.1 140 10).toInt by omega)⟩
      · have g40 : v24_10.toInt ≠ v25_10.toInt := fun z => h_36 (Int32.toInt_inj.mp z)
        refine ok_gd.mpr ⟨gb_of (by omega) (by omega), ?_⟩
        refine ok_gd.mpr ⟨gb_of (by omega) (by omega), ?_⟩
        refine ok_nm2 (fun v29_10 ev29_10 => ?_)
        have qv29_10 : v29_10.toInt = (σ1_9.1 (155 + a2_1.toNatClampNeg) a3_9.toNatClampNeg).toInt := congrArg Int32.toInt ev29_10
        refine ok_ite.mpr ⟨fun h_41 => ?_, fun h_41 => ?_⟩
        · have g42 : a1_9.toInt < v29_10.toInt := Int32.lt_iff_toInt_lt.mp h_41
          refine ok_gd.mpr ⟨gb_of (by omega) (by omega), ?_⟩
          refine ok_gd.mpr ⟨gb_of (by omega) (by omega), ?_⟩
          refine ok_nm2 (fun v32_10 ev32_10 => ?_)
          have qv32_10 : v32_10.toInt = (σ1_9.1 (155 + a2_1.toNatClampNeg) a3_9.toNatClampNeg).toInt := congrArg Int32.toInt ev32_10
          refine ok_nm.mpr ?_
          have f43 : 0 ≤ (σ1_9.1 140 10).toInt ∧ (σ1_9.1 140 10).toInt ≤ 11 := hIσ1_9 140 10
          refine ok_gd.mpr ⟨gb_of (by omega) (by omega), ?_⟩
          refine ok_nm2 (fun σ34_10_11 eσ34_10_11 => ?_)
          have hIσ34_10_11 : JC σ34_10_11 := by
            have hz : (σ1_9.1 140 10).toNatClampNeg = (σ1_9.1 140 10).toInt.toNat := rfl
            have hj : (σ1_9.1 140 10).toNatClampNeg = 0 ∨ (σ1_9.1 140 10).toNatClampNeg = 1 ∨ (σ1_9.1 140 10).toNatClampNeg = 2 ∨ (σ1_9.1 140 10).toNatClampNeg = 3 ∨ (σ1_9.1 140 10).toNatClampNeg = 4 ∨ (σ1_9.1 140 10).toNatClampNeg = 5 ∨ (σ1_9.1 140 10).toNatClampNeg = 6 ∨ (σ1_9.1 140 10).toNatClampNeg = 7 ∨ (σ1_9.1 140 10).toNatClampNeg = 8 ∨ (σ1_9.1 140 10).toNatClampNeg = 9 ∨ (σ1_9.1 140 10).toNatClampNeg = 10 ∨ (σ1_9.1 140 10).toNatClampNeg = 11 := by omega
            rw [eσ34_10_11]
            refine JC_w hIσ1_9 ?_ ?_
            · rcases hj with hj | hj | hj | hj | hj | hj | hj | hj | hj | hj | hj | hj <;> rw [hj]
              · show 0 ≤ _; omega
              · show 0 ≤ _; omega
              · show 0 ≤ _; omega
              · show 0 ≤ _; omega
              · show 0 ≤ _; omega
              · show 0 ≤ _; omega
              · show 0 ≤ _; omega
              · show 0 ≤ _; omega
              · show 0 ≤ _; omega
              · show 0 ≤ _; omega
              · show 0 ≤ _; omega
              · show 0 ≤ _; omega
            · rcases hj with hj | hj | hj | hj | hj | hj | hj | hj | hj | hj | hj | hj <;> rw [hj]
              · show _ ≤ 11; omega
              · show _ ≤ 11; omega
              · show _ ≤ 11; omega
              · show _ ≤ 11; omega
              · show _ ≤ 11; omega
              · show _ ≤ 11; omega
              · show _ ≤ 11; omega
              · show _ ≤ 11; omega
              · show _ ≤ 11; omega
              · show _ ≤ 11; omega
              · show _ ≤ 11; omega
              · show _ ≤ 11; omega
          have hfσ34_10_11 : Fr fr_fX7_addBranch σ σ34_10_11 := by rw [eσ34_10_11]; exact Fr_w0 hfσ1_9 (by decide)
          have sσ34_10_11_140_10 : (σ34_10_11.1 140 10).toInt = (σ1_9.1 140 10).toInt := by rw [eσ34_10_11]; rfl
          have f44 : 0 ≤ (σ34_10_11.1 140 10).toInt ∧ (σ34_10_11.1 140 10).toInt ≤ 11 := hIσ34_10_11 140 10
          refine ok_gd.mpr ⟨gb_of (by omega) (by omega), ?_⟩
          refine ok_nm2 (fun σ35_10_11 eσ35_10_11 => ?_)
          have hIσ35_10_11 : JC σ35_10_11 := by
            have hz : (σ34_10_11.1 140 10).toNatClampNeg = (σ34_10_11.1 140 10).toInt.toNat := rfl
            have hj : (σ34_10_11.1 140 10).toNatClampNeg = 0 ∨ (σ34_10_11.1 140 10).toNatClampNeg = 1 ∨ (σ34_10_11.1 140 10).toNatClampNeg = 2 ∨ (σ34_10_11.1 140 10).toNatClampNeg = 3 ∨ (σ34_10_11.1 140 10).toNatClampNeg = 4 ∨ (σ34_10_11.1 140 10).toNatClampNeg = 5 ∨ (σ34_10_11.1 140 10).toNatClampNeg = 6 ∨ (σ34_10_11.1 140 10).toNatClampNeg = 7 ∨ (σ34_10_11.1 140 10).toNatClampNeg = 8 ∨ (σ34_10_11.1 140 10).toNatClampNeg = 9 ∨ (σ34_10_11.1 140 10).toNatClampNeg = 10 ∨ (σ34_10_11.1 140 10).toNatClampNeg = 11 := by omega
            rw [eσ35_10_11]
            refine JC_w hIσ34_10_11 ?_ ?_
            · rcases hj with hj | hj | hj | hj | hj | hj | hj | hj | hj | hj | hj | hj <;> rw [hj]
              · show 0 ≤ _; omega
              · show 0 ≤ _; omega
              · show 0 ≤ _; omega
              · show 0 ≤ _; omega
              · show 0 ≤ _; omega
              · show 0 ≤ _; omega
              · show 0 ≤ _; omega
              · show 0 ≤ _; omega
              · show 0 ≤ _; omega
              · show 0 ≤ _; omega
              · show 0 ≤ _; omega
              · show 0 ≤ _; omega
            · rcases hj with hj | hj | hj | hj | hj | hj | hj | hj | hj | hj | hj | hj <;> rw [hj]
              · show _ ≤ 11; omega
              · show _ ≤ 11; omega
              · show _ ≤ 11; omega
              · show _ ≤ 11; omega
              · show _ ≤ 11; omega
              · show _ ≤ 11; omega
              · show _ ≤ 11; omega
              · show _ ≤ 11; omega
              · show _ ≤ 11; omega
              · show _ ≤ 11; omega
              · show _ ≤ 11; omega
              · show _ ≤ 11; omega
          have hfσ35_10_11 : Fr fr_fX7_addBranch σ σ35_10_11 := by rw [eσ35_10_11]; exact Fr_w0 hfσ34_10_11 (by decide)
          have sσ35_10_11_140_10 : (σ35_10_11.1 140 10).toInt = (σ34_10_11.1 140 10).toInt := by rw [eσ35_10_11]; rfl
          refine ok_nm2 (fun x36_10_11 ex36_10_11 => ?_)
          have f45 : (a3_9 + (1 : Int32)).toInt = a3_9.toInt + (1 : Int32).toInt := iadd_toInt (by omega) (by omega)
          have qx36_10_11 : x36_10_11.toInt = (a3_9 + 1).toInt := congrArg Int32.toInt ex36_10_11
          have f46 : 0 ≤ (σ35_10_11.1 140 10).toInt ∧ (σ35_10_11.1 140 10).toInt ≤ 11 := hIσ35_10_11 140 10
          exact hrec_9 _ (v32_10, x36_10_11, σ35_10_11) (show (12 + 1 - x36_10_11.toInt).toNat < n_9 by omega) ⟨rfl, hIσ35_10_11, hfσ35_10_11, (show 1 ≤ x36_10_11.toInt by omega), (show x36_10_11.toInt ≤ 12 by omega), (show (σ35_10_11.1 140 10).toInt = (σ.1 140 10).toInt by omega)⟩
        · have g47 : ¬ a1_9.toInt < v29_10.toInt := fun z => h_41 (Int32.lt_iff_toInt_lt.mpr z)
          refine ok_nm2 (fun x37_10 ex37_10 => ?_)
          have f48 : (a3_9 + (1 : Int32)).toInt = a3_9.toInt + (1 : Int32).toInt := iadd_toInt (by omega) (by omega)
          have qx37_10 : x37_10.toInt = (a3_9 + 1).toInt := congrArg Int32.toInt ex37_10
          have f49 : 0 ≤ (σ1_9.1 140 10).toInt ∧ (σ1_9.1 140 10).toInt ≤ 11 := hIσ1_9 140 10
          exact hrec_9 _ (a1_9, x37_10, σ1_9) (show (12 + 1 - x37_10.toInt).toNat < n_9 by omega) ⟨rfl, hIσ1_9, hfσ1_9, (show 1 ≤ x37_10.toInt by omega), (show x37_10.toInt ≤ 12 by omega), (show (σ1_9.1 140 10).toInt = (σ.1 140 10).toInt by omega)⟩
set_option maxRecDepth 20000 in
set_option maxHeartbeats 2000000 in
theorem o_fX7_growTree {σ : gS} (hIσ : JC σ)   : Ok (fX7_growTree σ ) (fun out => JC out ∧ Fr fr_fX7_growTree σ out) := by
  unfold fX7_growTree
  have hfσ : Fr fr_fX7_growTree σ σ := Fr_r
  have f1 : 0 ≤ (σ.1 140 10).toInt ∧ (σ.1 140 10).toInt ≤ 11 := hIσ 140 10
  refine ok_nm2 (fun σ1 eσ1 => ?_)
  have f2 : (0 : Int32).toInt = 0 := by decide
  have hIσ1 : JC σ1 := by rw [eσ1]; exact JC_w hIσ (show 0 ≤ _ by omega) (show _ ≤ 11 by omega)
  have hfσ1 : Fr fr_fX7_growTree σ σ1 := by rw [eσ1]; exact Fr_w hfσ (by decide)
  have sσ1_140_10 : (σ1.1 140 10).toInt = (0 : Int32).toInt := by rw [eσ1]; rfl
  refine ok_nm2 (fun x2 ex2 => ?_)
  have qx2 : x2.toInt = 0 := by rw [ex2]; decide
  have f3 : 0 ≤ (σ1.1 140 10).toInt ∧ (σ1.1 140 10).toInt ≤ 11 := hIσ1 140 10
  refine ok_lpc (I := fun n s => n = (12 + 1 - s.1.toInt).toNat ∧ JC s.2 ∧ Fr fr_fX7_growTree σ s.2 ∧ 0 ≤ s.1.toInt ∧ s.1.toInt ≤ 12 ∧ (s.2.1 140 10).toInt ≤ 0) (fun rec7_1r n_1 s_1 hs_1 hrec_1 => ?_) K9 ((12 + 1 - x2.toInt).toNat) (x2, σ1) ⟨rfl, hIσ1, hfσ1, (show 0 ≤ x2.toInt by omega), (show x2.toInt ≤ 12 by omega), (show (σ1.1 140 10).toInt ≤ 0 by omega)⟩ (by unfold K9; omega)
  obtain ⟨a1_1, σ1_1⟩ := s_1
  obtain ⟨hn_1, hIσ1_1, hfσ1_1, b0a1_1, b1a1_1, iv0_1⟩ := hs_1
  dsimp only at hn_1 hIσ1_1 hfσ1_1 b0a1_1 b1a1_1 iv0_1
  unfold bX7_growTree_7
  try dsimp only
  refine ok_ite.mpr ⟨fun h_4 => ?_, fun h_4 => ?_⟩
  · have f5 : (12 : Int32).toInt = 12 := by decide
    have g6 : (12 : Int32).toInt ≤ a1_1.toInt := Int32.le_iff_toInt_le.mp h_4
    refine ok_nm2 (fun x4_2 ex4_2 => ?_)
    have f7 : (1 : Int32).toInt = 1 := by decide
    have qx4_2 : x4_2.toInt = 1 := by rw [ex4_2]; decide
    have f8 : 0 ≤ (σ1_1.1 140 10).toInt ∧ (σ1_1.1 140 10).toInt ≤ 11 := hIσ1_1 140 10
    refine ok_lpc (I := fun n s => n = (12 + 1 - s.1.toInt).toNat ∧ JC s.2 ∧ Fr fr_fX7_growTree σ s.2 ∧ 1 ≤ s.1.toInt ∧ s.1.toInt ≤ 12 ∧ (s.2.1 140 10).toInt + 1 ≤ s.1.toInt) (fun rec28_3r n_3 s_3 hs_3 hrec_3 => ?_) K9 ((12 + 1 - x4_2.toInt).toNat) (x4_2, σ1_1) ⟨rfl, hIσ1_1, hfσ1_1, (show 1 ≤ x4_2.toInt by omega), (show x4_2.toInt ≤ 12 by omega), (show (σ1_1.1 140 10).toInt + 1 ≤ x4_2.toInt by omega)⟩ (by unfold K9; omega)
    obtain ⟨a1_3, σ1_3⟩ := s_3
    obtain ⟨hn_3, hIσ1_3, hfσ1_3, b0a1_3, b1a1_3, iv0_3⟩ := hs_3
    dsimp only at hn_3 hIσ1_3 hfσ1_3 b0a1_3 b1a1_3 iv0_3
    unfold bX7_growTree_28
    try dsimp only
    refine ok_gd.mpr ⟨gb_of (by omega) (by omega), ?_⟩
    refine ok_nm2 (fun v5_4 ev5_4 => ?_)
    have f9 : 0 ≤ (σ1_3.1 3 1).toInt ∧ (σ1_3.1 3 1).toInt ≤ 12 := hIσ1_3 3 1
    have qv5_4 : v5_4.toInt = (σ1_3.1 3 1).toInt := congrArg Int32.toInt ev5_4
    refine ok_ite.mpr ⟨fun h_10 => ?_, fun h_10 => ?_⟩
    · have g11 : v5_4.toInt ≤ a1_3.toInt := Int32.le_iff_toInt_le.mp h_10
      refine ok_some.mpr ?_
      exact ⟨hIσ1_3, hfσ1_3⟩
    · have g12 : ¬ v5_4.toInt ≤ a1_3.toInt := fun z => h_10 (Int32.le_iff_toInt_le.mpr z)
      refine ok_bd2.mpr ((o_fX7_addBranch hIσ1_3  (by omega)).mono (fun o_13 ho_14 => ?_))
      obtain ⟨r8_4, σ9_4⟩ := o_13
      obtain ⟨hIσ9_4, hcσ9_4, r0r8_4, r1r8_4, hp_15⟩ := ho_14
      dsimp only at hIσ9_4 hcσ9_4 r0r8_4 r1r8_4 hp_15 ⊢
      have hfσ9_4 : Fr fr_fX7_growTree σ σ9_4 := Fr_c hfσ1_3 hcσ9_4 (by decide)
      refine ok_ite.mpr ⟨fun h_16 => ?_, fun h_16 => ?_⟩
      · have g17 : r8_4.toInt = (0 : Int32).toInt := by rw [h_16]
        refine ok_some.mpr ?_
        exact ⟨hIσ9_4, hfσ9_4⟩
      · have g18 : r8_4.toInt ≠ (0 : Int32).toInt := fun z => h_16 (Int32.toInt_inj.mp z)
        refine ok_nm2 (fun x11_4 ex11_4 => ?_)
        have f19 : (a1_3 + (1 : Int32)).toInt = a1_3.toInt + (1 : Int32).toInt := iadd_toInt (by omega) (by omega)
        have qx11_4 : x11_4.toInt = (a1_3 + 1).toInt := congrArg Int32.toInt ex11_4
        have f20 : 0 ≤ (σ9_4.1 140 10).toInt ∧ (σ9_4.1 140 10).toInt ≤ 11 := hIσ9_4 140 10
        exact hrec_3 _ (x11_4, σ9_4) (show (12 + 1 - x11_4.toInt).toNat < n_3 by omega) ⟨rfl, hIσ9_4, hfσ9_4, (show 1 ≤ x11_4.toInt by omega), (show x11_4.toInt ≤ 12 by omega), (show (σ9_4.1 140 10).toInt + 1 ≤ x11_4.toInt by omega)⟩
  · have f21 : (12 : Int32).toInt = 12 := by decide
    have g22 : ¬ (12 : Int32).toInt ≤ a1_1.toInt := fun z => h_4 (Int32.le_iff_toInt_le.mpr z)
    refine ok_gd.mpr ⟨gb_of (by omega) (by omega), ?_⟩
    refine ok_nm2 (fun σ12_2 eσ12_2 => ?_)
    have hIσ12_2 : JC σ12_2 := by rw [eσ12_2]; exact JC_w hIσ1_1 (Int32.le_toInt _) (Int32.toInt_le _)
    have hfσ12_2 : Fr fr_fX7_growTree σ σ12_2 := by rw [eσ12_2]; exact Fr_w0 hfσ1_1 (by decide)
    have sσ12_2_140_10 : (σ12_2.1 140 10).toInt = (σ1_1.1 140 10).toInt := by rw [eσ12_2]; rfl
    refine ok_nm2 (fun x13_2 ex13_2 => ?_)
    have f23 : (1 : Int32).toInt = 1 := by decide
    have f24 : (a1_1 + (1 : Int32)).toInt = a1_1.toInt + (1 : Int32).toInt := iadd_toInt (by omega) (by omega)
    have qx13_2 : x13_2.toInt = (a1_1 + 1).toInt := congrArg Int32.toInt ex13_2
    have f25 : 0 ≤ (σ12_2.1 140 10).toInt ∧ (σ12_2.1 140 10).toInt ≤ 11 := hIσ12_2 140 10
    exact hrec_1 _ (x13_2, σ12_2) (show (12 + 1 - x13_2.toInt).toNat < n_1 by omega) ⟨rfl, hIσ12_2, hfσ12_2, (show 0 ≤ x13_2.toInt by omega), (show x13_2.toInt ≤ 12 by omega), (show (σ12_2.1 140 10).toInt ≤ 0 by omega)⟩
set_option maxRecDepth 20000 in
set_option maxHeartbeats 2000000 in
theorem o_fX9_tree {σ : gS} (hIσ : JC σ) {p1 : Int32}  : Ok (fX9_tree σ p1) (fun out => JC out.2 ∧ Fr fr_fX9_tree σ out.2 ∧ -1 ≤ out.1.toInt ∧ out.1.toInt ≤ 1111) := by
  unfold fX9_tree
  have hfσ : Fr fr_fX9_tree σ σ := Fr_r
  have f1 : 0 ≤ (σ.1 140 10).toInt ∧ (σ.1 140 10).toInt ≤ 11 := hIσ 140 10
  refine ok_bd.mpr ((o_fX7_survey hIσ  ).mono (fun σ2 ho_3 => ?_))
  obtain ⟨hIσ2, hcσ2⟩ := ho_3
  have hfσ2 : Fr fr_fX9_tree σ σ2 := Fr_c hfσ hcσ2 (by decide)
  have sσ2_140_10 : (σ2.1 140 10).toInt = (σ.1 140 10).toInt := by rw [(hcσ2 140 10 (by decide) (by decide)).1]
  refine ok_bd.mpr ((o_fX7_growTree hIσ2  ).mono (fun σ4 ho_5 => ?_))
  obtain ⟨hIσ4, hcσ4⟩ := ho_5
  have hfσ4 : Fr fr_fX9_tree σ σ4 := Fr_c hfσ2 hcσ4 (by decide)
  refine ok_ite.mpr ⟨fun h_6 => ?_, fun h_6 => ?_⟩
  · have f7 : (-1 : Int32).toInt = -1 := by decide
    have g8 : p1.toInt = (-1 : Int32).toInt := by rw [h_6]
    refine ok_some.mpr ?_
    have f9 : 0 ≤ (σ4.1 140 10).toInt ∧ (σ4.1 140 10).toInt ≤ 11 := hIσ4 140 10
    exact ⟨hIσ4, hfσ4, (show -1 ≤ (σ4.1 140 10).toInt by omega), (show (σ4.1 140 10).toInt ≤ 1111 by omega)⟩
  · have f10 : (-1 : Int32).toInt = -1 := by decide
    have g11 : p1.toInt ≠ (-1 : Int32).toInt := fun z => h_6 (Int32.toInt_inj.mp z)
    refine ok_ite.mpr ⟨fun h_12 => ?_, fun h_12 => ?_⟩
    · have f13 : (0 : Int32).toInt = 0 := by decide
      have g14 : p1.toInt < (0 : Int32).toInt := Int32.lt_iff_toInt_lt.mp h_12
      refine ok_some.mpr ?_
      exact ⟨hIσ4, hfσ4, (show -1 ≤ (-1 : Int32).toInt by omega), (show (-1 : Int32).toInt ≤ 1111 by omega)⟩
    · have f15 : (0 : Int32).toInt = 0 := by decide
      have g16 : ¬ p1.toInt < (0 : Int32).toInt := fun z => h_12 (Int32.lt_iff_toInt_lt.mpr z)
      refine ok_ite.mpr ⟨fun h_17 => ?_, fun h_17 => ?_⟩
      · have f18 : 0 ≤ (σ4.1 140 10).toInt ∧ (σ4.1 140 10).toInt ≤ 11 := hIσ4 140 10
        have g19 : p1.toInt < (σ4.1 140 10).toInt := Int32.lt_iff_toInt_lt.mp h_17
        refine ok_gd.mpr ⟨gb_of (by omega) (by omega), ?_⟩
        refine ok_nm2 (fun v8 ev8 => ?_)
        have f21 : p1.toNatClampNeg = p1.toInt.toNat := rfl
        have f21_ : (p1.toNatClampNeg = 0 ∧ 0 ≤ (σ4.1 194 p1.toNatClampNeg).toInt ∧ (σ4.1 194 p1.toNatClampNeg).toInt ≤ 11) ∨ (p1.toNatClampNeg = 1 ∧ 0 ≤ (σ4.1 194 p1.toNatClampNeg).toInt ∧ (σ4.1 194 p1.toNatClampNeg).toInt ≤ 11) ∨ (p1.toNatClampNeg = 2 ∧ 0 ≤ (σ4.1 194 p1.toNatClampNeg).toInt ∧ (σ4.1 194 p1.toNatClampNeg).toInt ≤ 11) ∨ (p1.toNatClampNeg = 3 ∧ 0 ≤ (σ4.1 194 p1.toNatClampNeg).toInt ∧ (σ4.1 194 p1.toNatClampNeg).toInt ≤ 11) ∨ (p1.toNatClampNeg = 4 ∧ 0 ≤ (σ4.1 194 p1.toNatClampNeg).toInt ∧ (σ4.1 194 p1.toNatClampNeg).toInt ≤ 11) ∨ (p1.toNatClampNeg = 5 ∧ 0 ≤ (σ4.1 194 p1.toNatClampNeg).toInt ∧ (σ4.1 194 p1.toNatClampNeg).toInt ≤ 11) ∨ (p1.toNatClampNeg = 6 ∧ 0 ≤ (σ4.1 194 p1.toNatClampNeg).toInt ∧ (σ4.1 194 p1.toNatClampNeg).toInt ≤ 11) ∨ (p1.toNatClampNeg = 7 ∧ 0 ≤ (σ4.1 194 p1.toNatClampNeg).toInt ∧ (σ4.1 194 p1.toNatClampNeg).toInt ≤ 11) ∨ (p1.toNatClampNeg = 8 ∧ 0 ≤ (σ4.1 194 p1.toNatClampNeg).toInt ∧ (σ4.1 194 p1.toNatClampNeg).toInt ≤ 11) ∨ (p1.toNatClampNeg = 9 ∧ 0 ≤ (σ4.1 194 p1.toNatClampNeg).toInt ∧ (σ4.1 194 p1.toNatClampNeg).toInt ≤ 11) ∨ (p1.toNatClampNeg = 10 ∧ 0 ≤ (σ4.1 194 p1.toNatClampNeg).toInt ∧ (σ4.1 194 p1.toNatClampNeg).toInt ≤ 11) := by
          have hb := hIσ4 194 p1.toNatClampNeg
          have hj : p1.toNatClampNeg = 0 ∨ p1.toNatClampNeg = 1 ∨ p1.toNatClampNeg = 2 ∨ p1.toNatClampNeg = 3 ∨ p1.toNatClampNeg = 4 ∨ p1.toNatClampNeg = 5 ∨ p1.toNatClampNeg = 6 ∨ p1.toNatClampNeg = 7 ∨ p1.toNatClampNeg = 8 ∨ p1.toNatClampNeg = 9 ∨ p1.toNatClampNeg = 10 := by omega
          generalize p1.toNatClampNeg = j at hb hj ⊢
          rcases hj with rfl | rfl | rfl | rfl | rfl | rfl | rfl | rfl | rfl | rfl | rfl
          · exact .inl ⟨rfl, hb.1, hb.2⟩
          · exact .inr (.inl ⟨rfl, hb.1, hb.2⟩)
          · exact .inr (.inr (.inl ⟨rfl, hb.1, hb.2⟩))
          · exact .inr (.inr (.inr (.inl ⟨rfl, hb.1, hb.2⟩)))
          · exact .inr (.inr (.inr (.inr (.inl ⟨rfl, hb.1, hb.2⟩))))
          · exact .inr (.inr (.inr (.inr (.inr (.inl ⟨rfl, hb.1, hb.2⟩)))))
          · exact .inr (.inr (.inr (.inr (.inr (.inr (.inl ⟨rfl, hb.1, hb.2⟩))))))
          · exact .inr (.inr (.inr (.inr (.inr (.inr (.inr (.inl ⟨rfl, hb.1, hb.2⟩)))))))
          · exact .inr (.inr (.inr (.inr (.inr (.inr (.inr (.inr (.inl ⟨rfl, hb.1, hb.2⟩))))))))
          · exact .inr (.inr (.inr (.inr (.inr (.inr (.inr (.inr (.inr (.inl ⟨rfl, hb.1, hb.2⟩)))))))))
          · exact .inr (.inr (.inr (.inr (.inr (.inr (.inr (.inr (.inr (.inr (⟨rfl, hb.1, hb.2⟩))))))))))
        have qv8 : v8.toInt = (σ4.1 194 p1.toNatClampNeg).toInt := congrArg Int32.toInt ev8
        refine ok_gd.mpr ⟨gb_of (by omega) (by omega), ?_⟩
        refine ok_nm2 (fun v9 ev9 => ?_)
        have f22_ : (p1.toNatClampNeg = 0 ∧ 0 ≤ (σ4.1 195 p1.toNatClampNeg).toInt ∧ (σ4.1 195 p1.toNatClampNeg).toInt ≤ 11) ∨ (p1.toNatClampNeg = 1 ∧ 0 ≤ (σ4.1 195 p1.toNatClampNeg).toInt ∧ (σ4.1 195 p1.toNatClampNeg).toInt ≤ 11) ∨ (p1.toNatClampNeg = 2 ∧ 0 ≤ (σ4.1 195 p1.toNatClampNeg).toInt ∧ (σ4.1 195 p1.toNatClampNeg).toInt ≤ 11) ∨ (p1.toNatClampNeg = 3 ∧ 0 ≤ (σ4.1 195 p1.toNatClampNeg).toInt ∧ (σ4.1 195 p1.toNatClampNeg).toInt ≤ 11) ∨ (p1.toNatClampNeg = 4 ∧ 0 ≤ (σ4.1 195 p1.toNatClampNeg).toInt ∧ (σ4.1 195 p1.toNatClampNeg).toInt ≤ 11) ∨ (p1.toNatClampNeg = 5 ∧ 0 ≤ (σ4.1 195 p1.toNatClampNeg).toInt ∧ (σ4.1 195 p1.toNatClampNeg).toInt ≤ 11) ∨ (p1.toNatClampNeg = 6 ∧ 0 ≤ (σ4.1 195 p1.toNatClampNeg).toInt ∧ (σ4.1 195 p1.toNatClampNeg).toInt ≤ 11) ∨ (p1.toNatClampNeg = 7 ∧ 0 ≤ (σ4.1 195 p1.toNatClampNeg).toInt ∧ (σ4.1 195 p1.toNatClampNeg).toInt ≤ 11) ∨ (p1.toNatClampNeg = 8 ∧ 0 ≤ (σ4.1 195 p1.toNatClampNeg).toInt ∧ (σ4.1 195 p1.toNatClampNeg).toInt ≤ 11) ∨ (p1.toNatClampNeg = 9 ∧ 0 ≤ (σ4.1 195 p1.toNatClampNeg).toInt ∧ (σ4.1 195 p1.toNatClampNeg).toInt ≤ 11) ∨ (p1.toNatClampNeg = 10 ∧ 0 ≤ (σ4.1 195 p1.toNatClampNeg).toInt ∧ (σ4.1 195 p1.toNatClampNeg).toInt ≤ 11) := by
          have hb := hIσ4 195 p1.toNatClampNeg
          have hj : p1.toNatClampNeg = 0 ∨ p1.toNatClampNeg = 1 ∨ p1.toNatClampNeg = 2 ∨ p1.toNatClampNeg = 3 ∨ p1.toNatClampNeg = 4 ∨ p1.toNatClampNeg = 5 ∨ p1.toNatClampNeg = 6 ∨ p1.toNatClampNeg = 7 ∨ p1.toNatClampNeg = 8 ∨ p1.toNatClampNeg = 9 ∨ p1.toNatClampNeg = 10 := by omega
          generalize p1.toNatClampNeg = j at hb hj ⊢
          rcases hj with rfl | rfl | rfl | rfl | rfl | rfl | rfl | rfl | rfl | rfl | rfl
          · exact .inl ⟨rfl, hb.1, hb.2⟩
          · exact .inr (.inl ⟨rfl, hb.1, hb.2⟩)
          · exact .inr (.inr (.inl ⟨rfl, hb.1, hb.2⟩))
          · exact .inr (.inr (.inr (.inl ⟨rfl, hb.1, hb.2⟩)))
          · exact .inr (.inr (.inr (.inr (.inl ⟨rfl, hb.1, hb.2⟩))))
          · exact .inr (.inr (.inr (.inr (.inr (.inl ⟨rfl, hb.1, hb.2⟩)))))
          · exact .inr (.inr (.inr (.inr (.inr (.inr (.inl ⟨rfl, hb.1, hb.2⟩))))))
          · exact .inr (.inr (.inr (.inr (.inr (.inr (.inr (.inl ⟨rfl, hb.1, hb.2⟩)))))))
          · exact .inr (.inr (.inr (.inr (.inr (.inr (.inr (.inr (.inl ⟨rfl, hb.1, hb.2⟩))))))))
          · exact .inr (.inr (.inr (.inr (.inr (.inr (.inr (.inr (.inr (.inl ⟨rfl, hb.1, hb.2⟩)))))))))
          · exact .inr (.inr (.inr (.inr (.inr (.inr (.inr (.inr (.inr (.inr (⟨rfl, hb.1, hb.2⟩))))))))))
        have qv9 : v9.toInt = (σ4.1 195 p1.toNatClampNeg).toInt := congrArg Int32.toInt ev9
        refine ok_some.mpr ?_
        have f23 : (100 : Int32).toInt = 100 := by decide
        have f24 : ((100 : Int32) * v8).toInt = 100 * v8.toInt := imulc (by decide) (by omega) (by omega)
        have f25 : ((100 * v8) + v9).toInt = (100 * v8).toInt + v9.toInt := iadd_toInt (by omega) (by omega)
        exact ⟨hIσ4, hfσ4, (show -1 ≤ ((100 * v8) + v9).toInt by omega), (show ((100 * v8) + v9).toInt ≤ 1111 by omega)⟩
      · have f26 : 0 ≤ (σ4.1 140 10).toInt ∧ (σ4.1 140 10).toInt ≤ 11 := hIσ4 140 10
        have g27 : ¬ p1.toInt < (σ4.1 140 10).toInt := fun z => h_17 (Int32.lt_iff_toInt_lt.mpr z)
        refine ok_some.mpr ?_
        exact ⟨hIσ4, hfσ4, (show -1 ≤ (-1 : Int32).toInt by omega), (show (-1 : Int32).toInt ≤ 1111 by omega)⟩
set_option maxRecDepth 20000 in
set_option maxHeartbeats 2000000 in
theorem o_fX7_markPlanned {σ : gS} (hIσ : JC σ) {p1 : Int32} {p2 : Int32} {p3 : Int32} (h0p1 : 0 ≤ p1.toInt) (h1p1 : p1.toInt ≤ 11) (h0p2 : 0 ≤ p2.toInt) (h1p2 : p2.toInt ≤ 11) : Ok (fX7_markPlanned σ p1 p2 p3) (fun out => JC out ∧ Fr fr_fX7_markPlanned σ out) := by
  unfold fX7_markPlanned
  have hfσ : Fr fr_fX7_markPlanned σ σ := Fr_r
  refine ok_nm2 (fun x1 ex1 => ?_)
  have f1 : (0 : Int32).toInt = 0 := by decide
  have qx1 : x1.toInt = 0 := by rw [ex1]; decide
  refine ok_nm2 (fun x2 ex2 => ?_)
  have qx2 : x2.toInt = 0 := by rw [ex2]; decide
  refine ok_lpc (I := fun n s => n = (20 + 1 - s.2.1.toInt).toNat ∧ JC s.2.2 ∧ Fr fr_fX7_markPlanned σ s.2.2 ∧ 0 ≤ s.1.toInt ∧ s.1.toInt ≤ 2147483647 ∧ 0 ≤ s.2.1.toInt ∧ s.2.1.toInt ≤ 20 ∧ s.1.toInt ≤ s.2.1.toInt) (fun rec6_1r n_1 s_1 hs_1 hrec_1 => ?_) K9 ((20 + 1 - x2.toInt).toNat) (x1, x2, σ) ⟨rfl, hIσ, hfσ, (show 0 ≤ x1.toInt by omega), (show x1.toInt ≤ 2147483647 by omega), (show 0 ≤ x2.toInt by omega), (show x2.toInt ≤ 20 by omega), (show x1.toInt ≤ x2.toInt by omega)⟩ (by unfold K9; omega)
  obtain ⟨a4_1, a5_1, σ1_1⟩ := s_1
  obtain ⟨hn_1, hIσ1_1, hfσ1_1, b0a4_1, b1a4_1, b0a5_1, b1a5_1, iv0_1⟩ := hs_1
  dsimp only at hn_1 hIσ1_1 hfσ1_1 b0a4_1 b1a4_1 b0a5_1 b1a5_1 iv0_1
  unfold bX7_markPlanned_6
  try dsimp only
  have f2 : (2 : Int32).toInt = 2 := by decide
  refine ok_gd.mpr ⟨gb_of (by omega) (by omega), ?_⟩
  refine ok_nm2 (fun v3_2 ev3_2 => ?_)
  have f3 : 0 ≤ (σ1_1.1 3 2).toInt ∧ (σ1_1.1 3 2).toInt ≤ 20 := hIσ1_1 3 2
  have qv3_2 : v3_2.toInt = (σ1_1.1 3 2).toInt := congrArg Int32.toInt ev3_2
  refine ok_ite.mpr ⟨fun h_4 => ?_, fun h_4 => ?_⟩
  · have g5 : v3_2.toInt ≤ a5_1.toInt := Int32.le_iff_toInt_le.mp h_4
    refine ok_some.mpr ?_
    exact ⟨hIσ1_1, hfσ1_1⟩
  · have g6 : ¬ v3_2.toInt ≤ a5_1.toInt := fun z => h_4 (Int32.le_iff_toInt_le.mpr z)
    refine ok_ite.mpr ⟨fun h_7 => ?_, fun h_7 => ?_⟩
    · have g8 : p3.toInt ≤ a4_1.toInt := Int32.le_iff_toInt_le.mp h_7
      refine ok_some.mpr ?_
      exact ⟨hIσ1_1, hfσ1_1⟩
    · have g9 : ¬ p3.toInt ≤ a4_1.toInt := fun z => h_7 (Int32.le_iff_toInt_le.mpr z)
      refine ok_gd.mpr ⟨gb_of (by omega) (by omega), ?_⟩
      refine ok_gd.mpr ⟨gb_of (by omega) (by omega), ?_⟩
      refine ok_nm2 (fun v7_2 ev7_2 => ?_)
      have f10 : p1.toNatClampNeg = p1.toInt.toNat := rfl
      have f11 : -1 ≤ (σ1_1.1 (142 + p1.toNatClampNeg) a5_1.toNatClampNeg).toInt ∧ (σ1_1.1 (142 + p1.toNatClampNeg) a5_1.toNatClampNeg).toInt ≤ 59 := JC_r142 hIσ1_1 (by omega) (by omega) _
      have qv7_2 : v7_2.toInt = (σ1_1.1 (142 + p1.toNatClampNeg) a5_1.toNatClampNeg).toInt := congrArg Int32.toInt ev7_2
      refine ok_nm.mpr ?_
      refine ok_gd.mpr ⟨gb_of (by omega) (by omega), ?_⟩
      refine ok_gd.mpr ⟨gb_of (by omega) (by omega), ?_⟩
      refine ok_nm2 (fun v10_2_3 ev10_2_3 => ?_)
      have f12 : p2.toNatClampNeg = p2.toInt.toNat := rfl
      have f13 : -1 ≤ (σ1_1.1 (142 + p2.toNatClampNeg) a5_1.toNatClampNeg).toInt ∧ (σ1_1.1 (142 + p2.toNatClampNeg) a5_1.toNatClampNeg).toInt ≤ 59 := JC_r142 hIσ1_1 (by omega) (by omega) _
      have qv10_2_3 : v10_2_3.toInt = (σ1_1.1 (142 + p2.toNatClampNeg) a5_1.toNatClampNeg).toInt := congrArg Int32.toInt ev10_2_3
      refine ok_nm.mpr ?_
      refine ok_ite.mpr ⟨fun h_14 => ?_, fun h_14 => ?_⟩
      · have f15 : (-1 : Int32).toInt = -1 := by decide
        have g16 : v7_2.toInt = (-1 : Int32).toInt := by rw [h_14]
        refine ok_nm2 (fun x13_2_3_4 ex13_2_3_4 => ?_)
        have f17 : (1 : Int32).toInt = 1 := by decide
        have f18 : (a5_1 + (1 : Int32)).toInt = a5_1.toInt + (1 : Int32).toInt := iadd_toInt (by omega) (by omega)
        have qx13_2_3_4 : x13_2_3_4.toInt = (a5_1 + 1).toInt := congrArg Int32.toInt ex13_2_3_4
        exact hrec_1 _ (a4_1, x13_2_3_4, σ1_1) (show (20 + 1 - x13_2_3_4.toInt).toNat < n_1 by omega) ⟨rfl, hIσ1_1, hfσ1_1, (show 0 ≤ a4_1.toInt by omega), (show a4_1.toInt ≤ 2147483647 by omega), (show 0 ≤ x13_2_3_4.toInt by omega), (show x13_2_3_4.toInt ≤ 20 by omega), (show a4_1.toInt ≤ x13_2_3_4.toInt by omega)⟩
      · have f19 : (-1 : Int32).toInt = -1 := by decide
        have g20 : v7_2.toInt ≠ (-1 : Int32).toInt := fun z => h_14 (Int32.toInt_inj.mp z)
        refine ok_ite.mpr ⟨fun h_21 => ?_, fun h_21 => ?_⟩
        · have g22 : v10_2_3.toInt = (-1 : Int32).toInt := by rw [h_21]
          refine ok_nm2 (fun x19_2_3_4 ex19_2_3_4 => ?_)
          have f23 : (1 : Int32).toInt = 1 := by decide
          have f24 : (a5_1 + (1 : Int32)).toInt = a5_1.toInt + (1 : Int32).toInt := iadd_toInt (by omega) (by omega)
          have qx19_2_3_4 : x19_2_3_4.toInt = (a5_1 + 1).toInt := congrArg Int32.toInt ex19_2_3_4
          exact hrec_1 _ (a4_1, x19_2_3_4, σ1_1) (show (20 + 1 - x19_2_3_4.toInt).toNat < n_1 by omega) ⟨rfl, hIσ1_1, hfσ1_1, (show 0 ≤ a4_1.toInt by omega), (show a4_1.toInt ≤ 2147483647 by omega), (show 0 ≤ x19_2_3_4.toInt by omega), (show x19_2_3_4.toInt ≤ 20 by omega), (show a4_1.toInt ≤ x19_2_3_4.toInt by omega)⟩
        · have g25 : v10_2_3.toInt ≠ (-1 : Int32).toInt := fun z => h_21 (Int32.toInt_inj.mp z)
          refine ok_gd.mpr ⟨gb_of (by omega) (by omega), ?_⟩
          refine ok_nm2 (fun σ15_2_3_4 eσ15_2_3_4 => ?_)
          have hIσ15_2_3_4 : JC σ15_2_3_4 := by rw [eσ15_2_3_4]; exact JC_w hIσ1_1 (Int32.le_toInt _) (Int32.toInt_le _)
          have hfσ15_2_3_4 : Fr fr_fX7_markPlanned σ σ15_2_3_4 := by rw [eσ15_2_3_4]; exact Fr_w0 hfσ1_1 (by decide)
          refine ok_gd.mpr ⟨gb_of (by omega) (by omega), ?_⟩
          refine ok_nm2 (fun σ16_2_3_4 eσ16_2_3_4 => ?_)
          have hIσ16_2_3_4 : JC σ16_2_3_4 := by rw [eσ16_2_3_4]; exact JC_w hIσ15_2_3_4 (Int32.le_toInt _) (Int32.toInt_le _)
          have hfσ16_2_3_4 : Fr fr_fX7_markPlanned σ σ16_2_3_4 := by rw [eσ16_2_3_4]; exact Fr_w0 hfσ15_2_3_4 (by decide)
          refine ok_nm2 (fun x17_2_3_4 ex17_2_3_4 => ?_)
          have f26 : (1 : Int32).toInt = 1 := by decide
          have f27 : (a4_1 + (1 : Int32)).toInt = a4_1.toInt + (1 : Int32).toInt := iadd_toInt (by omega) (by omega)
          have qx17_2_3_4 : x17_2_3_4.toInt = (a4_1 + 1).toInt := congrArg Int32.toInt ex17_2_3_4
          refine ok_nm2 (fun x18_2_3_4 ex18_2_3_4 => ?_)
          have f28 : (a5_1 + (1 : Int32)).toInt = a5_1.toInt + (1 : Int32).toInt := iadd_toInt (by omega) (by omega)
          have qx18_2_3_4 : x18_2_3_4.toInt = (a5_1 + 1).toInt := congrArg Int32.toInt ex18_2_3_4
          exact hrec_1 _ (x17_2_3_4, x18_2_3_4, σ16_2_3_4) (show (20 + 1 - x18_2_3_4.toInt).toNat < n_1 by omega) ⟨rfl, hIσ16_2_3_4, hfσ16_2_3_4, (show 0 ≤ x17_2_3_4.toInt by omega), (show x17_2_3_4.toInt ≤ 2147483647 by omega), (show 0 ≤ x18_2_3_4.toInt by omega), (show x18_2_3_4.toInt ≤ 20 by omega), (show x17_2_3_4.toInt ≤ x18_2_3_4.toInt by omega)⟩
set_option maxRecDepth 20000 in
set_option maxHeartbeats 2000000 in
theorem o_fX7_countPlanned {σ : gS} (hIσ : JC σ) {p1 : Int32}  : Ok (fX7_countPlanned σ p1) (fun out => JC out.2 ∧ Fr fr_fX7_countPlanned σ out.2) := by
  unfold fX7_countPlanned
  have hfσ : Fr fr_fX7_countPlanned σ σ := Fr_r
  have f1 : 0 ≤ (σ.1 140 10).toInt ∧ (σ.1 140 10).toInt ≤ 11 := hIσ 140 10
  refine ok_bd.mpr ((o_fill (c := 196) (v := (0 : Int32)) hIσ (by decide) (fun i => ⟨show -2147483648 ≤ (0 : Int32).toInt by decide, show (0 : Int32).toInt ≤ 2147483647 by decide⟩)).mono (fun σ2 ho_2 => ?_))
  obtain ⟨hIσ2, hcσ2, hvσ2⟩ := ho_2
  have hfσ2 : Fr fr_fX7_countPlanned σ σ2 := Fr_c hfσ hcσ2 (by decide)
  have sσ2_140_10 : (σ2.1 140 10).toInt = (σ.1 140 10).toInt := by rw [(hcσ2 140 10 (by simp) (by simp)).1]
  refine ok_nm2 (fun x3 ex3 => ?_)
  have f3 : (0 : Int32).toInt = 0 := by decide
  have qx3 : x3.toInt = 0 := by rw [ex3]; decide
  refine ok_lpc (I := fun n s => n = (11 + 1 - s.1.toInt).toNat ∧ JC s.2 ∧ Fr fr_fX7_countPlanned σ s.2 ∧ 0 ≤ s.1.toInt ∧ s.1.toInt ≤ 11) (fun rec10_1r n_1 s_1 hs_1 hrec_1 => ?_) K9 ((11 + 1 - x3.toInt).toNat) (x3, σ2) ⟨rfl, hIσ2, hfσ2, (show 0 ≤ x3.toInt by omega), (show x3.toInt ≤ 11 by omega)⟩ (by unfold K9; omega)
  obtain ⟨a2_1, σ1_1⟩ := s_1
  obtain ⟨hn_1, hIσ1_1, hfσ1_1, b0a2_1, b1a2_1⟩ := hs_1
  dsimp only at hn_1 hIσ1_1 hfσ1_1 b0a2_1 b1a2_1
  unfold bX7_countPlanned_10
  try dsimp only
  refine ok_ite.mpr ⟨fun h_4 => ?_, fun h_4 => ?_⟩
  · have f5 : 0 ≤ (σ1_1.1 140 10).toInt ∧ (σ1_1.1 140 10).toInt ≤ 11 := hIσ1_1 140 10
    have g6 : (σ1_1.1 140 10).toInt ≤ a2_1.toInt := Int32.le_iff_toInt_le.mp h_4
    refine ok_nm2 (fun x5_2 ex5_2 => ?_)
    have qx5_2 : x5_2.toInt = 0 := by rw [ex5_2]; decide
    refine ok_nm2 (fun x6_2 ex6_2 => ?_)
    have qx6_2 : x6_2.toInt = 0 := by rw [ex6_2]; decide
    refine ok_lpc (I := fun n s => n = (60 + 1 - s.2.toInt).toNat ∧ 0 ≤ s.2.toInt ∧ s.2.toInt ≤ 60) (fun rec45_3r n_3 s_3 hs_3 hrec_3 => ?_) K9 ((60 + 1 - x6_2.toInt).toNat) (x5_2, x6_2) ⟨rfl, (show 0 ≤ x6_2.toInt by omega), (show x6_2.toInt ≤ 60 by omega)⟩ (by unfold K9; omega)
    obtain ⟨a2_3, a3_3⟩ := s_3
    obtain ⟨hn_3, b0a3_3, b1a3_3⟩ := hs_3
    dsimp only at hn_3 b0a3_3 b1a3_3
    unfold bX7_countPlanned_45
    try dsimp only
    have f7 : (3 : Int32).toInt = 3 := by decide
    refine ok_gd.mpr ⟨gb_of (by omega) (by omega), ?_⟩
    refine ok_nm2 (fun v7_4 ev7_4 => ?_)
    have f8 : 0 ≤ (σ1_1.1 3 3).toInt ∧ (σ1_1.1 3 3).toInt ≤ 60 := hIσ1_1 3 3
    have qv7_4 : v7_4.toInt = (σ1_1.1 3 3).toInt := congrArg Int32.toInt ev7_4
    refine ok_ite.mpr ⟨fun h_9 => ?_, fun h_9 => ?_⟩
    · have g10 : v7_4.toInt ≤ a3_3.toInt := Int32.le_iff_toInt_le.mp h_9
      refine ok_some.mpr ?_
      exact ⟨hIσ1_1, hfσ1_1⟩
    · have g11 : ¬ v7_4.toInt ≤ a3_3.toInt := fun z => h_9 (Int32.le_iff_toInt_le.mpr z)
      refine ok_gd.mpr ⟨gb_of (by omega) (by omega), ?_⟩
      refine ok_nm2 (fun v9_4 ev9_4 => ?_)
      have qv9_4 : v9_4.toInt = (σ1_1.1 196 a3_3.toNatClampNeg).toInt := congrArg Int32.toInt ev9_4
      refine ok_nm2 (fun x10_4 ex10_4 => ?_)
      have qx10_4 : x10_4.toInt = (a2_3 + v9_4).toInt := congrArg Int32.toInt ex10_4
      refine ok_nm2 (fun x11_4 ex11_4 => ?_)
      have f12 : (1 : Int32).toInt = 1 := by decide
      have f13 : (a3_3 + (1 : Int32)).toInt = a3_3.toInt + (1 : Int32).toInt := iadd_toInt (by omega) (by omega)
      have qx11_4 : x11_4.toInt = (a3_3 + 1).toInt := congrArg Int32.toInt ex11_4
      exact hrec_3 _ (x10_4, x11_4) (show (60 + 1 - x11_4.toInt).toNat < n_3 by omega) ⟨rfl, (show 0 ≤ x11_4.toInt by omega), (show x11_4.toInt ≤ 60 by omega)⟩
  · have f14 : 0 ≤ (σ1_1.1 140 10).toInt ∧ (σ1_1.1 140 10).toInt ≤ 11 := hIσ1_1 140 10
    have g15 : ¬ (σ1_1.1 140 10).toInt ≤ a2_1.toInt := fun z => h_4 (Int32.le_iff_toInt_le.mpr z)
    refine ok_gd.mpr ⟨gb_of (by omega) (by omega), ?_⟩
    refine ok_nm2 (fun v12_2 ev12_2 => ?_)
    have f17 : a2_1.toNatClampNeg = a2_1.toInt.toNat := rfl
    have f17_ : (a2_1.toNatClampNeg = 0 ∧ 0 ≤ (σ1_1.1 194 a2_1.toNatClampNeg).toInt ∧ (σ1_1.1 194 a2_1.toNatClampNeg).toInt ≤ 11) ∨ (a2_1.toNatClampNeg = 1 ∧ 0 ≤ (σ1_1.1 194 a2_1.toNatClampNeg).toInt ∧ (σ1_1.1 194 a2_1.toNatClampNeg).toInt ≤ 11) ∨ (a2_1.toNatClampNeg = 2 ∧ 0 ≤ (σ1_1.1 194 a2_1.toNatClampNeg).toInt ∧ (σ1_1.1 194 a2_1.toNatClampNeg).toInt ≤ 11) ∨ (a2_1.toNatClampNeg = 3 ∧ 0 ≤ (σ1_1.1 194 a2_1.toNatClampNeg).toInt ∧ (σ1_1.1 194 a2_1.toNatClampNeg).toInt ≤ 11) ∨ (a2_1.toNatClampNeg = 4 ∧ 0 ≤ (σ1_1.1 194 a2_1.toNatClampNeg).toInt ∧ (σ1_1.1 194 a2_1.toNatClampNeg).toInt ≤ 11) ∨ (a2_1.toNatClampNeg = 5 ∧ 0 ≤ (σ1_1.1 194 a2_1.toNatClampNeg).toInt ∧ (σ1_1.1 194 a2_1.toNatClampNeg).toInt ≤ 11) ∨ (a2_1.toNatClampNeg = 6 ∧ 0 ≤ (σ1_1.1 194 a2_1.toNatClampNeg).toInt ∧ (σ1_1.1 194 a2_1.toNatClampNeg).toInt ≤ 11) ∨ (a2_1.toNatClampNeg = 7 ∧ 0 ≤ (σ1_1.1 194 a2_1.toNatClampNeg).toInt ∧ (σ1_1.1 194 a2_1.toNatClampNeg).toInt ≤ 11) ∨ (a2_1.toNatClampNeg = 8 ∧ 0 ≤ (σ1_1.1 194 a2_1.toNatClampNeg).toInt ∧ (σ1_1.1 194 a2_1.toNatClampNeg).toInt ≤ 11) ∨ (a2_1.toNatClampNeg = 9 ∧ 0 ≤ (σ1_1.1 194 a2_1.toNatClampNeg).toInt ∧ (σ1_1.1 194 a2_1.toNatClampNeg).toInt ≤ 11) ∨ (a2_1.toNatClampNeg = 10 ∧ 0 ≤ (σ1_1.1 194 a2_1.toNatClampNeg).toInt ∧ (σ1_1.1 194 a2_1.toNatClampNeg).toInt ≤ 11) := by
      have hb := hIσ1_1 194 a2_1.toNatClampNeg
      have hj : a2_1.toNatClampNeg = 0 ∨ a2_1.toNatClampNeg = 1 ∨ a2_1.toNatClampNeg = 2 ∨ a2_1.toNatClampNeg = 3 ∨ a2_1.toNatClampNeg = 4 ∨ a2_1.toNatClampNeg = 5 ∨ a2_1.toNatClampNeg = 6 ∨ a2_1.toNatClampNeg = 7 ∨ a2_1.toNatClampNeg = 8 ∨ a2_1.toNatClampNeg = 9 ∨ a2_1.toNatClampNeg = 10 := by omega
      generalize a2_1.toNatClampNeg = j at hb hj ⊢
      rcases hj with rfl | rfl | rfl | rfl | rfl | rfl | rfl | rfl | rfl | rfl | rfl
      · exact .inl ⟨rfl, hb.1, hb.2⟩
      · exact .inr (.inl ⟨rfl, hb.1, hb.2⟩)
      · exact .inr (.inr (.inl ⟨rfl, hb.1, hb.2⟩))
      · exact .inr (.inr (.inr (.inl ⟨rfl, hb.1, hb.2⟩)))
      · exact .inr (.inr (.inr (.inr (.inl ⟨rfl, hb.1, hb.2⟩))))
      · exact .inr (.inr (.inr (.inr (.inr (.inl ⟨rfl, hb.1, hb.2⟩)))))
      · exact .inr (.inr (.inr (.inr (.inr (.inr (.inl ⟨rfl, hb.1, hb.2⟩))))))
      · exact .inr (.inr (.inr (.inr (.inr (.inr (.inr (.inl ⟨rfl, hb.1, hb.2⟩)))))))
      · exact .inr (.inr (.inr (.inr (.inr (.inr (.inr (.inr (.inl ⟨rfl, hb.1, hb.2⟩))))))))
      · exact .inr (.inr (.inr (.inr (.inr (.inr (.inr (.inr (.inr (.inl ⟨rfl, hb.1, hb.2⟩)))))))))
      · exact .inr (.inr (.inr (.inr (.inr (.inr (.inr (.inr (.inr (.inr (⟨rfl, hb.1, hb.2⟩))))))))))
    have qv12_2 : v12_2.toInt = (σ1_1.1 194 a2_1.toNatClampNeg).toInt := congrArg Int32.toInt ev12_2
    refine ok_gd.mpr ⟨gb_of (by omega) (by omega), ?_⟩
    refine ok_nm2 (fun v13_2 ev13_2 => ?_)
    have f18_ : (a2_1.toNatClampNeg = 0 ∧ 0 ≤ (σ1_1.1 195 a2_1.toNatClampNeg).toInt ∧ (σ1_1.1 195 a2_1.toNatClampNeg).toInt ≤ 11) ∨ (a2_1.toNatClampNeg = 1 ∧ 0 ≤ (σ1_1.1 195 a2_1.toNatClampNeg).toInt ∧ (σ1_1.1 195 a2_1.toNatClampNeg).toInt ≤ 11) ∨ (a2_1.toNatClampNeg = 2 ∧ 0 ≤ (σ1_1.1 195 a2_1.toNatClampNeg).toInt ∧ (σ1_1.1 195 a2_1.toNatClampNeg).toInt ≤ 11) ∨ (a2_1.toNatClampNeg = 3 ∧ 0 ≤ (σ1_1.1 195 a2_1.toNatClampNeg).toInt ∧ (σ1_1.1 195 a2_1.toNatClampNeg).toInt ≤ 11) ∨ (a2_1.toNatClampNeg = 4 ∧ 0 ≤ (σ1_1.1 195 a2_1.toNatClampNeg).toInt ∧ (σ1_1.1 195 a2_1.toNatClampNeg).toInt ≤ 11) ∨ (a2_1.toNatClampNeg = 5 ∧ 0 ≤ (σ1_1.1 195 a2_1.toNatClampNeg).toInt ∧ (σ1_1.1 195 a2_1.toNatClampNeg).toInt ≤ 11) ∨ (a2_1.toNatClampNeg = 6 ∧ 0 ≤ (σ1_1.1 195 a2_1.toNatClampNeg).toInt ∧ (σ1_1.1 195 a2_1.toNatClampNeg).toInt ≤ 11) ∨ (a2_1.toNatClampNeg = 7 ∧ 0 ≤ (σ1_1.1 195 a2_1.toNatClampNeg).toInt ∧ (σ1_1.1 195 a2_1.toNatClampNeg).toInt ≤ 11) ∨ (a2_1.toNatClampNeg = 8 ∧ 0 ≤ (σ1_1.1 195 a2_1.toNatClampNeg).toInt ∧ (σ1_1.1 195 a2_1.toNatClampNeg).toInt ≤ 11) ∨ (a2_1.toNatClampNeg = 9 ∧ 0 ≤ (σ1_1.1 195 a2_1.toNatClampNeg).toInt ∧ (σ1_1.1 195 a2_1.toNatClampNeg).toInt ≤ 11) ∨ (a2_1.toNatClampNeg = 10 ∧ 0 ≤ (σ1_1.1 195 a2_1.toNatClampNeg).toInt ∧ (σ1_1.1 195 a2_1.toNatClampNeg).toInt ≤ 11) := by
      have hb := hIσ1_1 195 a2_1.toNatClampNeg
      have hj : a2_1.toNatClampNeg = 0 ∨ a2_1.toNatClampNeg = 1 ∨ a2_1.toNatClampNeg = 2 ∨ a2_1.toNatClampNeg = 3 ∨ a2_1.toNatClampNeg = 4 ∨ a2_1.toNatClampNeg = 5 ∨ a2_1.toNatClampNeg = 6 ∨ a2_1.toNatClampNeg = 7 ∨ a2_1.toNatClampNeg = 8 ∨ a2_1.toNatClampNeg = 9 ∨ a2_1.toNatClampNeg = 10 := by omega
      generalize a2_1.toNatClampNeg = j at hb hj ⊢
      rcases hj with rfl | rfl | rfl | rfl | rfl | rfl | rfl | rfl | rfl | rfl | rfl
      · exact .inl ⟨rfl, hb.1, hb.2⟩
      · exact .inr (.inl ⟨rfl, hb.1, hb.2⟩)
      · exact .inr (.inr (.inl ⟨rfl, hb.1, hb.2⟩))
      · exact .inr (.inr (.inr (.inl ⟨rfl, hb.1, hb.2⟩)))
      · exact .inr (.inr (.inr (.inr (.inl ⟨rfl, hb.1, hb.2⟩))))
      · exact .inr (.inr (.inr (.inr (.inr (.inl ⟨rfl, hb.1, hb.2⟩)))))
      · exact .inr (.inr (.inr (.inr (.inr (.inr (.inl ⟨rfl, hb.1, hb.2⟩))))))
      · exact .inr (.inr (.inr (.inr (.inr (.inr (.inr (.inl ⟨rfl, hb.1, hb.2⟩)))))))
      · exact .inr (.inr (.inr (.inr (.inr (.inr (.inr (.inr (.inl ⟨rfl, hb.1, hb.2⟩))))))))
      · exact .inr (.inr (.inr (.inr (.inr (.inr (.inr (.inr (.inr (.inl ⟨rfl, hb.1, hb.2⟩)))))))))
      · exact .inr (.inr (.inr (.inr (.inr (.inr (.inr (.inr (.inr (.inr (⟨rfl, hb.1, hb.2⟩))))))))))
    have qv13_2 : v13_2.toInt = (σ1_1.1 195 a2_1.toNatClampNeg).toInt := congrArg Int32.toInt ev13_2
    refine ok_bd.mpr ((o_fX7_markPlanned hIσ1_1 (p1 := v12_2) (p2 := v13_2) (p3 := p1) (by omega) (by omega) (by omega) (by omega)).mono (fun σ15_2 ho_20 => ?_))
    obtain ⟨hIσ15_2, hcσ15_2⟩ := ho_20
    have hfσ15_2 : Fr fr_fX7_countPlanned σ σ15_2 := Fr_c hfσ1_1 hcσ15_2 (by decide)
    have sσ15_2_140_10 : (σ15_2.1 140 10).toInt = (σ1_1.1 140 10).toInt := by rw [(hcσ15_2 140 10 (by decide) (by decide)).1]
    refine ok_nm2 (fun x16_2 ex16_2 => ?_)
    have f21 : (1 : Int32).toInt = 1 := by decide
    have f22 : (a2_1 + (1 : Int32)).toInt = a2_1.toInt + (1 : Int32).toInt := iadd_toInt (by omega) (by omega)
    have qx16_2 : x16_2.toInt = (a2_1 + 1).toInt := congrArg Int32.toInt ex16_2
    exact hrec_1 _ (x16_2, σ15_2) (show (11 + 1 - x16_2.toInt).toNat < n_1 by omega) ⟨rfl, hIσ15_2, hfσ15_2, (show 0 ≤ x16_2.toInt by omega), (show x16_2.toInt ≤ 11 by omega)⟩
set_option maxRecDepth 20000 in
set_option maxHeartbeats 2000000 in
theorem o_fX9_plan {σ : gS} (hIσ : JC σ) {p1 : Int32}  : Ok (fX9_plan σ p1) (fun out => JC out.2 ∧ Fr fr_fX9_plan σ out.2) := by
  unfold fX9_plan
  have hfσ : Fr fr_fX9_plan σ σ := Fr_r
  refine ok_ite.mpr ⟨fun h_1 => ?_, fun h_1 => ?_⟩
  · have f2 : (1 : Int32).toInt = 1 := by decide
    have g3 : p1.toInt < (1 : Int32).toInt := Int32.lt_iff_toInt_lt.mp h_1
    refine ok_some.mpr ?_
    have f4 : (-1 : Int32).toInt = -1 := by decide
    exact ⟨hIσ, hfσ⟩
  · have f5 : (1 : Int32).toInt = 1 := by decide
    have g6 : ¬ p1.toInt < (1 : Int32).toInt := fun z => h_1 (Int32.lt_iff_toInt_lt.mpr z)
    refine ok_ite.mpr ⟨fun h_7 => ?_, fun h_7 => ?_⟩
    · have f8 : (20 : Int32).toInt = 20 := by decide
      have g9 : p1.toInt ≤ (20 : Int32).toInt := Int32.le_iff_toInt_le.mp h_7
      refine ok_bd.mpr ((o_fX7_survey hIσ  ).mono (fun σ4 ho_11 => ?_))
      obtain ⟨hIσ4, hcσ4⟩ := ho_11
      have hfσ4 : Fr fr_fX9_plan σ σ4 := Fr_c hfσ hcσ4 (by decide)
      refine ok_bd.mpr ((o_fX7_growTree hIσ4  ).mono (fun σ6 ho_13 => ?_))
      obtain ⟨hIσ6, hcσ6⟩ := ho_13
      have hfσ6 : Fr fr_fX9_plan σ σ6 := Fr_c hfσ4 hcσ6 (by decide)
      refine ok_bd2.mpr ((o_fX7_countPlanned hIσ6 (p1 := p1) ).mono (fun o_14 ho_15 => ?_))
      obtain ⟨r8, σ9⟩ := o_14
      obtain ⟨hIσ9, hcσ9⟩ := ho_15
      dsimp only at hIσ9 hcσ9 ⊢
      have hfσ9 : Fr fr_fX9_plan σ σ9 := Fr_c hfσ6 hcσ9 (by decide)
      refine ok_some.mpr ?_
      exact ⟨hIσ9, hfσ9⟩
    · have f16 : (20 : Int32).toInt = 20 := by decide
      have g17 : ¬ p1.toInt ≤ (20 : Int32).toInt := fun z => h_7 (Int32.le_iff_toInt_le.mpr z)
      refine ok_some.mpr ?_
      have f18 : (-1 : Int32).toInt = -1 := by decide
      exact ⟨hIσ, hfσ⟩
