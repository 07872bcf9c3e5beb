/-! comes through, c 7 -/
set_option maxRecDepth 20000 in
set_option maxHeartbeats 2000000 in
theorem o_fX4_solveFor {σ : gS} (hIσ : JC σ) {p1 : Int32} {p2 : Int32} (h0p1 : 0 ≤ p1.toInt) (h1p1 : p1.toInt ≤ 37) (h0p2 : 0 ≤ p2.toInt) (h1p2 : p2.toInt ≤ 1) : Ok (fX4_solveFor σ p1 p2) (fun out => JC out.2 ∧ Fr fr_fX4_solveFor σ out.2) := by
  unfold fX4_solveFor
  have hfσ : Fr fr_fX4_solveFor σ σ := Fr_r
  have f1 : 0 ≤ (σ.1 96 4).toInt ∧ (σ.1 96 4).toInt ≤ 38 := hIσ 96 4
  refine ok_bd.mpr ((o_fX4_numberUnknowns hIσ  ).mono (fun σ2 ho_3 => ?_))
  obtain ⟨hIσ2, hcσ2⟩ := ho_3
  have hfσ2 : Fr fr_fX4_solveFor σ σ2 := Fr_c hfσ hcσ2 (by decide)
  refine ok_gd.mpr ⟨gb_of (by omega) (by omega), ?_⟩
  refine ok_nm2 (fun v3 ev3 => ?_)
  have f4 : -1 ≤ (σ2.1 97 p1.toNatClampNeg).toInt ∧ (σ2.1 97 p1.toNatClampNeg).toInt ≤ 37 := hIσ2 97 _
  have qv3 : v3.toInt = (σ2.1 97 p1.toNatClampNeg).toInt := congrArg Int32.toInt ev3
  refine ok_nm.mpr ?_
  refine ok_ite.mpr ⟨fun h_5 => ?_, fun h_5 => ?_⟩
  · have f6 : (-1 : Int32).toInt = -1 := by decide
    have g7 : v3.toInt = (-1 : Int32).toInt := by rw [h_5]
    refine ok_some.mpr ?_
    exact ⟨hIσ2, hfσ2⟩
  · have f8 : (-1 : Int32).toInt = -1 := by decide
    have g9 : v3.toInt ≠ (-1 : Int32).toInt := fun z => h_5 (Int32.toInt_inj.mp z)
    refine ok_bd.mpr ((o_fX4_fill hIσ2 (p1 := p2) (by omega) (by omega)).mono (fun σ7_1 ho_11 => ?_))
    obtain ⟨hIσ7_1, hcσ7_1⟩ := ho_11
    have hfσ7_1 : Fr fr_fX4_solveFor σ σ7_1 := Fr_c hfσ2 hcσ7_1 (by decide)
    have sσ7_1_96_4 : (σ7_1.1 96 4).toInt = (σ2.1 96 4).toInt := by rw [(hcσ7_1 96 4 (by decide) (by decide)).1]
    refine ok_nm2 (fun x8_1 ex8_1 => ?_)
    have f12 : (0 : Int32).toInt = 0 := by decide
    have qx8_1 : x8_1.toInt = 0 := by rw [ex8_1]; decide
    refine ok_lpc (I := fun n s => n = (38 + 1 - s.1.toInt).toNat ∧ JC s.2 ∧ Fr fr_fX4_solveFor σ s.2 ∧ 0 ≤ s.1.toInt ∧ s.1.toInt ≤ 38) (fun rec26_2r n_2 s_2 hs_2 hrec_2 => ?_) K9 ((38 + 1 - x8_1.toInt).toNat) (x8_1, σ7_1) ⟨rfl, hIσ7_1, hfσ7_1, (show 0 ≤ x8_1.toInt by omega), (show x8_1.toInt ≤ 38 by omega)⟩ (by unfold K9; omega)
    obtain ⟨a4_2, σ1_2⟩ := s_2
    obtain ⟨hn_2, hIσ1_2, hfσ1_2, b0a4_2, b1a4_2⟩ := hs_2
    dsimp only at hn_2 hIσ1_2 hfσ1_2 b0a4_2 b1a4_2
    unfold bX4_solveFor_26
    try dsimp only
    refine ok_ite.mpr ⟨fun h_13 => ?_, fun h_13 => ?_⟩
    · have f14 : 0 ≤ (σ1_2.1 96 4).toInt ∧ (σ1_2.1 96 4).toInt ≤ 38 := hIσ1_2 96 4
      have g15 : (σ1_2.1 96 4).toInt ≤ a4_2.toInt := Int32.le_iff_toInt_le.mp h_13
      refine ok_gd.mpr ⟨gb_of (by omega) (by omega), ?_⟩
      refine ok_gd.mpr ⟨gb_of (by omega) (by omega), ?_⟩
      refine ok_nm2 (fun v11_3 ev11_3 => ?_)
      refine ok_some.mpr ?_
      exact ⟨hIσ1_2, hfσ1_2⟩
    · have f16 : 0 ≤ (σ1_2.1 96 4).toInt ∧ (σ1_2.1 96 4).toInt ≤ 38 := hIσ1_2 96 4
      have g17 : ¬ (σ1_2.1 96 4).toInt ≤ a4_2.toInt := fun z => h_13 (Int32.le_iff_toInt_le.mpr z)
      refine ok_bd2.mpr ((o_fX4_eliminate hIσ1_2 (p1 := a4_2) (by omega) (by omega)).mono (fun o_18 ho_19 => ?_))
      obtain ⟨r13_3, σ14_3⟩ := o_18
      obtain ⟨hIσ14_3, hcσ14_3, r0r13_3, r1r13_3⟩ := ho_19
      dsimp only at hIσ14_3 hcσ14_3 r0r13_3 r1r13_3 ⊢
      have hfσ14_3 : Fr fr_fX4_solveFor σ σ14_3 := Fr_c hfσ1_2 hcσ14_3 (by decide)
      have sσ14_3_96_4 : (σ14_3.1 96 4).toInt = (σ1_2.1 96 4).toInt := by rw [(hcσ14_3 96 4 (by decide) (by decide)).1]
      refine ok_ite.mpr ⟨fun h_20 => ?_, fun h_20 => ?_⟩
      · have g21 : r13_3.toInt = (0 : Int32).toInt := by rw [h_20]
        refine ok_some.mpr ?_
        exact ⟨hIσ14_3, hfσ14_3⟩
      · have g22 : r13_3.toInt ≠ (0 : Int32).toInt := fun z => h_20 (Int32.toInt_inj.mp z)
        refine ok_nm2 (fun x16_3 ex16_3 => ?_)
        have f23 : (1 : Int32).toInt = 1 := by decide
        have f24 : (a4_2 + (1 : Int32)).toInt = a4_2.toInt + (1 : Int32).toInt := iadd_toInt (by omega) (by omega)
        have qx16_3 : x16_3.toInt = (a4_2 + 1).toInt := congrArg Int32.toInt ex16_3
        exact hrec_2 _ (x16_3, σ14_3) (show (38 + 1 - x16_3.toInt).toNat < n_2 by omega) ⟨rfl, hIσ14_3, hfσ14_3, (show 0 ≤ x16_3.toInt by omega), (show x16_3.toInt ≤ 38 by omega)⟩
set_option maxRecDepth 20000 in
set_option maxHeartbeats 2000000 in
theorem o_fX9_whole {σ : gS} (hIσ : JC σ) {p1 : Int32} {p2 : Int32} {p3 : Int32}  : Ok (fX9_whole σ p1 p2 p3) (fun out => JC out.2 ∧ Fr fr_fX9_whole σ out.2) := by
  unfold fX9_whole
  have hfσ : Fr fr_fX9_whole σ σ := Fr_r
  refine ok_ite.mpr ⟨fun h_1 => ?_, fun h_1 => ?_⟩
  · have f2 : (0 : Int32).toInt = 0 := by decide
    have g3 : p1.toInt < (0 : Int32).toInt := Int32.lt_iff_toInt_lt.mp h_1
    refine ok_some.mpr ?_
    have f4 : (-1 : Int32).toInt = -1 := by decide
    exact ⟨hIσ, hfσ⟩
  · have f5 : (0 : Int32).toInt = 0 := by decide
    have g6 : ¬ p1.toInt < (0 : Int32).toInt := fun z => h_1 (Int32.lt_iff_toInt_lt.mpr z)
    refine ok_ite.mpr ⟨fun h_7 => ?_, fun h_7 => ?_⟩
    · have f8 : (2 : Int32).toInt = 2 := by decide
      have g9 : (2 : Int32).toInt < p1.toInt := Int32.lt_iff_toInt_lt.mp h_7
      refine ok_some.mpr ?_
      have f10 : (-1 : Int32).toInt = -1 := by decide
      exact ⟨hIσ, hfσ⟩
    · have f11 : (2 : Int32).toInt = 2 := by decide
      have g12 : ¬ (2 : Int32).toInt < p1.toInt := fun z => h_7 (Int32.lt_iff_toInt_lt.mpr z)
      refine ok_bd.mpr ?_
      try unfold fX9_isAxis
      refine ok_ite.mpr ⟨fun h_13 => ?_, fun h_13 => ?_⟩
      · have g14 : p3.toInt = (0 : Int32).toInt := by rw [h_13]
        refine ok_some.mpr ?_
        refine ok_ite.mpr ⟨fun h_15 => ?_, fun h_15 => ?_⟩
        · have f16 : (1 : Int32).toInt = 1 := by decide
          have g17 : (1 : Int32).toInt = (0 : Int32).toInt := by rw [h_15]
          exfalso
          omega
        · have f18 : (1 : Int32).toInt = 1 := by decide
          have g19 : (1 : Int32).toInt ≠ (0 : Int32).toInt := fun z => h_15 (Int32.toInt_inj.mp z)
          refine ok_ite.mpr ⟨fun h_20 => ?_, fun h_20 => ?_⟩
          · have g21 : p1.toInt = (0 : Int32).toInt := by rw [h_20]
            refine ok_bd.mpr ?_
            try unfold fX8_exists_2
            refine ok_ite.mpr ⟨fun h_22 => ?_, fun h_22 => ?_⟩
            · have g23 : p2.toInt < (0 : Int32).toInt := Int32.lt_iff_toInt_lt.mp h_22
              refine ok_some.mpr ?_
              refine ok_ite.mpr ⟨fun h_24 => ?_, fun h_24 => ?_⟩
              · have g25 : (0 : Int32).toInt = (0 : Int32).toInt := by rw [h_24]
                try unfold jX9_whole_44
                refine ok_ite.mpr ⟨fun h_26 => ?_, fun h_26 => ?_⟩
                · have g27 : p1.toInt = (1 : Int32).toInt := by rw [h_26]
                  exfalso
                  omega
                · have g28 : p1.toInt ≠ (1 : Int32).toInt := fun z => h_26 (Int32.toInt_inj.mp z)
                  try unfold jX9_whole_105
                  refine ok_ite.mpr ⟨fun h_29 => ?_, fun h_29 => ?_⟩
                  · have g30 : p1.toInt = (2 : Int32).toInt := by rw [h_29]
                    exfalso
                    omega
                  · have g31 : p1.toInt ≠ (2 : Int32).toInt := fun z => h_29 (Int32.toInt_inj.mp z)
                    refine ok_some.mpr ?_
                    have f32 : (-1 : Int32).toInt = -1 := by decide
                    exact ⟨hIσ, hfσ⟩
              · have g33 : (0 : Int32).toInt ≠ (0 : Int32).toInt := fun z => h_24 (Int32.toInt_inj.mp z)
                exfalso
                omega
            · have g34 : ¬ p2.toInt < (0 : Int32).toInt := fun z => h_22 (Int32.lt_iff_toInt_lt.mpr z)
              refine ok_gd.mpr ⟨gb_of (by omega) (by omega), ?_⟩
              refine ok_nm2 (fun v2_3 ev2_3 => ?_)
              have f36 : (1 : Int32).toNatClampNeg = (1 : Int32).toInt.toNat := rfl
              have f36_ : ((1 : Int32).toNatClampNeg = 1 ∧ 0 ≤ (σ.1 3 (1 : Int32).toNatClampNeg).toInt ∧ (σ.1 3 (1 : Int32).toNatClampNeg).toInt ≤ 12) := by
                have hb := hIσ 3 (1 : Int32).toNatClampNeg
                have hj : (1 : Int32).toNatClampNeg = 1 := by omega
                generalize (1 : Int32).toNatClampNeg = j at hb hj ⊢
                obtain rfl := hj
                exact ⟨rfl, hb.1, hb.2⟩
              have qv2_3 : v2_3.toInt = (σ.1 3 (1 : Int32).toNatClampNeg).toInt := congrArg Int32.toInt ev2_3
              refine ok_ite.mpr ⟨fun h_37 => ?_, fun h_37 => ?_⟩
              · have g38 : v2_3.toInt ≤ p2.toInt := Int32.le_iff_toInt_le.mp h_37
                refine ok_some.mpr ?_
                refine ok_ite.mpr ⟨fun h_39 => ?_, fun h_39 => ?_⟩
                · have g40 : (0 : Int32).toInt = (0 : Int32).toInt := by rw [h_39]
                  try unfold jX9_whole_44
                  refine ok_ite.mpr ⟨fun h_41 => ?_, fun h_41 => ?_⟩
                  · have g42 : p1.toInt = (1 : Int32).toInt := by rw [h_41]
                    exfalso
                    omega
                  · have g43 : p1.toInt ≠ (1 : Int32).toInt := fun z => h_41 (Int32.toInt_inj.mp z)
                    try unfold jX9_whole_105
                    refine ok_ite.mpr ⟨fun h_44 => ?_, fun h_44 => ?_⟩
                    · have g45 : p1.toInt = (2 : Int32).toInt := by rw [h_44]
                      exfalso
                      omega
                    · have g46 : p1.toInt ≠ (2 : Int32).toInt := fun z => h_44 (Int32.toInt_inj.mp z)
                      refine ok_some.mpr ?_
                      have f47 : (-1 : Int32).toInt = -1 := by decide
                      exact ⟨hIσ, hfσ⟩
                · have g48 : (0 : Int32).toInt ≠ (0 : Int32).toInt := fun z => h_39 (Int32.toInt_inj.mp z)
                  exfalso
                  omega
              · have g49 : ¬ v2_3.toInt ≤ p2.toInt := fun z => h_37 (Int32.le_iff_toInt_le.mpr z)
                refine ok_some.mpr ?_
                refine ok_ite.mpr ⟨fun h_50 => ?_, fun h_50 => ?_⟩
                · have g51 : (1 : Int32).toInt = (0 : Int32).toInt := by rw [h_50]
                  exfalso
                  omega
                · have g52 : (1 : Int32).toInt ≠ (0 : Int32).toInt := fun z => h_50 (Int32.toInt_inj.mp z)
                  refine ok_bd2.mpr ((o_fX4_solveFor hIσ (p1 := p2) (p2 := p3) (by omega) (by omega) (by omega) (by omega)).mono (fun o_53 ho_54 => ?_))
                  obtain ⟨r32_2_10, σ33_2_10⟩ := o_53
                  obtain ⟨hIσ33_2_10, hcσ33_2_10⟩ := ho_54
                  dsimp only at hIσ33_2_10 hcσ33_2_10 ⊢
                  have hfσ33_2_10 : Fr fr_fX9_whole σ σ33_2_10 := Fr_c hfσ hcσ33_2_10 (by decide)
                  refine ok_some.mpr ?_
                  exact ⟨hIσ33_2_10, hfσ33_2_10⟩
          · have g55 : p1.toInt ≠ (0 : Int32).toInt := fun z => h_20 (Int32.toInt_inj.mp z)
            try unfold jX9_whole_44
            refine ok_ite.mpr ⟨fun h_56 => ?_, fun h_56 => ?_⟩
            · have g57 : p1.toInt = (1 : Int32).toInt := by rw [h_56]
              refine ok_bd.mpr ?_
              try unfold fX8_exists_2
              refine ok_ite.mpr ⟨fun h_58 => ?_, fun h_58 => ?_⟩
              · have g59 : p2.toInt < (0 : Int32).toInt := Int32.lt_iff_toInt_lt.mp h_58
                refine ok_some.mpr ?_
                refine ok_ite.mpr ⟨fun h_60 => ?_, fun h_60 => ?_⟩
                · have g61 : (0 : Int32).toInt = (0 : Int32).toInt := by rw [h_60]
                  try unfold jX9_whole_105
                  refine ok_ite.mpr ⟨fun h_62 => ?_, fun h_62 => ?_⟩
                  · have g63 : p1.toInt = (2 : Int32).toInt := by rw [h_62]
                    exfalso
                    omega
                  · have g64 : p1.toInt ≠ (2 : Int32).toInt := fun z => h_62 (Int32.toInt_inj.mp z)
                    refine ok_some.mpr ?_
                    have f65 : (-1 : Int32).toInt = -1 := by decide
                    exact ⟨hIσ, hfσ⟩
                · have g66 : (0 : Int32).toInt ≠ (0 : Int32).toInt := fun z => h_60 (Int32.toInt_inj.mp z)
                  exfalso
                  omega
              · have g67 : ¬ p2.toInt < (0 : Int32).toInt := fun z => h_58 (Int32.lt_iff_toInt_lt.mpr z)
                refine ok_gd.mpr ⟨gb_of (by omega) (by omega), ?_⟩
                refine ok_nm2 (fun v2_12 ev2_12 => ?_)
                have f69 : (2 : Int32).toNatClampNeg = (2 : Int32).toInt.toNat := rfl
                have f69_ : ((2 : Int32).toNatClampNeg = 2 ∧ 0 ≤ (σ.1 3 (2 : Int32).toNatClampNeg).toInt ∧ (σ.1 3 (2 : Int32).toNatClampNeg).toInt ≤ 20) := by
                  have hb := hIσ 3 (2 : Int32).toNatClampNeg
                  have hj : (2 : Int32).toNatClampNeg = 2 := by omega
                  generalize (2 : Int32).toNatClampNeg = j at hb hj ⊢
                  obtain rfl := hj
                  exact ⟨rfl, hb.1, hb.2⟩
                have qv2_12 : v2_12.toInt = (σ.1 3 (2 : Int32).toNatClampNeg).toInt := congrArg Int32.toInt ev2_12
                refine ok_ite.mpr ⟨fun h_70 => ?_, fun h_70 => ?_⟩
                · have g71 : v2_12.toInt ≤ p2.toInt := Int32.le_iff_toInt_le.mp h_70
                  refine ok_some.mpr ?_
                  refine ok_ite.mpr ⟨fun h_72 => ?_, fun h_72 => ?_⟩
                  · have g73 : (0 : Int32).toInt = (0 : Int32).toInt := by rw [h_72]
                    try unfold jX9_whole_105
                    refine ok_ite.mpr ⟨fun h_74 => ?_, fun h_74 => ?_⟩
                    · have g75 : p1.toInt = (2 : Int32).toInt := by rw [h_74]
                      exfalso
                      omega
                    · have g76 : p1.toInt ≠ (2 : Int32).toInt := fun z => h_74 (Int32.toInt_inj.mp z)
                      refine ok_some.mpr ?_
                      have f77 : (-1 : Int32).toInt = -1 := by decide
                      exact ⟨hIσ, hfσ⟩
                  · have g78 : (0 : Int32).toInt ≠ (0 : Int32).toInt := fun z => h_72 (Int32.toInt_inj.mp z)
                    exfalso
                    omega
                · have g79 : ¬ v2_12.toInt ≤ p2.toInt := fun z => h_70 (Int32.le_iff_toInt_le.mpr z)
                  refine ok_some.mpr ?_
                  refine ok_ite.mpr ⟨fun h_80 => ?_, fun h_80 => ?_⟩
                  · have g81 : (1 : Int32).toInt = (0 : Int32).toInt := by rw [h_80]
                    exfalso
                    omega
                  · have g82 : (1 : Int32).toInt ≠ (0 : Int32).toInt := fun z => h_80 (Int32.toInt_inj.mp z)
                    refine ok_bd.mpr ?_
                    try unfold fX5_isFixed_47
                    refine ok_gd.mpr ⟨gb_of (by omega) (by omega), ?_⟩
                    refine ok_nm2 (fun v1_18 ev1_18 => ?_)
                    have qv1_18 : v1_18.toInt = (σ.1 16 p2.toNatClampNeg).toInt := congrArg Int32.toInt ev1_18
                    refine ok_ite.mpr ⟨fun h_83 => ?_, fun h_83 => ?_⟩
                    · have g84 : (v1_18 &&& (σ.1 47 1)).toInt = (0 : Int32).toInt := by rw [h_83]
                      refine ok_some.mpr ?_
                      refine ok_ite.mpr ⟨fun h_85 => ?_, fun h_85 => ?_⟩
                      · have g86 : (0 : Int32).toInt = (0 : Int32).toInt := by rw [h_85]
                        have f87 : (12 : Int32).toInt = 12 := by decide
                        have f88 : ((12 : Int32) + p2).toInt = (12 : Int32).toInt + p2.toInt := iadd_toInt (by omega) (by omega)
                        refine ok_bd2.mpr ((o_fX4_solveFor hIσ (p1 := (12 + p2)) (p2 := p3) (by omega) (by omega) (by omega) (by omega)).mono (fun o_89 ho_90 => ?_))
                        obtain ⟨r22_11_17_19, σ23_11_17_19⟩ := o_89
                        obtain ⟨hIσ23_11_17_19, hcσ23_11_17_19⟩ := ho_90
                        dsimp only at hIσ23_11_17_19 hcσ23_11_17_19 ⊢
                        have hfσ23_11_17_19 : Fr fr_fX9_whole σ σ23_11_17_19 := Fr_c hfσ hcσ23_11_17_19 (by decide)
                        refine ok_some.mpr ?_
                        exact ⟨hIσ23_11_17_19, hfσ23_11_17_19⟩
                      · have g91 : (0 : Int32).toInt ≠ (0 : Int32).toInt := fun z => h_85 (Int32.toInt_inj.mp z)
                        exfalso
                        omega
                    · have g92 : (v1_18 &&& (σ.1 47 1)).toInt ≠ (0 : Int32).toInt := fun z => h_83 (Int32.toInt_inj.mp z)
                      refine ok_some.mpr ?_
                      refine ok_ite.mpr ⟨fun h_93 => ?_, fun h_93 => ?_⟩
                      · have g94 : (1 : Int32).toInt = (0 : Int32).toInt := by rw [h_93]
                        exfalso
                        omega
                      · have g95 : (1 : Int32).toInt ≠ (0 : Int32).toInt := fun z => h_93 (Int32.toInt_inj.mp z)
                        refine ok_gd.mpr ⟨gb_of (by omega) (by omega), ?_⟩
                        refine ok_gd.mpr ⟨gb_of (by omega) (by omega), ?_⟩
                        refine ok_nm2 (fun v25_11_17_20 ev25_11_17_20 => ?_)
                        have qv25_11_17_20 : v25_11_17_20.toInt = (σ.1 (53 + p3.toNatClampNeg) p2.toNatClampNeg).toInt := congrArg Int32.toInt ev25_11_17_20
                        refine ok_bd.mpr ((o_fJ9_floorMod_f86c9 hIσ (p0 := (v25_11_17_20.toInt64 : Int64)) (p2 := (1000003 : Int64)) (by first | decide | omega | (rw [Int32.toInt_toInt64]; omega))).mono (fun r27_11_17_20 ho_97 => ?_))
                        refine ok_some.mpr ?_
                        exact ⟨hIσ, hfσ⟩
            · have g98 : p1.toInt ≠ (1 : Int32).toInt := fun z => h_56 (Int32.toInt_inj.mp z)
              try unfold jX9_whole_105
              refine ok_ite.mpr ⟨fun h_99 => ?_, fun h_99 => ?_⟩
              · have g100 : p1.toInt = (2 : Int32).toInt := by rw [h_99]
                refine ok_bd.mpr ?_
                try unfold fX8_exists_2
                refine ok_ite.mpr ⟨fun h_101 => ?_, fun h_101 => ?_⟩
                · have g102 : p2.toInt < (0 : Int32).toInt := Int32.lt_iff_toInt_lt.mp h_101
                  refine ok_some.mpr ?_
                  refine ok_ite.mpr ⟨fun h_103 => ?_, fun h_103 => ?_⟩
                  · have g104 : (0 : Int32).toInt = (0 : Int32).toInt := by rw [h_103]
                    refine ok_some.mpr ?_
                    have f105 : (-1 : Int32).toInt = -1 := by decide
                    exact ⟨hIσ, hfσ⟩
                  · have g106 : (0 : Int32).toInt ≠ (0 : Int32).toInt := fun z => h_103 (Int32.toInt_inj.mp z)
                    exfalso
                    omega
                · have g107 : ¬ p2.toInt < (0 : Int32).toInt := fun z => h_101 (Int32.lt_iff_toInt_lt.mpr z)
                  refine ok_gd.mpr ⟨gb_of (by omega) (by omega), ?_⟩
                  refine ok_nm2 (fun v2_22 ev2_22 => ?_)
                  have f109 : (0 : Int32).toNatClampNeg = (0 : Int32).toInt.toNat := rfl
                  have f109_ : ((0 : Int32).toNatClampNeg = 0 ∧ 0 ≤ (σ.1 3 (0 : Int32).toNatClampNeg).toInt ∧ (σ.1 3 (0 : Int32).toNatClampNeg).toInt ≤ 6) := by
                    have hb := hIσ 3 (0 : Int32).toNatClampNeg
                    have hj : (0 : Int32).toNatClampNeg = 0 := by omega
                    generalize (0 : Int32).toNatClampNeg = j at hb hj ⊢
                    obtain rfl := hj
                    exact ⟨rfl, hb.1, hb.2⟩
                  have qv2_22 : v2_22.toInt = (σ.1 3 (0 : Int32).toNatClampNeg).toInt := congrArg Int32.toInt ev2_22
                  refine ok_ite.mpr ⟨fun h_110 => ?_, fun h_110 => ?_⟩
                  · have g111 : v2_22.toInt ≤ p2.toInt := Int32.le_iff_toInt_le.mp h_110
                    refine ok_some.mpr ?_
                    refine ok_ite.mpr ⟨fun h_112 => ?_, fun h_112 => ?_⟩
                    · have g113 : (0 : Int32).toInt = (0 : Int32).toInt := by rw [h_112]
                      refine ok_some.mpr ?_
                      have f114 : (-1 : Int32).toInt = -1 := by decide
                      exact ⟨hIσ, hfσ⟩
                    · have g115 : (0 : Int32).toInt ≠ (0 : Int32).toInt := fun z => h_112 (Int32.toInt_inj.mp z)
                      exfalso
                      omega
                  · have g116 : ¬ v2_22.toInt ≤ p2.toInt := fun z => h_110 (Int32.le_iff_toInt_le.mpr z)
                    refine ok_some.mpr ?_
                    refine ok_ite.mpr ⟨fun h_117 => ?_, fun h_117 => ?_⟩
                    · have g118 : (1 : Int32).toInt = (0 : Int32).toInt := by rw [h_117]
                      exfalso
                      omega
                    · have g119 : (1 : Int32).toInt ≠ (0 : Int32).toInt := fun z => h_117 (Int32.toInt_inj.mp z)
                      have f120 : (32 : Int32).toInt = 32 := by decide
                      have f121 : ((32 : Int32) + p2).toInt = (32 : Int32).toInt + p2.toInt := iadd_toInt (by omega) (by omega)
                      refine ok_bd2.mpr ((o_fX4_solveFor hIσ (p1 := (32 + p2)) (p2 := p3) (by omega) (by omega) (by omega) (by omega)).mono (fun o_122 ho_123 => ?_))
                      obtain ⟨r13_21_25, σ14_21_25⟩ := o_122
                      obtain ⟨hIσ14_21_25, hcσ14_21_25⟩ := ho_123
                      dsimp only at hIσ14_21_25 hcσ14_21_25 ⊢
                      have hfσ14_21_25 : Fr fr_fX9_whole σ σ14_21_25 := Fr_c hfσ hcσ14_21_25 (by decide)
                      refine ok_some.mpr ?_
                      exact ⟨hIσ14_21_25, hfσ14_21_25⟩
              · have g124 : p1.toInt ≠ (2 : Int32).toInt := fun z => h_99 (Int32.toInt_inj.mp z)
                exfalso
                omega
      · have g125 : p3.toInt ≠ (0 : Int32).toInt := fun z => h_13 (Int32.toInt_inj.mp z)
        refine ok_ite.mpr ⟨fun h_126 => ?_, fun h_126 => ?_⟩
        · have f127 : (1 : Int32).toInt = 1 := by decide
          have g128 : p3.toInt = (1 : Int32).toInt := by rw [h_126]
          refine ok_some.mpr ?_
          refine ok_ite.mpr ⟨fun h_129 => ?_, fun h_129 => ?_⟩
          · have g130 : (1 : Int32).toInt = (0 : Int32).toInt := by rw [h_129]
            exfalso
            omega
          · have g131 : (1 : Int32).toInt ≠ (0 : Int32).toInt := fun z => h_129 (Int32.toInt_inj.mp z)
            refine ok_ite.mpr ⟨fun h_132 => ?_, fun h_132 => ?_⟩
            · have g133 : p1.toInt = (0 : Int32).toInt := by rw [h_132]
              refine ok_bd.mpr ?_
              try unfold fX8_exists_2
              refine ok_ite.mpr ⟨fun h_134 => ?_, fun h_134 => ?_⟩
              · have g135 : p2.toInt < (0 : Int32).toInt := Int32.lt_iff_toInt_lt.mp h_134
                refine ok_some.mpr ?_
                refine ok_ite.mpr ⟨fun h_136 => ?_, fun h_136 => ?_⟩
                · have g137 : (0 : Int32).toInt = (0 : Int32).toInt := by rw [h_136]
                  try unfold jX9_whole_44
                  refine ok_ite.mpr ⟨fun h_138 => ?_, fun h_138 => ?_⟩
                  · have g139 : p1.toInt = (1 : Int32).toInt := by rw [h_138]
                    exfalso
                    omega
                  · have g140 : p1.toInt ≠ (1 : Int32).toInt := fun z => h_138 (Int32.toInt_inj.mp z)
                    try unfold jX9_whole_105
                    refine ok_ite.mpr ⟨fun h_141 => ?_, fun h_141 => ?_⟩
                    · have g142 : p1.toInt = (2 : Int32).toInt := by rw [h_141]
                      exfalso
                      omega
                    · have g143 : p1.toInt ≠ (2 : Int32).toInt := fun z => h_141 (Int32.toInt_inj.mp z)
                      refine ok_some.mpr ?_
                      have f144 : (-1 : Int32).toInt = -1 := by decide
                      exact ⟨hIσ, hfσ⟩
                · have g145 : (0 : Int32).toInt ≠ (0 : Int32).toInt := fun z => h_136 (Int32.toInt_inj.mp z)
                  exfalso
                  omega
              · have g146 : ¬ p2.toInt < (0 : Int32).toInt := fun z => h_134 (Int32.lt_iff_toInt_lt.mpr z)
                refine ok_gd.mpr ⟨gb_of (by omega) (by omega), ?_⟩
                refine ok_nm2 (fun v2_27 ev2_27 => ?_)
                have f148 : (1 : Int32).toNatClampNeg = (1 : Int32).toInt.toNat := rfl
                have f148_ : ((1 : Int32).toNatClampNeg = 1 ∧ 0 ≤ (σ.1 3 (1 : Int32).toNatClampNeg).toInt ∧ (σ.1 3 (1 : Int32).toNatClampNeg).toInt ≤ 12) := by
                  have hb := hIσ 3 (1 : Int32).toNatClampNeg
                  have hj : (1 : Int32).toNatClampNeg = 1 := by omega
                  generalize (1 : Int32).toNatClampNeg = j at hb hj ⊢
                  obtain rfl := hj
                  exact ⟨rfl, hb.1, hb.2⟩
                have qv2_27 : v2_27.toInt = (σ.1 3 (1 : Int32).toNatClampNeg).toInt := congrArg Int32.toInt ev2_27
                refine ok_ite.mpr ⟨fun h_149 => ?_, fun h_149 => ?_⟩
                · have g150 : v2_27.toInt ≤ p2.toInt := Int32.le_iff_toInt_le.mp h_149
                  refine ok_some.mpr ?_
                  refine ok_ite.mpr ⟨fun h_151 => ?_, fun h_151 => ?_⟩
                  · have g152 : (0 : Int32).toInt = (0 : Int32).toInt := by rw [h_151]
                    try unfold jX9_whole_44
                    refine ok_ite.mpr ⟨fun h_153 => ?_, fun h_153 => ?_⟩
                    · have g154 : p1.toInt = (1 : Int32).toInt := by rw [h_153]
                      exfalso
                      omega
                    · have g155 : p1.toInt ≠ (1 : Int32).toInt := fun z => h_153 (Int32.toInt_inj.mp z)
                      try unfold jX9_whole_105
                      refine ok_ite.mpr ⟨fun h_156 => ?_, fun h_156 => ?_⟩
                      · have g157 : p1.toInt = (2 : Int32).toInt := by rw [h_156]
                        exfalso
                        omega
                      · have g158 : p1.toInt ≠ (2 : Int32).toInt := fun z => h_156 (Int32.toInt_inj.mp z)
                        refine ok_some.mpr ?_
                        have f159 : (-1 : Int32).toInt = -1 := by decide
                        exact ⟨hIσ, hfσ⟩
                  · have g160 : (0 : Int32).toInt ≠ (0 : Int32).toInt := fun z => h_151 (Int32.toInt_inj.mp z)
                    exfalso
                    omega
                · have g161 : ¬ v2_27.toInt ≤ p2.toInt := fun z => h_149 (Int32.le_iff_toInt_le.mpr z)
                  refine ok_some.mpr ?_
                  refine ok_ite.mpr ⟨fun h_162 => ?_, fun h_162 => ?_⟩
                  · have g163 : (1 : Int32).toInt = (0 : Int32).toInt := by rw [h_162]
                    exfalso
                    omega
                  · have g164 : (1 : Int32).toInt ≠ (0 : Int32).toInt := fun z => h_162 (Int32.toInt_inj.mp z)
                    refine ok_bd2.mpr ((o_fX4_solveFor hIσ (p1 := p2) (p2 := p3) (by omega) (by omega) (by omega) (by omega)).mono (fun o_165 ho_166 => ?_))
                    obtain ⟨r32_26_34, σ33_26_34⟩ := o_165
                    obtain ⟨hIσ33_26_34, hcσ33_26_34⟩ := ho_166
                    dsimp only at hIσ33_26_34 hcσ33_26_34 ⊢
                    have hfσ33_26_34 : Fr fr_fX9_whole σ σ33_26_34 := Fr_c hfσ hcσ33_26_34 (by decide)
                    refine ok_some.mpr ?_
                    exact ⟨hIσ33_26_34, hfσ33_26_34⟩
            · have g167 : p1.toInt ≠ (0 : Int32).toInt := fun z => h_132 (Int32.toInt_inj.mp z)
              try unfold jX9_whole_44
              refine ok_ite.mpr ⟨fun h_168 => ?_, fun h_168 => ?_⟩
              · have g169 : p1.toInt = (1 : Int32).toInt := by rw [h_168]
                refine ok_bd.mpr ?_
                try unfold fX8_exists_2
                refine ok_ite.mpr ⟨fun h_170 => ?_, fun h_170 => ?_⟩
                · have g171 : p2.toInt < (0 : Int32).toInt := Int32.lt_iff_toInt_lt.mp h_170
                  refine ok_some.mpr ?_
                  refine ok_ite.mpr ⟨fun h_172 => ?_, fun h_172 => ?_⟩
                  · have g173 : (0 : Int32).toInt = (0 : Int32).toInt := by rw [h_172]
                    try unfold jX9_whole_105
                    refine ok_ite.mpr ⟨fun h_174 => ?_, fun h_174 => ?_⟩
                    · have g175 : p1.toInt = (2 : Int32).toInt := by rw [h_174]
                      exfalso
                      omega
                    · have g176 : p1.toInt ≠ (2 : Int32).toInt := fun z => h_174 (Int32.toInt_inj.mp z)
                      refine ok_some.mpr ?_
                      have f177 : (-1 : Int32).toInt = -1 := by decide
                      exact ⟨hIσ, hfσ⟩
                  · have g178 : (0 : Int32).toInt ≠ (0 : Int32).toInt := fun z => h_172 (Int32.toInt_inj.mp z)
                    exfalso
                    omega
                · have g179 : ¬ p2.toInt < (0 : Int32).toInt := fun z => h_170 (Int32.lt_iff_toInt_lt.mpr z)
                  refine ok_gd.mpr ⟨gb_of (by omega) (by omega), ?_⟩
                  refine ok_nm2 (fun v2_36 ev2_36 => ?_)
                  have f181 : (2 : Int32).toNatClampNeg = (2 : Int32).toInt.toNat := rfl
                  have f181_ : ((2 : Int32).toNatClampNeg = 2 ∧ 0 ≤ (σ.1 3 (2 : Int32).toNatClampNeg).toInt ∧ (σ.1 3 (2 : Int32).toNatClampNeg).toInt ≤ 20) := by
                    have hb := hIσ 3 (2 : Int32).toNatClampNeg
                    have hj : (2 : Int32).toNatClampNeg = 2 := by omega
                    generalize (2 : Int32).toNatClampNeg = j at hb hj ⊢
                    obtain rfl := hj
                    exact ⟨rfl, hb.1, hb.2⟩
                  have qv2_36 : v2_36.toInt = (σ.1 3 (2 : Int32).toNatClampNeg).toInt := congrArg Int32.toInt ev2_36
                  refine ok_ite.mpr ⟨fun h_182 => ?_, fun h_182 => ?_⟩
                  · have g183 : v2_36.toInt ≤ p2.toInt := Int32.le_iff_toInt_le.mp h_182
                    refine ok_some.mpr ?_
                    refine ok_ite.mpr ⟨fun h_184 => ?_, fun h_184 => ?_⟩
                    · have g185 : (0 : Int32).toInt = (0 : Int32).toInt := by rw [h_184]
                      try unfold jX9_whole_105
                      refine ok_ite.mpr ⟨fun h_186 => ?_, fun h_186 => ?_⟩
                      · have g187 : p1.toInt = (2 : Int32).toInt := by rw [h_186]
                        exfalso
                        omega
                      · have g188 : p1.toInt ≠ (2 : Int32).toInt := fun z => h_186 (Int32.toInt_inj.mp z)
                        refine ok_some.mpr ?_
                        have f189 : (-1 : Int32).toInt = -1 := by decide
                        exact ⟨hIσ, hfσ⟩
                    · have g190 : (0 : Int32).toInt ≠ (0 : Int32).toInt := fun z => h_184 (Int32.toInt_inj.mp z)
                      exfalso
                      omega
                  · have g191 : ¬ v2_36.toInt ≤ p2.toInt := fun z => h_182 (Int32.le_iff_toInt_le.mpr z)
                    refine ok_some.mpr ?_
                    refine ok_ite.mpr ⟨fun h_192 => ?_, fun h_192 => ?_⟩
                    · have g193 : (1 : Int32).toInt = (0 : Int32).toInt := by rw [h_192]
                      exfalso
                      omega
                    · have g194 : (1 : Int32).toInt ≠ (0 : Int32).toInt := fun z => h_192 (Int32.toInt_inj.mp z)
                      refine ok_bd.mpr ?_
                      try unfold fX5_isFixed_47
                      refine ok_gd.mpr ⟨gb_of (by omega) (by omega), ?_⟩
                      refine ok_nm2 (fun v1_42 ev1_42 => ?_)
                      have qv1_42 : v1_42.toInt = (σ.1 16 p2.toNatClampNeg).toInt := congrArg Int32.toInt ev1_42
                      refine ok_ite.mpr ⟨fun h_195 => ?_, fun h_195 => ?_⟩
                      · have g196 : (v1_42 &&& (σ.1 47 1)).toInt = (0 : Int32).toInt := by rw [h_195]
                        refine ok_some.mpr ?_
                        refine ok_ite.mpr ⟨fun h_197 => ?_, fun h_197 => ?_⟩
                        · have g198 : (0 : Int32).toInt = (0 : Int32).toInt := by rw [h_197]
                          have f199 : (12 : Int32).toInt = 12 := by decide
                          have f200 : ((12 : Int32) + p2).toInt = (12 : Int32).toInt + p2.toInt := iadd_toInt (by omega) (by omega)
                          refine ok_bd2.mpr ((o_fX4_solveFor hIσ (p1 := (12 + p2)) (p2 := p3) (by omega) (by omega) (by omega) (by omega)).mono (fun o_201 ho_202 => ?_))
                          obtain ⟨r22_35_41_43, σ23_35_41_43⟩ := o_201
                          obtain ⟨hIσ23_35_41_43, hcσ23_35_41_43⟩ := ho_202
                          dsimp only at hIσ23_35_41_43 hcσ23_35_41_43 ⊢
                          have hfσ23_35_41_43 : Fr fr_fX9_whole σ σ23_35_41_43 := Fr_c hfσ hcσ23_35_41_43 (by decide)
                          refine ok_some.mpr ?_
                          exact ⟨hIσ23_35_41_43, hfσ23_35_41_43⟩
                        · have g203 : (0 : Int32).toInt ≠ (0 : Int32).toInt := fun z => h_197 (Int32.toInt_inj.mp z)
                          exfalso
                          omega
                      · have g204 : (v1_42 &&& (σ.1 47 1)).toInt ≠ (0 : Int32).toInt := fun z => h_195 (Int32.toInt_inj.mp z)
                        refine ok_some.mpr ?_
                        refine ok_ite.mpr ⟨fun h_205 => ?_, fun h_205 => ?_⟩
                        · have g206 : (1 : Int32).toInt = (0 : Int32).toInt := by rw [h_205]
                          exfalso
                          omega
                        · have g207 : (1 : Int32).toInt ≠ (0 : Int32).toInt := fun z => h_205 (Int32.toInt_inj.mp z)
                          refine ok_gd.mpr ⟨gb_of (by omega) (by omega), ?_⟩
                          refine ok_gd.mpr ⟨gb_of (by omega) (by omega), ?_⟩
                          refine ok_nm2 (fun v25_35_41_44 ev25_35_41_44 => ?_)
                          have qv25_35_41_44 : v25_35_41_44.toInt = (σ.1 (53 + p3.toNatClampNeg) p2.toNatClampNeg).toInt := congrArg Int32.toInt ev25_35_41_44
                          refine ok_bd.mpr ((o_fJ9_floorMod_f86c9 hIσ (p0 := (v25_35_41_44.toInt64 : Int64)) (p2 := (1000003 : Int64)) (by first | decide | omega | (rw [Int32.toInt_toInt64]; omega))).mono (fun r27_35_41_44 ho_209 => ?_))
                          refine ok_some.mpr ?_
                          exact ⟨hIσ, hfσ⟩
              · have g210 : p1.toInt ≠ (1 : Int32).toInt := fun z => h_168 (Int32.toInt_inj.mp z)
                try unfold jX9_whole_105
                refine ok_ite.mpr ⟨fun h_211 => ?_, fun h_211 => ?_⟩
                · have g212 : p1.toInt = (2 : Int32).toInt := by rw [h_211]
                  refine ok_bd.mpr ?_
                  try unfold fX8_exists_2
                  refine ok_ite.mpr ⟨fun h_213 => ?_, fun h_213 => ?_⟩
                  · have g214 : p2.toInt < (0 : Int32).toInt := Int32.lt_iff_toInt_lt.mp h_213
                    refine ok_some.mpr ?_
                    refine ok_ite.mpr ⟨fun h_215 => ?_, fun h_215 => ?_⟩
                    · have g216 : (0 : Int32).toInt = (0 : Int32).toInt := by rw [h_215]
                      refine ok_some.mpr ?_
                      have f217 : (-1 : Int32).toInt = -1 := by decide
                      exact ⟨hIσ, hfσ⟩
                    · have g218 : (0 : Int32).toInt ≠ (0 : Int32).toInt := fun z => h_215 (Int32.toInt_inj.mp z)
                      exfalso
                      omega
                  · have g219 : ¬ p2.toInt < (0 : Int32).toInt := fun z => h_213 (Int32.lt_iff_toInt_lt.mpr z)
                    refine ok_gd.mpr ⟨gb_of (by omega) (by omega), ?_⟩
                    refine ok_nm2 (fun v2_46 ev2_46 => ?_)
                    have f221 : (0 : Int32).toNatClampNeg = (0 : Int32).toInt.toNat := rfl
                    have f221_ : ((0 : Int32).toNatClampNeg = 0 ∧ 0 ≤ (σ.1 3 (0 : Int32).toNatClampNeg).toInt ∧ (σ.1 3 (0 : Int32).toNatClampNeg).toInt ≤ 6) := by
                      have hb := hIσ 3 (0 : Int32).toNatClampNeg
                      have hj : (0 : Int32).toNatClampNeg = 0 := by omega
                      generalize (0 : Int32).toNatClampNeg = j at hb hj ⊢
                      obtain rfl := hj
                      exact ⟨rfl, hb.1, hb.2⟩
                    have qv2_46 : v2_46.toInt = (σ.1 3 (0 : Int32).toNatClampNeg).toInt := congrArg Int32.toInt ev2_46
                    refine ok_ite.mpr ⟨fun h_222 => ?_, fun h_222 => ?_⟩
                    · have g223 : v2_46.toInt ≤ p2.toInt := Int32.le_iff_toInt_le.mp h_222
                      refine ok_some.mpr ?_
                      refine ok_ite.mpr ⟨fun h_224 => ?_, fun h_224 => ?_⟩
                      · have g225 : (0 : Int32).toInt = (0 : Int32).toInt := by rw [h_224]
                        refine ok_some.mpr ?_
                        have f226 : (-1 : Int32).toInt = -1 := by decide
                        exact ⟨hIσ, hfσ⟩
                      · have g227 : (0 : Int32).toInt ≠ (0 : Int32).toInt := fun z => h_224 (Int32.toInt_inj.mp z)
                        exfalso
                        omega
                    · have g228 : ¬ v2_46.toInt ≤ p2.toInt := fun z => h_222 (Int32.le_iff_toInt_le.mpr z)
                      refine ok_some.mpr ?_
                      refine ok_ite.mpr ⟨fun h_229 => ?_, fun h_229 => ?_⟩
                      · have g230 : (1 : Int32).toInt = (0 : Int32).toInt := by rw [h_229]
                        exfalso
                        omega
                      · have g231 : (1 : Int32).toInt ≠ (0 : Int32).toInt := fun z => h_229 (Int32.toInt_inj.mp z)
                        have f232 : (32 : Int32).toInt = 32 := by decide
                        have f233 : ((32 : Int32) + p2).toInt = (32 : Int32).toInt + p2.toInt := iadd_toInt (by omega) (by omega)
                        refine ok_bd2.mpr ((o_fX4_solveFor hIσ (p1 := (32 + p2)) (p2 := p3) (by omega) (by omega) (by omega) (by omega)).mono (fun o_234 ho_235 => ?_))
                        obtain ⟨r13_45_49, σ14_45_49⟩ := o_234
                        obtain ⟨hIσ14_45_49, hcσ14_45_49⟩ := ho_235
                        dsimp only at hIσ14_45_49 hcσ14_45_49 ⊢
                        have hfσ14_45_49 : Fr fr_fX9_whole σ σ14_45_49 := Fr_c hfσ hcσ14_45_49 (by decide)
                        refine ok_some.mpr ?_
                        exact ⟨hIσ14_45_49, hfσ14_45_49⟩
                · have g236 : p1.toInt ≠ (2 : Int32).toInt := fun z => h_211 (Int32.toInt_inj.mp z)
                  exfalso
                  omega
        · have f237 : (1 : Int32).toInt = 1 := by decide
          have g238 : p3.toInt ≠ (1 : Int32).toInt := fun z => h_126 (Int32.toInt_inj.mp z)
          refine ok_some.mpr ?_
          refine ok_ite.mpr ⟨fun h_239 => ?_, fun h_239 => ?_⟩
          · have g240 : (0 : Int32).toInt = (0 : Int32).toInt := by rw [h_239]
            refine ok_some.mpr ?_
            have f241 : (-1 : Int32).toInt = -1 := by decide
            exact ⟨hIσ, hfσ⟩
          · have g242 : (0 : Int32).toInt ≠ (0 : Int32).toInt := fun z => h_239 (Int32.toInt_inj.mp z)
            exfalso
            omega
set_option maxRecDepth 20000 in
set_option maxHeartbeats 2000000 in
theorem o_fX9_sets {σ : gS} (hIσ : JC σ) {p1 : Int32}  : Ok (fX9_sets σ p1) (fun out => JC out.2 ∧ Fr fr_fX9_sets σ out.2) := by
  unfold fX9_sets
  have hfσ : Fr fr_fX9_sets σ σ := Fr_r
  refine ok_ite.mpr ⟨fun h_1 => ?_, fun h_1 => ?_⟩
  · have f2 : (0 : Int32).toInt = 0 := by decide
    have g3 : p1.toInt < (0 : Int32).toInt := Int32.lt_iff_toInt_lt.mp h_1
    refine ok_some.mpr ?_
    have f4 : (-1 : Int32).toInt = -1 := by decide
    exact ⟨hIσ, hfσ⟩
  · have f5 : (0 : Int32).toInt = 0 := by decide
    have g6 : ¬ p1.toInt < (0 : Int32).toInt := fun z => h_1 (Int32.lt_iff_toInt_lt.mpr z)
    refine ok_ite.mpr ⟨fun h_7 => ?_, fun h_7 => ?_⟩
    · have f8 : (3 : Int32).toInt = 3 := by decide
      have g9 : p1.toInt ≤ (3 : Int32).toInt := Int32.le_iff_toInt_le.mp h_7
      refine ok_nm2 (fun σ3 eσ3 => ?_)
      have hIσ3 : JC σ3 := by rw [eσ3]; exact JC_w hIσ (Int32.le_toInt _) (Int32.toInt_le _)
      have hfσ3 : Fr fr_fX9_sets σ σ3 := by rw [eσ3]; exact Fr_w hfσ (by decide)
      refine ok_bd.mpr ((o_fX5_placeFixed_47 hIσ3  ).mono (fun σ5 ho_11 => ?_))
      obtain ⟨hIσ5, hcσ5⟩ := ho_11
      have hfσ5 : Fr fr_fX9_sets σ σ5 := Fr_c hfσ3 hcσ5 (by decide)
      refine ok_bd.mpr ((o_fX5_countFixed_47 hIσ5  ).mono (fun r7 ho_13 => ?_))
      refine ok_some.mpr ?_
      exact ⟨hIσ5, hfσ5⟩
    · have f14 : (3 : Int32).toInt = 3 := by decide
      have g15 : ¬ p1.toInt ≤ (3 : Int32).toInt := fun z => h_7 (Int32.le_iff_toInt_le.mpr z)
      refine ok_some.mpr ?_
      have f16 : (-1 : Int32).toInt = -1 := by decide
      exact ⟨hIσ, hfσ⟩
set_option maxRecDepth 20000 in
set_option maxHeartbeats 2000000 in
theorem o_fX2_countParts {σ : gS} (hIσ : JC σ)   : Ok (fX2_countParts σ ) (fun out => JC out.2 ∧ Fr fr_fX2_countParts σ out.2) := by
  unfold fX2_countParts
  have hfσ : Fr fr_fX2_countParts σ σ := Fr_r
  have f1 : (-1 : Int32).toInt = -1 := by decide
  refine ok_bd.mpr ((o_fX2_joinAll hIσ (p1 := (-1 : Int32)) ).mono (fun σ2 ho_3 => ?_))
  obtain ⟨hIσ2, hcσ2⟩ := ho_3
  have hfσ2 : Fr fr_fX2_countParts σ σ2 := Fr_c hfσ hcσ2 (by decide)
  refine ok_nm2 (fun x3 ex3 => ?_)
  have f4 : (0 : Int32).toInt = 0 := by decide
  have qx3 : x3.toInt = 0 := by rw [ex3]; decide
  refine ok_nm2 (fun x4 ex4 => ?_)
  have qx4 : x4.toInt = 0 := by rw [ex4]; decide
  refine ok_lpc (I := fun n s => n = (12 + 1 - s.2.toInt).toNat ∧ 0 ≤ s.2.toInt ∧ s.2.toInt ≤ 12) (fun rec9_1r n_1 s_1 hs_1 hrec_1 => ?_) K9 ((12 + 1 - x4.toInt).toNat) (x3, x4) ⟨rfl, (show 0 ≤ x4.toInt by omega), (show x4.toInt ≤ 12 by omega)⟩ (by unfold K9; omega)
  obtain ⟨a1_1, a2_1⟩ := s_1
  obtain ⟨hn_1, b0a2_1, b1a2_1⟩ := hs_1
  dsimp only at hn_1 b0a2_1 b1a2_1
  unfold bX2_countParts_9
  try dsimp only
  have f5 : (1 : Int32).toInt = 1 := by decide
  refine ok_gd.mpr ⟨gb_of (by omega) (by omega), ?_⟩
  refine ok_nm2 (fun v5_2 ev5_2 => ?_)
  have f6 : 0 ≤ (σ2.1 3 1).toInt ∧ (σ2.1 3 1).toInt ≤ 12 := hIσ2 3 1
  have qv5_2 : v5_2.toInt = (σ2.1 3 1).toInt := congrArg Int32.toInt ev5_2
  refine ok_ite.mpr ⟨fun h_7 => ?_, fun h_7 => ?_⟩
  · have g8 : v5_2.toInt ≤ a2_1.toInt := Int32.le_iff_toInt_le.mp h_7
    refine ok_some.mpr ?_
    exact ⟨hIσ2, hfσ2⟩
  · have g9 : ¬ v5_2.toInt ≤ a2_1.toInt := fun z => h_7 (Int32.le_iff_toInt_le.mpr z)
    refine ok_nm2 (fun x7_2 ex7_2 => ?_)
    have qx7_2 : x7_2.toInt = 1 := by rw [ex7_2]; decide
    refine ok_nm2 (fun x8_2 ex8_2 => ?_)
    have qx8_2 : x8_2.toInt = 0 := by rw [ex8_2]; decide
    refine ok_lpc (I := fun n s => n = (11 + 1 - s.2.toInt).toNat ∧ 0 ≤ s.1.toInt ∧ s.1.toInt ≤ 1 ∧ 0 ≤ s.2.toInt ∧ s.2.toInt ≤ 11) (fun rec27_5r n_5 s_5 hs_5 hrec_5 => ?_) K9 ((11 + 1 - x8_2.toInt).toNat) (x7_2, x8_2) ⟨rfl, (show 0 ≤ x7_2.toInt by omega), (show x7_2.toInt ≤ 1 by omega), (show 0 ≤ x8_2.toInt by omega), (show x8_2.toInt ≤ 11 by omega)⟩ (by unfold K9; omega)
    obtain ⟨a3_5, a4_5⟩ := s_5
    obtain ⟨hn_5, b0a3_5, b1a3_5, b0a4_5, b1a4_5⟩ := hs_5
    dsimp only at hn_5 b0a3_5 b1a3_5 b0a4_5 b1a4_5
    unfold bX2_countParts_27
    try dsimp only
    refine ok_ite.mpr ⟨fun h_10 => ?_, fun h_10 => ?_⟩
    · have g11 : a2_1.toInt ≤ a4_5.toInt := Int32.le_iff_toInt_le.mp h_10
      refine ok_ite.mpr ⟨fun h_12 => ?_, fun h_12 => ?_⟩
      · have g13 : a3_5.toInt = (0 : Int32).toInt := by rw [h_12]
        refine ok_nm2 (fun x11_6 ex11_6 => ?_)
        have f14 : (a2_1 + (1 : Int32)).toInt = a2_1.toInt + (1 : Int32).toInt := iadd_toInt (by omega) (by omega)
        have qx11_6 : x11_6.toInt = (a2_1 + 1).toInt := congrArg Int32.toInt ex11_6
        exact hrec_1 _ (a1_1, x11_6) (show (12 + 1 - x11_6.toInt).toNat < n_1 by omega) ⟨rfl, (show 0 ≤ x11_6.toInt by omega), (show x11_6.toInt ≤ 12 by omega)⟩
      · have g15 : a3_5.toInt ≠ (0 : Int32).toInt := fun z => h_12 (Int32.toInt_inj.mp z)
        refine ok_nm2 (fun x12_6 ex12_6 => ?_)
        have qx12_6 : x12_6.toInt = (a1_1 + 1).toInt := congrArg Int32.toInt ex12_6
        refine ok_nm2 (fun x13_6 ex13_6 => ?_)
        have f16 : (a2_1 + (1 : Int32)).toInt = a2_1.toInt + (1 : Int32).toInt := iadd_toInt (by omega) (by omega)
        have qx13_6 : x13_6.toInt = (a2_1 + 1).toInt := congrArg Int32.toInt ex13_6
        exact hrec_1 _ (x12_6, x13_6) (show (12 + 1 - x13_6.toInt).toNat < n_1 by omega) ⟨rfl, (show 0 ≤ x13_6.toInt by omega), (show x13_6.toInt ≤ 12 by omega)⟩
    · have g17 : ¬ a2_1.toInt ≤ a4_5.toInt := fun z => h_10 (Int32.le_iff_toInt_le.mpr z)
      refine ok_gd.mpr ⟨gb_of (by omega) (by omega), ?_⟩
      refine ok_nm2 (fun v14_6 ev14_6 => ?_)
      have f18 : 0 ≤ (σ2.1 138 a4_5.toNatClampNeg).toInt ∧ (σ2.1 138 a4_5.toNatClampNeg).toInt ≤ 31 := hIσ2 138 _
      have qv14_6 : v14_6.toInt = (σ2.1 138 a4_5.toNatClampNeg).toInt := congrArg Int32.toInt ev14_6
      refine ok_gd.mpr ⟨gb_of (by omega) (by omega), ?_⟩
      refine ok_nm2 (fun v15_6 ev15_6 => ?_)
      have f19 : 0 ≤ (σ2.1 138 a2_1.toNatClampNeg).toInt ∧ (σ2.1 138 a2_1.toNatClampNeg).toInt ≤ 31 := hIσ2 138 _
      have qv15_6 : v15_6.toInt = (σ2.1 138 a2_1.toNatClampNeg).toInt := congrArg Int32.toInt ev15_6
      refine ok_ite.mpr ⟨fun h_20 => ?_, fun h_20 => ?_⟩
      · have g21 : v14_6.toInt = v15_6.toInt := by rw [h_20]
        refine ok_nm2 (fun x18_6 ex18_6 => ?_)
        have qx18_6 : x18_6.toInt = 0 := by rw [ex18_6]; decide
        refine ok_nm2 (fun x19_6 ex19_6 => ?_)
        have f22 : (a4_5 + (1 : Int32)).toInt = a4_5.toInt + (1 : Int32).toInt := iadd_toInt (by omega) (by omega)
        have qx19_6 : x19_6.toInt = (a4_5 + 1).toInt := congrArg Int32.toInt ex19_6
        exact hrec_5 _ (x18_6, x19_6) (show (11 + 1 - x19_6.toInt).toNat < n_5 by omega) ⟨rfl, (show 0 ≤ x18_6.toInt by omega), (show x18_6.toInt ≤ 1 by omega), (show 0 ≤ x19_6.toInt by omega), (show x19_6.toInt ≤ 11 by omega)⟩
      · have g23 : v14_6.toInt ≠ v15_6.toInt := fun z => h_20 (Int32.toInt_inj.mp z)
        refine ok_nm2 (fun x17_6 ex17_6 => ?_)
        have f24 : (a4_5 + (1 : Int32)).toInt = a4_5.toInt + (1 : Int32).toInt := iadd_toInt (by omega) (by omega)
        have qx17_6 : x17_6.toInt = (a4_5 + 1).toInt := congrArg Int32.toInt ex17_6
        exact hrec_5 _ (a3_5, x17_6) (show (11 + 1 - x17_6.toInt).toNat < n_5 by omega) ⟨rfl, (show 0 ≤ a3_5.toInt by omega), (show a3_5.toInt ≤ 1 by omega), (show 0 ≤ x17_6.toInt by omega), (show x17_6.toInt ≤ 11 by omega)⟩
set_option maxRecDepth 20000 in
set_option maxHeartbeats 2000000 in
theorem o_fX9_parts {σ : gS} (hIσ : JC σ)   : Ok (fX9_parts σ ) (fun out => JC out.2 ∧ Fr fr_fX9_parts σ out.2) := by
  unfold fX9_parts
  have hfσ : Fr fr_fX9_parts σ σ := Fr_r
  refine ok_bd2.mpr ((o_fX2_countParts hIσ  ).mono (fun o_1 ho_2 => ?_))
  obtain ⟨r2, σ3⟩ := o_1
  obtain ⟨hIσ3, hcσ3⟩ := ho_2
  dsimp only at hIσ3 hcσ3 ⊢
  have hfσ3 : Fr fr_fX9_parts σ σ3 := Fr_c hfσ hcσ3 (by decide)
  refine ok_some.mpr ?_
  exact ⟨hIσ3, hfσ3⟩
set_option maxRecDepth 20000 in
set_option maxHeartbeats 2000000 in
theorem o_fX2_isJoined {σ : gS} (hIσ : JC σ) {p1 : Int32} {p2 : Int32} (h0p1 : 0 ≤ p1.toInt) (h1p1 : p1.toInt ≤ 11) (h0p2 : 0 ≤ p2.toInt) (h1p2 : p2.toInt ≤ 11) : Ok (fX2_isJoined σ p1 p2) (fun out => JC out.2 ∧ Fr fr_fX2_isJoined σ out.2 ∧ 0 ≤ out.1.toInt ∧ out.1.toInt ≤ 1) := by
  unfold fX2_isJoined
  have hfσ : Fr fr_fX2_isJoined σ σ := Fr_r
  have f1 : (-1 : Int32).toInt = -1 := by decide
  refine ok_bd.mpr ((o_fX2_joinAll hIσ (p1 := (-1 : Int32)) ).mono (fun σ2 ho_3 => ?_))
  obtain ⟨hIσ2, hcσ2⟩ := ho_3
  have hfσ2 : Fr fr_fX2_isJoined σ σ2 := Fr_c hfσ hcσ2 (by decide)
  refine ok_gd.mpr ⟨gb_of (by omega) (by omega), ?_⟩
  refine ok_nm2 (fun v3 ev3 => ?_)
  have f4 : 0 ≤ (σ2.1 138 p1.toNatClampNeg).toInt ∧ (σ2.1 138 p1.toNatClampNeg).toInt ≤ 31 := hIσ2 138 _
  have qv3 : v3.toInt = (σ2.1 138 p1.toNatClampNeg).toInt := congrArg Int32.toInt ev3
  refine ok_gd.mpr ⟨gb_of (by omega) (by omega), ?_⟩
  refine ok_nm2 (fun v4 ev4 => ?_)
  have f5 : 0 ≤ (σ2.1 138 p2.toNatClampNeg).toInt ∧ (σ2.1 138 p2.toNatClampNeg).toInt ≤ 31 := hIσ2 138 _
  have qv4 : v4.toInt = (σ2.1 138 p2.toNatClampNeg).toInt := congrArg Int32.toInt ev4
  refine ok_ite.mpr ⟨fun h_6 => ?_, fun h_6 => ?_⟩
  · have g7 : v3.toInt = v4.toInt := by rw [h_6]
    refine ok_some.mpr ?_
    have f8 : (1 : Int32).toInt = 1 := by decide
    exact ⟨hIσ2, hfσ2, (show 0 ≤ (1 : Int32).toInt by omega), (show (1 : Int32).toInt ≤ 1 by omega)⟩
  · have g9 : v3.toInt ≠ v4.toInt := fun z => h_6 (Int32.toInt_inj.mp z)
    refine ok_some.mpr ?_
    have f10 : (0 : Int32).toInt = 0 := by decide
    exact ⟨hIσ2, hfσ2, (show 0 ≤ (0 : Int32).toInt by omega), (show (0 : Int32).toInt ≤ 1 by omega)⟩
set_option maxRecDepth 20000 in
set_option maxHeartbeats 2000000 in
theorem o_fX9_hang {σ : gS} (hIσ : JC σ) {p1 : Int32} {p2 : Int32}  : Ok (fX9_hang σ p1 p2) (fun out => JC out.2 ∧ Fr fr_fX9_hang σ out.2 ∧ -1 ≤ out.1.toInt ∧ out.1.toInt ≤ 1) := by
  unfold fX9_hang
  have hfσ : Fr fr_fX9_hang σ σ := Fr_r
  refine ok_bd.mpr ?_
  try unfold fX8_exists_2
  refine ok_ite.mpr ⟨fun h_1 => ?_, fun h_1 => ?_⟩
  · have f2 : (0 : Int32).toInt = 0 := by decide
    have g3 : p1.toInt < (0 : Int32).toInt := Int32.lt_iff_toInt_lt.mp h_1
    refine ok_some.mpr ?_
    refine ok_ite.mpr ⟨fun h_4 => ?_, fun h_4 => ?_⟩
    · have g5 : (0 : Int32).toInt = (0 : Int32).toInt := by rw [h_4]
      refine ok_some.mpr ?_
      have f6 : (-1 : Int32).toInt = -1 := by decide
      exact ⟨hIσ, hfσ, (show -1 ≤ (-1 : Int32).toInt by omega), (show (-1 : Int32).toInt ≤ 1 by omega)⟩
    · have g7 : (0 : Int32).toInt ≠ (0 : Int32).toInt := fun z => h_4 (Int32.toInt_inj.mp z)
      exfalso
      omega
  · have f8 : (0 : Int32).toInt = 0 := by decide
    have g9 : ¬ p1.toInt < (0 : Int32).toInt := fun z => h_1 (Int32.lt_iff_toInt_lt.mpr z)
    have f10 : (1 : Int32).toInt = 1 := by decide
    refine ok_gd.mpr ⟨gb_of (by omega) (by omega), ?_⟩
    refine ok_nm2 (fun v2_1 ev2_1 => ?_)
    have f12 : (1 : Int32).toNatClampNeg = (1 : Int32).toInt.toNat := rfl
    have f12_ : ((1 : Int32).toNatClampNeg = 1 ∧ 0 ≤ (σ.1 3 (1 : Int32).toNatClampNeg).toInt ∧ (σ.1 3 (1 : Int32).toNatClampNeg).toInt ≤ 12) := by
      have hb := hIσ 3 (1 : Int32).toNatClampNeg
      have hj : (1 : Int32).toNatClampNeg = 1 := by omega
      generalize (1 : Int32).toNatClampNeg = j at hb hj ⊢
      obtain rfl := hj
      exact ⟨rfl, hb.1, hb.2⟩
    have qv2_1 : v2_1.toInt = (σ.1 3 (1 : Int32).toNatClampNeg).toInt := congrArg Int32.toInt ev2_1
    refine ok_ite.mpr ⟨fun h_13 => ?_, fun h_13 => ?_⟩
    · have g14 : v2_1.toInt ≤ p1.toInt := Int32.le_iff_toInt_le.mp h_13
      refine ok_some.mpr ?_
      refine ok_ite.mpr ⟨fun h_15 => ?_, fun h_15 => ?_⟩
      · have g16 : (0 : Int32).toInt = (0 : Int32).toInt := by rw [h_15]
        refine ok_some.mpr ?_
        have f17 : (-1 : Int32).toInt = -1 := by decide
        exact ⟨hIσ, hfσ, (show -1 ≤ (-1 : Int32).toInt by omega), (show (-1 : Int32).toInt ≤ 1 by omega)⟩
      · have g18 : (0 : Int32).toInt ≠ (0 : Int32).toInt := fun z => h_15 (Int32.toInt_inj.mp z)
        exfalso
        omega
    · have g19 : ¬ v2_1.toInt ≤ p1.toInt := fun z => h_13 (Int32.le_iff_toInt_le.mpr z)
      refine ok_some.mpr ?_
      refine ok_ite.mpr ⟨fun h_20 => ?_, fun h_20 => ?_⟩
      · have g21 : (1 : Int32).toInt = (0 : Int32).toInt := by rw [h_20]
        exfalso
        omega
      · have g22 : (1 : Int32).toInt ≠ (0 : Int32).toInt := fun z => h_20 (Int32.toInt_inj.mp z)
        refine ok_bd.mpr ?_
        try unfold fX8_exists_2
        refine ok_ite.mpr ⟨fun h_23 => ?_, fun h_23 => ?_⟩
        · have g24 : p2.toInt < (0 : Int32).toInt := Int32.lt_iff_toInt_lt.mp h_23
          refine ok_some.mpr ?_
          refine ok_ite.mpr ⟨fun h_25 => ?_, fun h_25 => ?_⟩
          · have g26 : (0 : Int32).toInt = (0 : Int32).toInt := by rw [h_25]
            refine ok_some.mpr ?_
            have f27 : (-1 : Int32).toInt = -1 := by decide
            exact ⟨hIσ, hfσ, (show -1 ≤ (-1 : Int32).toInt by omega), (show (-1 : Int32).toInt ≤ 1 by omega)⟩
          · have g28 : (0 : Int32).toInt ≠ (0 : Int32).toInt := fun z => h_25 (Int32.toInt_inj.mp z)
            exfalso
            omega
        · have g29 : ¬ p2.toInt < (0 : Int32).toInt := fun z => h_23 (Int32.lt_iff_toInt_lt.mpr z)
          refine ok_gd.mpr ⟨gb_of (by omega) (by omega), ?_⟩
          refine ok_nm2 (fun v2_5 ev2_5 => ?_)
          have qv2_5 : v2_5.toInt = (σ.1 3 (1 : Int32).toNatClampNeg).toInt := congrArg Int32.toInt ev2_5
          refine ok_ite.mpr ⟨fun h_30 => ?_, fun h_30 => ?_⟩
          · have g31 : v2_5.toInt ≤ p2.toInt := Int32.le_iff_toInt_le.mp h_30
            refine ok_some.mpr ?_
            refine ok_ite.mpr ⟨fun h_32 => ?_, fun h_32 => ?_⟩
            · have g33 : (0 : Int32).toInt = (0 : Int32).toInt := by rw [h_32]
              refine ok_some.mpr ?_
              have f34 : (-1 : Int32).toInt = -1 := by decide
              exact ⟨hIσ, hfσ, (show -1 ≤ (-1 : Int32).toInt by omega), (show (-1 : Int32).toInt ≤ 1 by omega)⟩
            · have g35 : (0 : Int32).toInt ≠ (0 : Int32).toInt := fun z => h_32 (Int32.toInt_inj.mp z)
              exfalso
              omega
          · have g36 : ¬ v2_5.toInt ≤ p2.toInt := fun z => h_30 (Int32.le_iff_toInt_le.mpr z)
            refine ok_some.mpr ?_
            refine ok_ite.mpr ⟨fun h_37 => ?_, fun h_37 => ?_⟩
            · have g38 : (1 : Int32).toInt = (0 : Int32).toInt := by rw [h_37]
              exfalso
              omega
            · have g39 : (1 : Int32).toInt ≠ (0 : Int32).toInt := fun z => h_37 (Int32.toInt_inj.mp z)
              refine ok_bd2.mpr ((o_fX2_isJoined hIσ (p1 := p1) (p2 := p2) (by omega) (by omega) (by omega) (by omega)).mono (fun o_40 ho_41 => ?_))
              obtain ⟨r8_4_8, σ9_4_8⟩ := o_40
              obtain ⟨hIσ9_4_8, hcσ9_4_8, r0r8_4_8, r1r8_4_8⟩ := ho_41
              dsimp only at hIσ9_4_8 hcσ9_4_8 r0r8_4_8 r1r8_4_8 ⊢
              have hfσ9_4_8 : Fr fr_fX9_hang σ σ9_4_8 := Fr_c hfσ hcσ9_4_8 (by decide)
              refine ok_ite.mpr ⟨fun h_42 => ?_, fun h_42 => ?_⟩
              · have g43 : r8_4_8.toInt = (0 : Int32).toInt := by rw [h_42]
                refine ok_some.mpr ?_
                exact ⟨hIσ9_4_8, hfσ9_4_8, (show -1 ≤ (0 : Int32).toInt by omega), (show (0 : Int32).toInt ≤ 1 by omega)⟩
              · have g44 : r8_4_8.toInt ≠ (0 : Int32).toInt := fun z => h_42 (Int32.toInt_inj.mp z)
                refine ok_some.mpr ?_
                exact ⟨hIσ9_4_8, hfσ9_4_8, (show -1 ≤ (1 : Int32).toInt by omega), (show (1 : Int32).toInt ≤ 1 by omega)⟩
set_option maxRecDepth 20000 in
set_option maxHeartbeats 2000000 in
theorem o_fX9_blind {σ : gS} (hIσ : JC σ)   : Ok (fX9_blind σ ) (fun out => JC out.2 ∧ Fr fr_fX9_blind σ out.2) := by
  unfold fX9_blind
  have hfσ : Fr fr_fX9_blind σ σ := Fr_r
  refine ok_nm2 (fun x1 ex1 => ?_)
  have f1 : (0 : Int32).toInt = 0 := by decide
  have qx1 : x1.toInt = 0 := by rw [ex1]; decide
  refine ok_nm2 (fun x2 ex2 => ?_)
  have qx2 : x2.toInt = 0 := by rw [ex2]; decide
  refine ok_lpc (I := fun n s => n = (60 + 1 - s.2.1.toInt).toNat ∧ JC s.2.2 ∧ Fr fr_fX9_blind σ s.2.2 ∧ 0 ≤ s.2.1.toInt ∧ s.2.1.toInt ≤ 60) (fun rec4_1r n_1 s_1 hs_1 hrec_1 => ?_) K9 ((60 + 1 - x2.toInt).toNat) (x1, x2, σ) ⟨rfl, hIσ, hfσ, (show 0 ≤ x2.toInt by omega), (show x2.toInt ≤ 60 by omega)⟩ (by unfold K9; omega)
  obtain ⟨a1_1, a2_1, σ1_1⟩ := s_1
  obtain ⟨hn_1, hIσ1_1, hfσ1_1, b0a2_1, b1a2_1⟩ := hs_1
  dsimp only at hn_1 hIσ1_1 hfσ1_1 b0a2_1 b1a2_1
  unfold bX9_blind_4
  try dsimp only
  have f2 : (3 : Int32).toInt = 3 := by decide
  refine ok_gd.mpr ⟨gb_of (by omega) (by omega), ?_⟩
  refine ok_nm2 (fun v3_30 ev3_30 => ?_)
  have f3 : 0 ≤ (σ1_1.1 3 3).toInt ∧ (σ1_1.1 3 3).toInt ≤ 60 := hIσ1_1 3 3
  have qv3_30 : v3_30.toInt = (σ1_1.1 3 3).toInt := congrArg Int32.toInt ev3_30
  refine ok_ite.mpr ⟨fun h_4 => ?_, fun h_4 => ?_⟩
  · have g5 : v3_30.toInt ≤ a2_1.toInt := Int32.le_iff_toInt_le.mp h_4
    refine ok_some.mpr ?_
    exact ⟨hIσ1_1, hfσ1_1⟩
  · have g6 : ¬ v3_30.toInt ≤ a2_1.toInt := fun z => h_4 (Int32.le_iff_toInt_le.mpr z)
    refine ok_bd.mpr ?_
    try unfold fX5_uses_47
    refine ok_gd.mpr ⟨gb_of (by omega) (by omega), ?_⟩
    refine ok_nm2 (fun v1_31 ev1_31 => ?_)
    have qv1_31 : v1_31.toInt = (σ1_1.1 58 a2_1.toNatClampNeg).toInt := congrArg Int32.toInt ev1_31
    refine ok_ite.mpr ⟨fun h_7 => ?_, fun h_7 => ?_⟩
    · have g8 : v1_31.toInt = (0 : Int32).toInt := by rw [h_7]
      refine ok_some.mpr ?_
      refine ok_ite.mpr ⟨fun h_9 => ?_, fun h_9 => ?_⟩
      · have f10 : (1 : Int32).toInt = 1 := by decide
        have g11 : (1 : Int32).toInt = (0 : Int32).toInt := by rw [h_9]
        exfalso
        omega
      · have f12 : (1 : Int32).toInt = 1 := by decide
        have g13 : (1 : Int32).toInt ≠ (0 : Int32).toInt := fun z => h_9 (Int32.toInt_inj.mp z)
        refine ok_bd2.mpr ((o_fX2_canShow hIσ1_1 (p1 := a2_1) (by omega) (by omega)).mono (fun o_14 ho_15 => ?_))
        obtain ⟨r10_30_32, σ11_30_32⟩ := o_14
        obtain ⟨hIσ11_30_32, hcσ11_30_32, r0r10_30_32, r1r10_30_32⟩ := ho_15
        dsimp only at hIσ11_30_32 hcσ11_30_32 r0r10_30_32 r1r10_30_32 ⊢
        have hfσ11_30_32 : Fr fr_fX9_blind σ σ11_30_32 := Fr_c hfσ1_1 hcσ11_30_32 (by decide)
        refine ok_ite.mpr ⟨fun h_16 => ?_, fun h_16 => ?_⟩
        · have g17 : r10_30_32.toInt = (0 : Int32).toInt := by rw [h_16]
          refine ok_nm2 (fun x14_30_32 ex14_30_32 => ?_)
          have qx14_30_32 : x14_30_32.toInt = (a1_1 + 1).toInt := congrArg Int32.toInt ex14_30_32
          refine ok_nm2 (fun x15_30_32 ex15_30_32 => ?_)
          have f18 : (a2_1 + (1 : Int32)).toInt = a2_1.toInt + (1 : Int32).toInt := iadd_toInt (by omega) (by omega)
          have qx15_30_32 : x15_30_32.toInt = (a2_1 + 1).toInt := congrArg Int32.toInt ex15_30_32
          exact hrec_1 _ (x14_30_32, x15_30_32, σ11_30_32) (show (60 + 1 - x15_30_32.toInt).toNat < n_1 by omega) ⟨rfl, hIσ11_30_32, hfσ11_30_32, (show 0 ≤ x15_30_32.toInt by omega), (show x15_30_32.toInt ≤ 60 by omega)⟩
        · have g19 : r10_30_32.toInt ≠ (0 : Int32).toInt := fun z => h_16 (Int32.toInt_inj.mp z)
          refine ok_nm2 (fun x13_30_32 ex13_30_32 => ?_)
          have f20 : (a2_1 + (1 : Int32)).toInt = a2_1.toInt + (1 : Int32).toInt := iadd_toInt (by omega) (by omega)
          have qx13_30_32 : x13_30_32.toInt = (a2_1 + 1).toInt := congrArg Int32.toInt ex13_30_32
          exact hrec_1 _ (a1_1, x13_30_32, σ11_30_32) (show (60 + 1 - x13_30_32.toInt).toNat < n_1 by omega) ⟨rfl, hIσ11_30_32, hfσ11_30_32, (show 0 ≤ x13_30_32.toInt by omega), (show x13_30_32.toInt ≤ 60 by omega)⟩
    · have g21 : v1_31.toInt ≠ (0 : Int32).toInt := fun z => h_7 (Int32.toInt_inj.mp z)
      refine ok_some.mpr ?_
      refine ok_ite.mpr ⟨fun h_22 => ?_, fun h_22 => ?_⟩
      · have g23 : (0 : Int32).toInt = (0 : Int32).toInt := by rw [h_22]
        refine ok_nm2 (fun x8_30_33 ex8_30_33 => ?_)
        have f24 : (1 : Int32).toInt = 1 := by decide
        have f25 : (a2_1 + (1 : Int32)).toInt = a2_1.toInt + (1 : Int32).toInt := iadd_toInt (by omega) (by omega)
        have qx8_30_33 : x8_30_33.toInt = (a2_1 + 1).toInt := congrArg Int32.toInt ex8_30_33
        exact hrec_1 _ (a1_1, x8_30_33, σ1_1) (show (60 + 1 - x8_30_33.toInt).toNat < n_1 by omega) ⟨rfl, hIσ1_1, hfσ1_1, (show 0 ≤ x8_30_33.toInt by omega), (show x8_30_33.toInt ≤ 60 by omega)⟩
      · have g26 : (0 : Int32).toInt ≠ (0 : Int32).toInt := fun z => h_22 (Int32.toInt_inj.mp z)
        exfalso
        omega
set_option maxRecDepth 20000 in
set_option maxHeartbeats 2000000 in
theorem o_fX2_countLoose {σ : gS} (hIσ : JC σ) {p1 : Int32}  : Ok (fX2_countLoose σ p1) (fun out => JC out.2 ∧ Fr fr_fX2_countLoose σ out.2) := by
  unfold fX2_countLoose
  have hfσ : Fr fr_fX2_countLoose σ σ := Fr_r
  refine ok_bd.mpr ((o_fX2_joinAll hIσ (p1 := p1) ).mono (fun σ2 ho_2 => ?_))
  obtain ⟨hIσ2, hcσ2⟩ := ho_2
  have hfσ2 : Fr fr_fX2_countLoose σ σ2 := Fr_c hfσ hcσ2 (by decide)
  refine ok_nm2 (fun x3 ex3 => ?_)
  have f3 : (0 : Int32).toInt = 0 := by decide
  have qx3 : x3.toInt = 0 := by rw [ex3]; decide
  refine ok_nm2 (fun x4 ex4 => ?_)
  have qx4 : x4.toInt = 0 := by rw [ex4]; decide
  refine ok_lpc (I := fun n s => n = (12 + 1 - s.2.toInt).toNat ∧ 0 ≤ s.2.toInt ∧ s.2.toInt ≤ 12) (fun rec9_1r n_1 s_1 hs_1 hrec_1 => ?_) K9 ((12 + 1 - x4.toInt).toNat) (x3, x4) ⟨rfl, (show 0 ≤ x4.toInt by omega), (show x4.toInt ≤ 12 by omega)⟩ (by unfold K9; omega)
  obtain ⟨a2_1, a3_1⟩ := s_1
  obtain ⟨hn_1, b0a3_1, b1a3_1⟩ := hs_1
  dsimp only at hn_1 b0a3_1 b1a3_1
  unfold bX2_countLoose_9
  try dsimp only
  have f4 : (1 : Int32).toInt = 1 := by decide
  refine ok_gd.mpr ⟨gb_of (by omega) (by omega), ?_⟩
  refine ok_nm2 (fun v5_30 ev5_30 => ?_)
  have f5 : 0 ≤ (σ2.1 3 1).toInt ∧ (σ2.1 3 1).toInt ≤ 12 := hIσ2 3 1
  have qv5_30 : v5_30.toInt = (σ2.1 3 1).toInt := congrArg Int32.toInt ev5_30
  refine ok_ite.mpr ⟨fun h_6 => ?_, fun h_6 => ?_⟩
  · have g7 : v5_30.toInt ≤ a3_1.toInt := Int32.le_iff_toInt_le.mp h_6
    refine ok_some.mpr ?_
    exact ⟨hIσ2, hfσ2⟩
  · have g8 : ¬ v5_30.toInt ≤ a3_1.toInt := fun z => h_6 (Int32.le_iff_toInt_le.mpr z)
    refine ok_bd.mpr ?_
    try unfold fX2_isLoose
    refine ok_gd.mpr ⟨gb_of (by omega) (by omega), ?_⟩
    refine ok_nm2 (fun v1_31 ev1_31 => ?_)
    have f9 : 0 ≤ (σ2.1 138 a3_1.toNatClampNeg).toInt ∧ (σ2.1 138 a3_1.toNatClampNeg).toInt ≤ 31 := hIσ2 138 _
    have qv1_31 : v1_31.toInt = (σ2.1 138 a3_1.toNatClampNeg).toInt := congrArg Int32.toInt ev1_31
    refine ok_gd.mpr ⟨gb_of (by omega) (by omega), ?_⟩
    refine ok_nm2 (fun v2_31 ev2_31 => ?_)
    have qv2_31 : v2_31.toInt = (σ2.1 139 v1_31.toNatClampNeg).toInt := congrArg Int32.toInt ev2_31
    refine ok_ite.mpr ⟨fun h_10 => ?_, fun h_10 => ?_⟩
    · have g11 : v2_31.toInt = (0 : Int32).toInt := by rw [h_10]
      refine ok_some.mpr ?_
      refine ok_ite.mpr ⟨fun h_12 => ?_, fun h_12 => ?_⟩
      · have g13 : (1 : Int32).toInt = (0 : Int32).toInt := by rw [h_12]
        exfalso
        omega
      · have g14 : (1 : Int32).toInt ≠ (0 : Int32).toInt := fun z => h_12 (Int32.toInt_inj.mp z)
        refine ok_nm2 (fun x11_30_32 ex11_30_32 => ?_)
        have qx11_30_32 : x11_30_32.toInt = (a2_1 + 1).toInt := congrArg Int32.toInt ex11_30_32
        refine ok_nm2 (fun x12_30_32 ex12_30_32 => ?_)
        have f15 : (a3_1 + (1 : Int32)).toInt = a3_1.toInt + (1 : Int32).toInt := iadd_toInt (by omega) (by omega)
        have qx12_30_32 : x12_30_32.toInt = (a3_1 + 1).toInt := congrArg Int32.toInt ex12_30_32
        exact hrec_1 _ (x11_30_32, x12_30_32) (show (12 + 1 - x12_30_32.toInt).toNat < n_1 by omega) ⟨rfl, (show 0 ≤ x12_30_32.toInt by omega), (show x12_30_32.toInt ≤ 12 by omega)⟩
    · have g16 : v2_31.toInt ≠ (0 : Int32).toInt := fun z => h_10 (Int32.toInt_inj.mp z)
      refine ok_some.mpr ?_
      refine ok_ite.mpr ⟨fun h_17 => ?_, fun h_17 => ?_⟩
      · have g18 : (0 : Int32).toInt = (0 : Int32).toInt := by rw [h_17]
        refine ok_nm2 (fun x10_30_33 ex10_30_33 => ?_)
        have f19 : (a3_1 + (1 : Int32)).toInt = a3_1.toInt + (1 : Int32).toInt := iadd_toInt (by omega) (by omega)
        have qx10_30_33 : x10_30_33.toInt = (a3_1 + 1).toInt := congrArg Int32.toInt ex10_30_33
        exact hrec_1 _ (a2_1, x10_30_33) (show (12 + 1 - x10_30_33.toInt).toNat < n_1 by omega) ⟨rfl, (show 0 ≤ x10_30_33.toInt by omega), (show x10_30_33.toInt ≤ 12 by omega)⟩
      · have g20 : (0 : Int32).toInt ≠ (0 : Int32).toInt := fun z => h_17 (Int32.toInt_inj.mp z)
        exfalso
        omega
set_option maxRecDepth 20000 in
set_option maxHeartbeats 2000000 in
theorem o_fX9_needs {σ : gS} (hIσ : JC σ) {p1 : Int32}  : Ok (fX9_needs σ p1) (fun out => JC out.2 ∧ Fr fr_fX9_needs σ out.2) := by
  unfold fX9_needs
  have hfσ : Fr fr_fX9_needs σ σ := Fr_r
  refine ok_bd.mpr ?_
  try unfold fX8_exists_2
  refine ok_ite.mpr ⟨fun h_1 => ?_, fun h_1 => ?_⟩
  · have f2 : (0 : Int32).toInt = 0 := by decide
    have g3 : p1.toInt < (0 : Int32).toInt := Int32.lt_iff_toInt_lt.mp h_1
    refine ok_some.mpr ?_
    refine ok_ite.mpr ⟨fun h_4 => ?_, fun h_4 => ?_⟩
    · have g5 : (0 : Int32).toInt = (0 : Int32).toInt := by rw [h_4]
      refine ok_some.mpr ?_
      have f6 : (-1 : Int32).toInt = -1 := by decide
      exact ⟨hIσ, hfσ⟩
    · have g7 : (0 : Int32).toInt ≠ (0 : Int32).toInt := fun z => h_4 (Int32.toInt_inj.mp z)
      exfalso
      omega
  · have f8 : (0 : Int32).toInt = 0 := by decide
    have g9 : ¬ p1.toInt < (0 : Int32).toInt := fun z => h_1 (Int32.lt_iff_toInt_lt.mpr z)
    have f10 : (3 : Int32).toInt = 3 := by decide
    refine ok_gd.mpr ⟨gb_of (by omega) (by omega), ?_⟩
    refine ok_nm2 (fun v2_1 ev2_1 => ?_)
    have f12 : (3 : Int32).toNatClampNeg = (3 : Int32).toInt.toNat := rfl
    have f12_ : ((3 : Int32).toNatClampNeg = 3 ∧ 0 ≤ (σ.1 3 (3 : Int32).toNatClampNeg).toInt ∧ (σ.1 3 (3 : Int32).toNatClampNeg).toInt ≤ 60) := by
      have hb := hIσ 3 (3 : Int32).toNatClampNeg
      have hj : (3 : Int32).toNatClampNeg = 3 := by omega
      generalize (3 : Int32).toNatClampNeg = j at hb hj ⊢
      obtain rfl := hj
      exact ⟨rfl, hb.1, hb.2⟩
    have qv2_1 : v2_1.toInt = (σ.1 3 (3 : Int32).toNatClampNeg).toInt := congrArg Int32.toInt ev2_1
    refine ok_ite.mpr ⟨fun h_13 => ?_, fun h_13 => ?_⟩
    · have g14 : v2_1.toInt ≤ p1.toInt := Int32.le_iff_toInt_le.mp h_13
      refine ok_some.mpr ?_
      refine ok_ite.mpr ⟨fun h_15 => ?_, fun h_15 => ?_⟩
      · have g16 : (0 : Int32).toInt = (0 : Int32).toInt := by rw [h_15]
        refine ok_some.mpr ?_
        have f17 : (-1 : Int32).toInt = -1 := by decide
        exact ⟨hIσ, hfσ⟩
      · have g18 : (0 : Int32).toInt ≠ (0 : Int32).toInt := fun z => h_15 (Int32.toInt_inj.mp z)
        exfalso
        omega
    · have g19 : ¬ v2_1.toInt ≤ p1.toInt := fun z => h_13 (Int32.le_iff_toInt_le.mpr z)
      refine ok_some.mpr ?_
      refine ok_ite.mpr ⟨fun h_20 => ?_, fun h_20 => ?_⟩
      · have f21 : (1 : Int32).toInt = 1 := by decide
        have g22 : (1 : Int32).toInt = (0 : Int32).toInt := by rw [h_20]
        exfalso
        omega
      · have f23 : (1 : Int32).toInt = 1 := by decide
        have g24 : (1 : Int32).toInt ≠ (0 : Int32).toInt := fun z => h_20 (Int32.toInt_inj.mp z)
        refine ok_bd.mpr ?_
        try unfold fX5_uses_47
        refine ok_gd.mpr ⟨gb_of (by omega) (by omega), ?_⟩
        refine ok_nm2 (fun v1_5 ev1_5 => ?_)
        have qv1_5 : v1_5.toInt = (σ.1 58 p1.toNatClampNeg).toInt := congrArg Int32.toInt ev1_5
        refine ok_ite.mpr ⟨fun h_25 => ?_, fun h_25 => ?_⟩
        · have g26 : v1_5.toInt = (0 : Int32).toInt := by rw [h_25]
          refine ok_some.mpr ?_
          refine ok_ite.mpr ⟨fun h_27 => ?_, fun h_27 => ?_⟩
          · have g28 : (1 : Int32).toInt = (0 : Int32).toInt := by rw [h_27]
            exfalso
            omega
          · have g29 : (1 : Int32).toInt ≠ (0 : Int32).toInt := fun z => h_27 (Int32.toInt_inj.mp z)
            refine ok_bd2.mpr ((o_fX2_countLoose hIσ (p1 := p1) ).mono (fun o_30 ho_31 => ?_))
            obtain ⟨r8_4_6, σ9_4_6⟩ := o_30
            obtain ⟨hIσ9_4_6, hcσ9_4_6⟩ := ho_31
            dsimp only at hIσ9_4_6 hcσ9_4_6 ⊢
            have hfσ9_4_6 : Fr fr_fX9_needs σ σ9_4_6 := Fr_c hfσ hcσ9_4_6 (by decide)
            have f32 : (-1 : Int32).toInt = -1 := by decide
            refine ok_bd2.mpr ((o_fX2_countLoose hIσ9_4_6 (p1 := (-1 : Int32)) ).mono (fun o_33 ho_34 => ?_))
            obtain ⟨r11_4_6, σ12_4_6⟩ := o_33
            obtain ⟨hIσ12_4_6, hcσ12_4_6⟩ := ho_34
            dsimp only at hIσ12_4_6 hcσ12_4_6 ⊢
            have hfσ12_4_6 : Fr fr_fX9_needs σ σ12_4_6 := Fr_c hfσ9_4_6 hcσ12_4_6 (by decide)
            refine ok_some.mpr ?_
            exact ⟨hIσ12_4_6, hfσ12_4_6⟩
        · have g35 : v1_5.toInt ≠ (0 : Int32).toInt := fun z => h_25 (Int32.toInt_inj.mp z)
          refine ok_some.mpr ?_
          refine ok_ite.mpr ⟨fun h_36 => ?_, fun h_36 => ?_⟩
          · have g37 : (0 : Int32).toInt = (0 : Int32).toInt := by rw [h_36]
            refine ok_some.mpr ?_
            have f38 : (-1 : Int32).toInt = -1 := by decide
            exact ⟨hIσ, hfσ⟩
          · have g39 : (0 : Int32).toInt ≠ (0 : Int32).toInt := fun z => h_36 (Int32.toInt_inj.mp z)
            exfalso
            omega
set_option maxRecDepth 20000 in
set_option maxHeartbeats 2000000 in
theorem o_fX9_doubt {σ : gS} (hIσ : JC σ) {p1 : Int32}  : Ok (fX9_doubt σ p1) (fun _ => True) := by
  unfold fX9_doubt
  refine ok_bd.mpr ?_
  try unfold fX8_exists_2
  refine ok_ite.mpr ⟨fun h_1 => ?_, fun h_1 => ?_⟩
  · have f2 : (0 : Int32).toInt = 0 := by decide
    have g3 : p1.toInt < (0 : Int32).toInt := Int32.lt_iff_toInt_lt.mp h_1
    refine ok_some.mpr ?_
    refine ok_ite.mpr ⟨fun h_4 => ?_, fun h_4 => ?_⟩
    · have g5 : (0 : Int32).toInt = (0 : Int32).toInt := by rw [h_4]
      refine ok_some.mpr ?_
      have f6 : (-1 : Int64).toInt = -1 := by decide
      exact trivial
    · have g7 : (0 : Int32).toInt ≠ (0 : Int32).toInt := fun z => h_4 (Int32.toInt_inj.mp z)
      exfalso
      omega
  · have f8 : (0 : Int32).toInt = 0 := by decide
    have g9 : ¬ p1.toInt < (0 : Int32).toInt := fun z => h_1 (Int32.lt_iff_toInt_lt.mpr z)
    have f10 : (3 : Int32).toInt = 3 := by decide
    refine ok_gd.mpr ⟨gb_of (by omega) (by omega), ?_⟩
    refine ok_nm2 (fun v2_1 ev2_1 => ?_)
    have f12 : (3 : Int32).toNatClampNeg = (3 : Int32).toInt.toNat := rfl
    have f12_ : ((3 : Int32).toNatClampNeg = 3 ∧ 0 ≤ (σ.1 3 (3 : Int32).toNatClampNeg).toInt ∧ (σ.1 3 (3 : Int32).toNatClampNeg).toInt ≤ 60) := by
      have hb := hIσ 3 (3 : Int32).toNatClampNeg
      have hj : (3 : Int32).toNatClampNeg = 3 := by omega
      generalize (3 : Int32).toNatClampNeg = j at hb hj ⊢
      obtain rfl := hj
      exact ⟨rfl, hb.1, hb.2⟩
    have qv2_1 : v2_1.toInt = (σ.1 3 (3 : Int32).toNatClampNeg).toInt := congrArg Int32.toInt ev2_1
    refine ok_ite.mpr ⟨fun h_13 => ?_, fun h_13 => ?_⟩
    · have g14 : v2_1.toInt ≤ p1.toInt := Int32.le_iff_toInt_le.mp h_13
      refine ok_some.mpr ?_
      refine ok_ite.mpr ⟨fun h_15 => ?_, fun h_15 => ?_⟩
      · have g16 : (0 : Int32).toInt = (0 : Int32).toInt := by rw [h_15]
        refine ok_some.mpr ?_
        have f17 : (-1 : Int64).toInt = -1 := by decide
        exact trivial
      · have g18 : (0 : Int32).toInt ≠ (0 : Int32).toInt := fun z => h_15 (Int32.toInt_inj.mp z)
        exfalso
        omega
    · have g19 : ¬ v2_1.toInt ≤ p1.toInt := fun z => h_13 (Int32.le_iff_toInt_le.mpr z)
      refine ok_some.mpr ?_
      refine ok_ite.mpr ⟨fun h_20 => ?_, fun h_20 => ?_⟩
      · have f21 : (1 : Int32).toInt = 1 := by decide
        have g22 : (1 : Int32).toInt = (0 : Int32).toInt := by rw [h_20]
        exfalso
        omega
      · have f23 : (1 : Int32).toInt = 1 := by decide
        have g24 : (1 : Int32).toInt ≠ (0 : Int32).toInt := fun z => h_20 (Int32.toInt_inj.mp z)
        refine ok_bd.mpr ((o_fX5_doubtOf_47 hIσ (p1 := p1) (by omega) (by omega)).mono (fun r5_4 ho_26 => ?_))
        refine ok_some.mpr ?_
        exact trivial
set_option maxRecDepth 20000 in
set_option maxHeartbeats 2000000 in
theorem o_fX9_findWorst {σ : gS} (hIσ : JC σ)   : Ok (fX9_findWorst σ ) (fun out => JC out.2 ∧ Fr fr_fX9_findWorst σ out.2 ∧ -1 ≤ out.1.toInt ∧ out.1.toInt ≤ 59) := by
  unfold fX9_findWorst
  have hfσ : Fr fr_fX9_findWorst σ σ := Fr_r
  refine ok_nm2 (fun x1 ex1 => ?_)
  have f1 : (-1 : Int32).toInt = -1 := by decide
  have qx1 : x1.toInt = -1 := by rw [ex1]; decide
  refine ok_nm2 (fun x2 ex2 => ?_)
  have f2 : (-1 : Int64).toInt = -1 := by decide
  have qx2 : x2.toInt = (-1 : Int64).toInt := congrArg Int64.toInt ex2
  refine ok_nm2 (fun x3 ex3 => ?_)
  have f3 : (0 : Int32).toInt = 0 := by decide
  have qx3 : x3.toInt = 0 := by rw [ex3]; decide
  refine ok_lpc (I := fun n s => n = (60 + 1 - s.2.2.1.toInt).toNat ∧ JC s.2.2.2 ∧ Fr fr_fX9_findWorst σ s.2.2.2 ∧ -1 ≤ s.1.toInt ∧ s.1.toInt ≤ 59 ∧ 0 ≤ s.2.2.1.toInt ∧ s.2.2.1.toInt ≤ 60) (fun rec9_1r n_1 s_1 hs_1 hrec_1 => ?_) K9 ((60 + 1 - x3.toInt).toNat) (x1, x2, x3, σ) ⟨rfl, hIσ, hfσ, (show -1 ≤ x1.toInt by omega), (show x1.toInt ≤ 59 by omega), (show 0 ≤ x3.toInt by omega), (show x3.toInt ≤ 60 by omega)⟩ (by unfold K9; omega)
  obtain ⟨a1_1, a2_1, a4_1, σ1_1⟩ := s_1
  obtain ⟨hn_1, hIσ1_1, hfσ1_1, b0a1_1, b1a1_1, b0a4_1, b1a4_1⟩ := hs_1
  dsimp only at hn_1 hIσ1_1 hfσ1_1 b0a1_1 b1a1_1 b0a4_1 b1a4_1
  unfold bX9_findWorst_9
  try dsimp only
  have f4 : (3 : Int32).toInt = 3 := by decide
  refine ok_gd.mpr ⟨gb_of (by omega) (by omega), ?_⟩
  refine ok_nm2 (fun v4_2 ev4_2 => ?_)
  have f5 : 0 ≤ (σ1_1.1 3 3).toInt ∧ (σ1_1.1 3 3).toInt ≤ 60 := hIσ1_1 3 3
  have qv4_2 : v4_2.toInt = (σ1_1.1 3 3).toInt := congrArg Int32.toInt ev4_2
  refine ok_ite.mpr ⟨fun h_6 => ?_, fun h_6 => ?_⟩
  · have g7 : v4_2.toInt ≤ a4_1.toInt := Int32.le_iff_toInt_le.mp h_6
    refine ok_some.mpr ?_
    exact ⟨hIσ1_1, hfσ1_1, (show -1 ≤ a1_1.toInt by omega), (show a1_1.toInt ≤ 59 by omega)⟩
  · have g8 : ¬ v4_2.toInt ≤ a4_1.toInt := fun z => h_6 (Int32.le_iff_toInt_le.mpr z)
    refine ok_bd.mpr ((o_fX5_doubtOf_47 hIσ1_1 (p1 := a4_1) (by omega) (by omega)).mono (fun r7_2 ho_10 => ?_))
    refine ok_nm.mpr ?_
    refine ok_ite.mpr ⟨fun h_11 => ?_, fun h_11 => ?_⟩
    · have g12 : r7_2.toInt ≤ a2_1.toInt := Int64.le_iff_toInt_le.mp h_11
      refine ok_nm2 (fun x10_2_3 ex10_2_3 => ?_)
      have f13 : (1 : Int32).toInt = 1 := by decide
      have f14 : (a4_1 + (1 : Int32)).toInt = a4_1.toInt + (1 : Int32).toInt := iadd_toInt (by omega) (by omega)
      have qx10_2_3 : x10_2_3.toInt = (a4_1 + 1).toInt := congrArg Int32.toInt ex10_2_3
      exact hrec_1 _ (a1_1, a2_1, x10_2_3, σ1_1) (show (60 + 1 - x10_2_3.toInt).toNat < n_1 by omega) ⟨rfl, hIσ1_1, hfσ1_1, (show -1 ≤ a1_1.toInt by omega), (show a1_1.toInt ≤ 59 by omega), (show 0 ≤ x10_2_3.toInt by omega), (show x10_2_3.toInt ≤ 60 by omega)⟩
    · have g15 : ¬ r7_2.toInt ≤ a2_1.toInt := fun z => h_11 (Int64.le_iff_toInt_le.mpr z)
      refine ok_bd2.mpr ((o_fX2_canShow hIσ1_1 (p1 := a4_1) (by omega) (by omega)).mono (fun o_16 ho_17 => ?_))
      obtain ⟨r12_2_3, σ13_2_3⟩ := o_16
      obtain ⟨hIσ13_2_3, hcσ13_2_3, r0r12_2_3, r1r12_2_3⟩ := ho_17
      dsimp only at hIσ13_2_3 hcσ13_2_3 r0r12_2_3 r1r12_2_3 ⊢
      have hfσ13_2_3 : Fr fr_fX9_findWorst σ σ13_2_3 := Fr_c hfσ1_1 hcσ13_2_3 (by decide)
      refine ok_ite.mpr ⟨fun h_18 => ?_, fun h_18 => ?_⟩
      · have g19 : r12_2_3.toInt = (0 : Int32).toInt := by rw [h_18]
        refine ok_nm2 (fun x15_2_3 ex15_2_3 => ?_)
        have f20 : (1 : Int32).toInt = 1 := by decide
        have f21 : (a4_1 + (1 : Int32)).toInt = a4_1.toInt + (1 : Int32).toInt := iadd_toInt (by omega) (by omega)
        have qx15_2_3 : x15_2_3.toInt = (a4_1 + 1).toInt := congrArg Int32.toInt ex15_2_3
        exact hrec_1 _ (a1_1, a2_1, x15_2_3, σ13_2_3) (show (60 + 1 - x15_2_3.toInt).toNat < n_1 by omega) ⟨rfl, hIσ13_2_3, hfσ13_2_3, (show -1 ≤ a1_1.toInt by omega), (show a1_1.toInt ≤ 59 by omega), (show 0 ≤ x15_2_3.toInt by omega), (show x15_2_3.toInt ≤ 60 by omega)⟩
      · have g22 : r12_2_3.toInt ≠ (0 : Int32).toInt := fun z => h_18 (Int32.toInt_inj.mp z)
        refine ok_nm.mpr ?_
        refine ok_nm.mpr ?_
        refine ok_nm2 (fun x18_2_3_4_5 ex18_2_3_4_5 => ?_)
        have f23 : (1 : Int32).toInt = 1 := by decide
        have f24 : (a4_1 + (1 : Int32)).toInt = a4_1.toInt + (1 : Int32).toInt := iadd_toInt (by omega) (by omega)
        have qx18_2_3_4_5 : x18_2_3_4_5.toInt = (a4_1 + 1).toInt := congrArg Int32.toInt ex18_2_3_4_5
        exact hrec_1 _ (a4_1, r7_2, x18_2_3_4_5, σ13_2_3) (show (60 + 1 - x18_2_3_4_5.toInt).toNat < n_1 by omega) ⟨rfl, hIσ13_2_3, hfσ13_2_3, (show -1 ≤ a4_1.toInt by omega), (show a4_1.toInt ≤ 59 by omega), (show 0 ≤ x18_2_3_4_5.toInt by omega), (show x18_2_3_4_5.toInt ≤ 60 by omega)⟩
set_option maxRecDepth 20000 in
set_option maxHeartbeats 2000000 in
theorem o_fX9_worst {σ : gS} (hIσ : JC σ)   : Ok (fX9_worst σ ) (fun out => JC out.2 ∧ Fr fr_fX9_worst σ out.2 ∧ -1 ≤ out.1.toInt ∧ out.1.toInt ≤ 59) := by
  unfold fX9_worst
  have hfσ : Fr fr_fX9_worst σ σ := Fr_r
  refine ok_bd2.mpr ((o_fX9_findWorst hIσ  ).mono (fun o_1 ho_2 => ?_))
  obtain ⟨r2, σ3⟩ := o_1
  obtain ⟨hIσ3, hcσ3, r0r2, r1r2⟩ := ho_2
  dsimp only at hIσ3 hcσ3 r0r2 r1r2 ⊢
  have hfσ3 : Fr fr_fX9_worst σ σ3 := Fr_c hfσ hcσ3 (by decide)
  refine ok_some.mpr ?_
  exact ⟨hIσ3, hfσ3, (show -1 ≤ r2.toInt by omega), (show r2.toInt ≤ 59 by omega)⟩
set_option maxRecDepth 20000 in
set_option maxHeartbeats 2000000 in
theorem o_fX9_drop {σ : gS} (hIσ : JC σ) {p1 : Int32} {p2 : Int32}  : Ok (fX9_drop σ p1 p2) (fun out => JC out.2 ∧ Fr fr_fX9_drop σ out.2 ∧ 0 ≤ out.1.toInt ∧ out.1.toInt ≤ 1) := by
  unfold fX9_drop
  have hfσ : Fr fr_fX9_drop σ σ := Fr_r
  refine ok_ite.mpr ⟨fun h_1 => ?_, fun h_1 => ?_⟩
  · have f2 : (0 : Int32).toInt = 0 := by decide
    have g3 : p2.toInt = (0 : Int32).toInt := by rw [h_1]
    try unfold jX9_drop_9
    refine ok_nm2 (fun x2_1 ex2_1 => ?_)
    have qx2_1 : x2_1.toInt = 0 := by rw [ex2_1]; decide
    refine ok_bd.mpr ?_
    try unfold fX8_exists_2
    refine ok_ite.mpr ⟨fun h_4 => ?_, fun h_4 => ?_⟩
    · have g5 : p1.toInt < (0 : Int32).toInt := Int32.lt_iff_toInt_lt.mp h_4
      refine ok_some.mpr ?_
      refine ok_ite.mpr ⟨fun h_6 => ?_, fun h_6 => ?_⟩
      · have g7 : (0 : Int32).toInt = (0 : Int32).toInt := by rw [h_6]
        refine ok_some.mpr ?_
        exact ⟨hIσ, hfσ, (show 0 ≤ (0 : Int32).toInt by omega), (show (0 : Int32).toInt ≤ 1 by omega)⟩
      · have g8 : (0 : Int32).toInt ≠ (0 : Int32).toInt := fun z => h_6 (Int32.toInt_inj.mp z)
        exfalso
        omega
    · have g9 : ¬ p1.toInt < (0 : Int32).toInt := fun z => h_4 (Int32.lt_iff_toInt_lt.mpr z)
      have f10 : (3 : Int32).toInt = 3 := by decide
      refine ok_gd.mpr ⟨gb_of (by omega) (by omega), ?_⟩
      refine ok_nm2 (fun v2_2 ev2_2 => ?_)
      have f12 : (3 : Int32).toNatClampNeg = (3 : Int32).toInt.toNat := rfl
      have f12_ : ((3 : Int32).toNatClampNeg = 3 ∧ 0 ≤ (σ.1 3 (3 : Int32).toNatClampNeg).toInt ∧ (σ.1 3 (3 : Int32).toNatClampNeg).toInt ≤ 60) := by
        have hb := hIσ 3 (3 : Int32).toNatClampNeg
        have hj : (3 : Int32).toNatClampNeg = 3 := by omega
        generalize (3 : Int32).toNatClampNeg = j at hb hj ⊢
        obtain rfl := hj
        exact ⟨rfl, hb.1, hb.2⟩
      have qv2_2 : v2_2.toInt = (σ.1 3 (3 : Int32).toNatClampNeg).toInt := congrArg Int32.toInt ev2_2
      refine ok_ite.mpr ⟨fun h_13 => ?_, fun h_13 => ?_⟩
      · have g14 : v2_2.toInt ≤ p1.toInt := Int32.le_iff_toInt_le.mp h_13
        refine ok_some.mpr ?_
        refine ok_ite.mpr ⟨fun h_15 => ?_, fun h_15 => ?_⟩
        · have g16 : (0 : Int32).toInt = (0 : Int32).toInt := by rw [h_15]
          refine ok_some.mpr ?_
          exact ⟨hIσ, hfσ, (show 0 ≤ (0 : Int32).toInt by omega), (show (0 : Int32).toInt ≤ 1 by omega)⟩
        · have g17 : (0 : Int32).toInt ≠ (0 : Int32).toInt := fun z => h_15 (Int32.toInt_inj.mp z)
          exfalso
          omega
      · have g18 : ¬ v2_2.toInt ≤ p1.toInt := fun z => h_13 (Int32.le_iff_toInt_le.mpr z)
        refine ok_some.mpr ?_
        refine ok_ite.mpr ⟨fun h_19 => ?_, fun h_19 => ?_⟩
        · have f20 : (1 : Int32).toInt = 1 := by decide
          have g21 : (1 : Int32).toInt = (0 : Int32).toInt := by rw [h_19]
          exfalso
          omega
        · have f22 : (1 : Int32).toInt = 1 := by decide
          have g23 : (1 : Int32).toInt ≠ (0 : Int32).toInt := fun z => h_19 (Int32.toInt_inj.mp z)
          refine ok_gd.mpr ⟨gb_of (by omega) (by omega), ?_⟩
          refine ok_nm2 (fun v6_1_5 ev6_1_5 => ?_)
          have qv6_1_5 : v6_1_5.toInt = (σ.1 58 p1.toNatClampNeg).toInt := congrArg Int32.toInt ev6_1_5
          refine ok_ite.mpr ⟨fun h_24 => ?_, fun h_24 => ?_⟩
          · have g25 : v6_1_5.toInt = x2_1.toInt := by rw [h_24]
            refine ok_some.mpr ?_
            exact ⟨hIσ, hfσ, (show 0 ≤ (0 : Int32).toInt by omega), (show (0 : Int32).toInt ≤ 1 by omega)⟩
          · have g26 : v6_1_5.toInt ≠ x2_1.toInt := fun z => h_24 (Int32.toInt_inj.mp z)
            refine ok_gd.mpr ⟨gb_of (by omega) (by omega), ?_⟩
            refine ok_nm2 (fun σ8_1_5 eσ8_1_5 => ?_)
            have hIσ8_1_5 : JC σ8_1_5 := by rw [eσ8_1_5]; exact JC_w hIσ (Int32.le_toInt _) (Int32.toInt_le _)
            have hfσ8_1_5 : Fr fr_fX9_drop σ σ8_1_5 := by rw [eσ8_1_5]; exact Fr_w0 hfσ (by decide)
            refine ok_some.mpr ?_
            exact ⟨hIσ8_1_5, hfσ8_1_5, (show 0 ≤ (1 : Int32).toInt by omega), (show (1 : Int32).toInt ≤ 1 by omega)⟩
  · have f27 : (0 : Int32).toInt = 0 := by decide
    have g28 : p2.toInt ≠ (0 : Int32).toInt := fun z => h_1 (Int32.toInt_inj.mp z)
    try unfold jX9_drop_9
    refine ok_nm2 (fun x2_6 ex2_6 => ?_)
    have f29 : (1 : Int32).toInt = 1 := by decide
    have qx2_6 : x2_6.toInt = 1 := by rw [ex2_6]; decide
    refine ok_bd.mpr ?_
    try unfold fX8_exists_2
    refine ok_ite.mpr ⟨fun h_30 => ?_, fun h_30 => ?_⟩
    · have g31 : p1.toInt < (0 : Int32).toInt := Int32.lt_iff_toInt_lt.mp h_30
      refine ok_some.mpr ?_
      refine ok_ite.mpr ⟨fun h_32 => ?_, fun h_32 => ?_⟩
      · have g33 : (0 : Int32).toInt = (0 : Int32).toInt := by rw [h_32]
        refine ok_some.mpr ?_
        exact ⟨hIσ, hfσ, (show 0 ≤ (0 : Int32).toInt by omega), (show (0 : Int32).toInt ≤ 1 by omega)⟩
      · have g34 : (0 : Int32).toInt ≠ (0 : Int32).toInt := fun z => h_32 (Int32.toInt_inj.mp z)
        exfalso
        omega
    · have g35 : ¬ p1.toInt < (0 : Int32).toInt := fun z => h_30 (Int32.lt_iff_toInt_lt.mpr z)
      have f36 : (3 : Int32).toInt = 3 := by decide
      refine ok_gd.mpr ⟨gb_of (by omega) (by omega), ?_⟩
      refine ok_nm2 (fun v2_7 ev2_7 => ?_)
      have f38 : (3 : Int32).toNatClampNeg = (3 : Int32).toInt.toNat := rfl
      have f38_ : ((3 : Int32).toNatClampNeg = 3 ∧ 0 ≤ (σ.1 3 (3 : Int32).toNatClampNeg).toInt ∧ (σ.1 3 (3 : Int32).toNatClampNeg).toInt ≤ 60) := by
        have hb := hIσ 3 (3 : Int32).toNatClampNeg
        have hj : (3 : Int32).toNatClampNeg = 3 := by omega
        generalize (3 : Int32).toNatClampNeg = j at hb hj ⊢
        obtain rfl := hj
        exact ⟨rfl, hb.1, hb.2⟩
      have qv2_7 : v2_7.toInt = (σ.1 3 (3 : Int32).toNatClampNeg).toInt := congrArg Int32.toInt ev2_7
      refine ok_ite.mpr ⟨fun h_39 => ?_, fun h_39 => ?_⟩
      · have g40 : v2_7.toInt ≤ p1.toInt := Int32.le_iff_toInt_le.mp h_39
        refine ok_some.mpr ?_
        refine ok_ite.mpr ⟨fun h_41 => ?_, fun h_41 => ?_⟩
        · have g42 : (0 : Int32).toInt = (0 : Int32).toInt := by rw [h_41]
          refine ok_some.mpr ?_
          exact ⟨hIσ, hfσ, (show 0 ≤ (0 : Int32).toInt by omega), (show (0 : Int32).toInt ≤ 1 by omega)⟩
        · have g43 : (0 : Int32).toInt ≠ (0 : Int32).toInt := fun z => h_41 (Int32.toInt_inj.mp z)
          exfalso
          omega
      · have g44 : ¬ v2_7.toInt ≤ p1.toInt := fun z => h_39 (Int32.le_iff_toInt_le.mpr z)
        refine ok_some.mpr ?_
        refine ok_ite.mpr ⟨fun h_45 => ?_, fun h_45 => ?_⟩
        · have g46 : (1 : Int32).toInt = (0 : Int32).toInt := by rw [h_45]
          exfalso
          omega
        · have g47 : (1 : Int32).toInt ≠ (0 : Int32).toInt := fun z => h_45 (Int32.toInt_inj.mp z)
          refine ok_gd.mpr ⟨gb_of (by omega) (by omega), ?_⟩
          refine ok_nm2 (fun v6_6_10 ev6_6_10 => ?_)
          have qv6_6_10 : v6_6_10.toInt = (σ.1 58 p1.toNatClampNeg).toInt := congrArg Int32.toInt ev6_6_10
          refine ok_ite.mpr ⟨fun h_48 => ?_, fun h_48 => ?_⟩
          · have g49 : v6_6_10.toInt = x2_6.toInt := by rw [h_48]
            refine ok_some.mpr ?_
            exact ⟨hIσ, hfσ, (show 0 ≤ (0 : Int32).toInt by omega), (show (0 : Int32).toInt ≤ 1 by omega)⟩
          · have g50 : v6_6_10.toInt ≠ x2_6.toInt := fun z => h_48 (Int32.toInt_inj.mp z)
            refine ok_gd.mpr ⟨gb_of (by omega) (by omega), ?_⟩
            refine ok_nm2 (fun σ8_6_10 eσ8_6_10 => ?_)
            have hIσ8_6_10 : JC σ8_6_10 := by rw [eσ8_6_10]; exact JC_w hIσ (Int32.le_toInt _) (Int32.toInt_le _)
            have hfσ8_6_10 : Fr fr_fX9_drop σ σ8_6_10 := by rw [eσ8_6_10]; exact Fr_w0 hfσ (by decide)
            refine ok_some.mpr ?_
            exact ⟨hIσ8_6_10, hfσ8_6_10, (show 0 ≤ (1 : Int32).toInt by omega), (show (1 : Int32).toInt ≤ 1 by omega)⟩
set_option maxRecDepth 20000 in
set_option maxHeartbeats 2000000 in
theorem o_fX9_dropAbove {σ : gS} (hIσ : JC σ) {p1 : Int64}  : Ok (fX9_dropAbove σ p1) (fun out => JC out.2 ∧ Fr fr_fX9_dropAbove σ out.2 ∧ 0 ≤ out.1.toInt ∧ out.1.toInt ≤ 20) := by
  unfold fX9_dropAbove
  have hfσ : Fr fr_fX9_dropAbove σ σ := Fr_r
  refine ok_bd.mpr ((o_fill (c := 199) (v := (0 : Int32)) hIσ (by decide) (fun i => ⟨show -2147483648 ≤ (0 : Int32).toInt by decide, show (0 : Int32).toInt ≤ 2147483647 by decide⟩)).mono (fun σ2 ho_1 => ?_))
  obtain ⟨hIσ2, hcσ2, hvσ2⟩ := ho_1
  have hfσ2 : Fr fr_fX9_dropAbove σ σ2 := Fr_c hfσ hcσ2 (by decide)
  have f2 : (50 : Int32).toInt = 50 := by decide
  refine ok_bd2.mpr ((o_fX1_settle hIσ2 (p1 := (50 : Int32)) (by omega) (by omega)).mono (fun o_3 ho_4 => ?_))
  obtain ⟨r4, σ5⟩ := o_3
  obtain ⟨hIσ5, hcσ5, r0r4, r1r4⟩ := ho_4
  dsimp only at hIσ5 hcσ5 r0r4 r1r4 ⊢
  have hfσ5 : Fr fr_fX9_dropAbove σ σ5 := Fr_c hfσ2 hcσ5 (by decide)
  refine ok_nm2 (fun x6 ex6 => ?_)
  have f5 : (0 : Int32).toInt = 0 := by decide
  have qx6 : x6.toInt = 0 := by rw [ex6]; decide
  refine ok_lpc (I := fun n s => n = (20 + 1 - s.1.toInt).toNat ∧ JC s.2 ∧ Fr fr_fX9_dropAbove σ s.2 ∧ 0 ≤ s.1.toInt ∧ s.1.toInt ≤ 20) (fun rec20_1r n_1 s_1 hs_1 hrec_1 => ?_) K9 ((20 + 1 - x6.toInt).toNat) (x6, σ5) ⟨rfl, hIσ5, hfσ5, (show 0 ≤ x6.toInt by omega), (show x6.toInt ≤ 20 by omega)⟩ (by unfold K9; omega)
  obtain ⟨a3_1, σ1_1⟩ := s_1
  obtain ⟨hn_1, hIσ1_1, hfσ1_1, b0a3_1, b1a3_1⟩ := hs_1
  dsimp only at hn_1 hIσ1_1 hfσ1_1 b0a3_1 b1a3_1
  unfold bX9_dropAbove_20
  try dsimp only
  refine ok_ite.mpr ⟨fun h_6 => ?_, fun h_6 => ?_⟩
  · have f7 : (20 : Int32).toInt = 20 := by decide
    have g8 : (20 : Int32).toInt ≤ a3_1.toInt := Int32.le_iff_toInt_le.mp h_6
    refine ok_some.mpr ?_
    exact ⟨hIσ1_1, hfσ1_1, (show 0 ≤ (20 : Int32).toInt by omega), (show (20 : Int32).toInt ≤ 20 by omega)⟩
  · have f9 : (20 : Int32).toInt = 20 := by decide
    have g10 : ¬ (20 : Int32).toInt ≤ a3_1.toInt := fun z => h_6 (Int32.le_iff_toInt_le.mpr z)
    refine ok_bd2.mpr ((o_fX9_findWorst hIσ1_1  ).mono (fun o_11 ho_12 => ?_))
    obtain ⟨r9_2, σ10_2⟩ := o_11
    obtain ⟨hIσ10_2, hcσ10_2, r0r9_2, r1r9_2⟩ := ho_12
    dsimp only at hIσ10_2 hcσ10_2 r0r9_2 r1r9_2 ⊢
    have hfσ10_2 : Fr fr_fX9_dropAbove σ σ10_2 := Fr_c hfσ1_1 hcσ10_2 (by decide)
    refine ok_nm.mpr ?_
    refine ok_ite.mpr ⟨fun h_13 => ?_, fun h_13 => ?_⟩
    · have f14 : (-1 : Int32).toInt = -1 := by decide
      have g15 : r9_2.toInt = (-1 : Int32).toInt := by rw [h_13]
      refine ok_some.mpr ?_
      exact ⟨hIσ10_2, hfσ10_2, (show 0 ≤ a3_1.toInt by omega), (show a3_1.toInt ≤ 20 by omega)⟩
    · have f16 : (-1 : Int32).toInt = -1 := by decide
      have g17 : r9_2.toInt ≠ (-1 : Int32).toInt := fun z => h_13 (Int32.toInt_inj.mp z)
      refine ok_bd.mpr ((o_fX5_doubtOf_47 hIσ10_2 (p1 := r9_2) (by omega) (by omega)).mono (fun r14_2_3 ho_19 => ?_))
      refine ok_ite.mpr ⟨fun h_20 => ?_, fun h_20 => ?_⟩
      · have g21 : p1.toInt < r14_2_3.toInt := Int64.lt_iff_toInt_lt.mp h_20
        refine ok_gd.mpr ⟨gb_of (by omega) (by omega), ?_⟩
        refine ok_nm2 (fun σ16_2_3 eσ16_2_3 => ?_)
        have hIσ16_2_3 : JC σ16_2_3 := by rw [eσ16_2_3]; exact JC_w hIσ10_2 (Int32.le_toInt _) (Int32.toInt_le _)
        have hfσ16_2_3 : Fr fr_fX9_dropAbove σ σ16_2_3 := by rw [eσ16_2_3]; exact Fr_w0 hfσ10_2 (by decide)
        refine ok_gd.mpr ⟨gb_of (by omega) (by omega), ?_⟩
        refine ok_nm2 (fun σ17_2_3 eσ17_2_3 => ?_)
        have hIσ17_2_3 : JC σ17_2_3 := by rw [eσ17_2_3]; exact JC_w hIσ16_2_3 (Int32.le_toInt _) (Int32.toInt_le _)
        have hfσ17_2_3 : Fr fr_fX9_dropAbove σ σ17_2_3 := by rw [eσ17_2_3]; exact Fr_w0 hfσ16_2_3 (by decide)
        refine ok_bd2.mpr ((o_fX1_settle hIσ17_2_3 (p1 := (50 : Int32)) (by omega) (by omega)).mono (fun o_22 ho_23 => ?_))
        obtain ⟨r19_2_3, σ20_2_3⟩ := o_22
        obtain ⟨hIσ20_2_3, hcσ20_2_3, r0r19_2_3, r1r19_2_3⟩ := ho_23
        dsimp only at hIσ20_2_3 hcσ20_2_3 r0r19_2_3 r1r19_2_3 ⊢
        have hfσ20_2_3 : Fr fr_fX9_dropAbove σ σ20_2_3 := Fr_c hfσ17_2_3 hcσ20_2_3 (by decide)
        refine ok_nm2 (fun x21_2_3 ex21_2_3 => ?_)
        have f24 : (1 : Int32).toInt = 1 := by decide
        have f25 : (a3_1 + (1 : Int32)).toInt = a3_1.toInt + (1 : Int32).toInt := iadd_toInt (by omega) (by omega)
        have qx21_2_3 : x21_2_3.toInt = (a3_1 + 1).toInt := congrArg Int32.toInt ex21_2_3
        exact hrec_1 _ (x21_2_3, σ20_2_3) (show (20 + 1 - x21_2_3.toInt).toNat < n_1 by omega) ⟨rfl, hIσ20_2_3, hfσ20_2_3, (show 0 ≤ x21_2_3.toInt by omega), (show x21_2_3.toInt ≤ 20 by omega)⟩
      · have g26 : ¬ p1.toInt < r14_2_3.toInt := fun z => h_20 (Int64.lt_iff_toInt_lt.mpr z)
        refine ok_some.mpr ?_
        exact ⟨hIσ10_2, hfσ10_2, (show 0 ≤ a3_1.toInt by omega), (show a3_1.toInt ≤ 20 by omega)⟩
set_option maxRecDepth 20000 in
set_option maxHeartbeats 2000000 in
theorem o_fX9_putBack {σ : gS} (hIσ : JC σ) {p1 : Int64}  : Ok (fX9_putBack σ p1) (fun out => JC out.2 ∧ Fr fr_fX9_putBack σ out.2) := by
  unfold fX9_putBack
  have hfσ : Fr fr_fX9_putBack σ σ := Fr_r
  refine ok_nm2 (fun x1 ex1 => ?_)
  have f1 : (0 : Int32).toInt = 0 := by decide
  have qx1 : x1.toInt = 0 := by rw [ex1]; decide
  refine ok_nm2 (fun x2 ex2 => ?_)
  have qx2 : x2.toInt = 0 := by rw [ex2]; decide
  refine ok_lpc (I := fun n s => n = (60 + 1 - s.2.1.toInt).toNat ∧ JC s.2.2 ∧ Fr fr_fX9_putBack σ s.2.2 ∧ 0 ≤ s.2.1.toInt ∧ s.2.1.toInt ≤ 60) (fun rec5_1r n_1 s_1 hs_1 hrec_1 => ?_) K9 ((60 + 1 - x2.toInt).toNat) (x1, x2, σ) ⟨rfl, hIσ, hfσ, (show 0 ≤ x2.toInt by omega), (show x2.toInt ≤ 60 by omega)⟩ (by unfold K9; omega)
  obtain ⟨a3_1, a4_1, σ1_1⟩ := s_1
  obtain ⟨hn_1, hIσ1_1, hfσ1_1, b0a4_1, b1a4_1⟩ := hs_1
  dsimp only at hn_1 hIσ1_1 hfσ1_1 b0a4_1 b1a4_1
  unfold bX9_putBack_5
  try dsimp only
  have f2 : (3 : Int32).toInt = 3 := by decide
  refine ok_gd.mpr ⟨gb_of (by omega) (by omega), ?_⟩
  refine ok_nm2 (fun v3_2 ev3_2 => ?_)
  have f3 : 0 ≤ (σ1_1.1 3 3).toInt ∧ (σ1_1.1 3 3).toInt ≤ 60 := hIσ1_1 3 3
  have qv3_2 : v3_2.toInt = (σ1_1.1 3 3).toInt := congrArg Int32.toInt ev3_2
  refine ok_ite.mpr ⟨fun h_4 => ?_, fun h_4 => ?_⟩
  · have g5 : v3_2.toInt ≤ a4_1.toInt := Int32.le_iff_toInt_le.mp h_4
    refine ok_some.mpr ?_
    exact ⟨hIσ1_1, hfσ1_1⟩
  · have g6 : ¬ v3_2.toInt ≤ a4_1.toInt := fun z => h_4 (Int32.le_iff_toInt_le.mpr z)
    refine ok_gd.mpr ⟨gb_of (by omega) (by omega), ?_⟩
    refine ok_nm2 (fun v5_2 ev5_2 => ?_)
    have qv5_2 : v5_2.toInt = (σ1_1.1 199 a4_1.toNatClampNeg).toInt := congrArg Int32.toInt ev5_2
    refine ok_ite.mpr ⟨fun h_7 => ?_, fun h_7 => ?_⟩
    · have f8 : (1 : Int32).toInt = 1 := by decide
      have g9 : v5_2.toInt = (1 : Int32).toInt := by rw [h_7]
      refine ok_bd.mpr ((o_fX5_doubtOf_47 hIσ1_1 (p1 := a4_1) (by omega) (by omega)).mono (fun r9_2 ho_11 => ?_))
      refine ok_ite.mpr ⟨fun h_12 => ?_, fun h_12 => ?_⟩
      · have g13 : p1.toInt < r9_2.toInt := Int64.lt_iff_toInt_lt.mp h_12
        refine ok_nm2 (fun x11_2 ex11_2 => ?_)
        have f14 : (a4_1 + (1 : Int32)).toInt = a4_1.toInt + (1 : Int32).toInt := iadd_toInt (by omega) (by omega)
        have qx11_2 : x11_2.toInt = (a4_1 + 1).toInt := congrArg Int32.toInt ex11_2
        exact hrec_1 _ (a3_1, x11_2, σ1_1) (show (60 + 1 - x11_2.toInt).toNat < n_1 by omega) ⟨rfl, hIσ1_1, hfσ1_1, (show 0 ≤ x11_2.toInt by omega), (show x11_2.toInt ≤ 60 by omega)⟩
      · have g15 : ¬ p1.toInt < r9_2.toInt := fun z => h_12 (Int64.lt_iff_toInt_lt.mpr z)
        refine ok_gd.mpr ⟨gb_of (by omega) (by omega), ?_⟩
        refine ok_nm2 (fun σ12_2 eσ12_2 => ?_)
        have hIσ12_2 : JC σ12_2 := by rw [eσ12_2]; exact JC_w hIσ1_1 (Int32.le_toInt _) (Int32.toInt_le _)
        have hfσ12_2 : Fr fr_fX9_putBack σ σ12_2 := by rw [eσ12_2]; exact Fr_w0 hfσ1_1 (by decide)
        refine ok_nm2 (fun x13_2 ex13_2 => ?_)
        have qx13_2 : x13_2.toInt = (a3_1 + 1).toInt := congrArg Int32.toInt ex13_2
        refine ok_nm2 (fun x14_2 ex14_2 => ?_)
        have f16 : (a4_1 + (1 : Int32)).toInt = a4_1.toInt + (1 : Int32).toInt := iadd_toInt (by omega) (by omega)
        have qx14_2 : x14_2.toInt = (a4_1 + 1).toInt := congrArg Int32.toInt ex14_2
        exact hrec_1 _ (x13_2, x14_2, σ12_2) (show (60 + 1 - x14_2.toInt).toNat < n_1 by omega) ⟨rfl, hIσ12_2, hfσ12_2, (show 0 ≤ x14_2.toInt by omega), (show x14_2.toInt ≤ 60 by omega)⟩
    · have f17 : (1 : Int32).toInt = 1 := by decide
      have g18 : v5_2.toInt ≠ (1 : Int32).toInt := fun z => h_7 (Int32.toInt_inj.mp z)
      refine ok_nm2 (fun x7_2 ex7_2 => ?_)
      have f19 : (a4_1 + (1 : Int32)).toInt = a4_1.toInt + (1 : Int32).toInt := iadd_toInt (by omega) (by omega)
      have qx7_2 : x7_2.toInt = (a4_1 + 1).toInt := congrArg Int32.toInt ex7_2
      exact hrec_1 _ (a3_1, x7_2, σ1_1) (show (60 + 1 - x7_2.toInt).toNat < n_1 by omega) ⟨rfl, hIσ1_1, hfσ1_1, (show 0 ≤ x7_2.toInt by omega), (show x7_2.toInt ≤ 60 by omega)⟩
set_option maxRecDepth 20000 in
set_option maxHeartbeats 2000000 in
theorem o_fX9_clean {σ : gS} (hIσ : JC σ) {p1 : Int64}  : Ok (fX9_clean σ p1) (fun out => JC out.2 ∧ Fr fr_fX9_clean σ out.2) := by
  unfold fX9_clean
  have hfσ : Fr fr_fX9_clean σ σ := Fr_r
  refine ok_ite.mpr ⟨fun h_1 => ?_, fun h_1 => ?_⟩
  · have f2 : (0 : Int64).toInt = 0 := by decide
    have g3 : (0 : Int64).toInt ≤ p1.toInt := Int64.le_iff_toInt_le.mp h_1
    refine ok_bd2.mpr ((o_fX9_dropAbove hIσ (p1 := (p1 : Int64)) ).mono (fun o_4 ho_5 => ?_))
    obtain ⟨r3, σ4⟩ := o_4
    obtain ⟨hIσ4, hcσ4, r0r3, r1r3⟩ := ho_5
    dsimp only at hIσ4 hcσ4 r0r3 r1r3 ⊢
    have hfσ4 : Fr fr_fX9_clean σ σ4 := Fr_c hfσ hcσ4 (by decide)
    refine ok_nm.mpr ?_
    refine ok_bd2.mpr ((o_fX9_putBack hIσ4 (p1 := (p1 : Int64)) ).mono (fun o_6 ho_7 => ?_))
    obtain ⟨r7_1, σ8_1⟩ := o_6
    obtain ⟨hIσ8_1, hcσ8_1⟩ := ho_7
    dsimp only at hIσ8_1 hcσ8_1 ⊢
    have hfσ8_1 : Fr fr_fX9_clean σ σ8_1 := Fr_c hfσ4 hcσ8_1 (by decide)
    refine ok_nm.mpr ?_
    refine ok_ite.mpr ⟨fun h_8 => ?_, fun h_8 => ?_⟩
    · have f9 : (0 : Int32).toInt = 0 := by decide
      have g10 : r7_1.toInt ≤ (0 : Int32).toInt := Int32.le_iff_toInt_le.mp h_8
      refine ok_some.mpr ?_
      exact ⟨hIσ8_1, hfσ8_1⟩
    · have f11 : (0 : Int32).toInt = 0 := by decide
      have g12 : ¬ r7_1.toInt ≤ (0 : Int32).toInt := fun z => h_8 (Int32.le_iff_toInt_le.mpr z)
      have f13 : (50 : Int32).toInt = 50 := by decide
      refine ok_bd2.mpr ((o_fX1_settle hIσ8_1 (p1 := (50 : Int32)) (by omega) (by omega)).mono (fun o_14 ho_15 => ?_))
      obtain ⟨r12_1_2, σ13_1_2⟩ := o_14
      obtain ⟨hIσ13_1_2, hcσ13_1_2, r0r12_1_2, r1r12_1_2⟩ := ho_15
      dsimp only at hIσ13_1_2 hcσ13_1_2 r0r12_1_2 r1r12_1_2 ⊢
      have hfσ13_1_2 : Fr fr_fX9_clean σ σ13_1_2 := Fr_c hfσ8_1 hcσ13_1_2 (by decide)
      refine ok_some.mpr ?_
      have f16 : r7_1.toInt < 2147483648 := Int32.toInt_lt _
      have f17 : (r3 - r7_1).toInt = r3.toInt - r7_1.toInt := isub_toInt (by omega) (by omega)
      exact ⟨hIσ13_1_2, hfσ13_1_2⟩
  · have f18 : (0 : Int64).toInt = 0 := by decide
    have g19 : ¬ (0 : Int64).toInt ≤ p1.toInt := fun z => h_1 (Int64.le_iff_toInt_le.mpr z)
    refine ok_some.mpr ?_
    have f20 : (-1 : Int32).toInt = -1 := by decide
    exact ⟨hIσ, hfσ⟩
set_option maxRecDepth 20000 in
set_option maxHeartbeats 2000000 in
theorem o_fX9_areUnlike {σ : gS} (hIσ : JC σ) {p1 : Int32} {p2 : Int32}  : Ok (fX9_areUnlike σ p1 p2) (fun out => 0 ≤ out.toInt ∧ out.toInt ≤ 1 ∧ (out.toInt ≠ 0 → 0 ≤ p1.toInt ∧ p1.toInt ≤ 11 ∧ 0 ≤ p2.toInt ∧ p2.toInt ≤ 11)) := by
  unfold fX9_areUnlike
  refine ok_ite.mpr ⟨fun h_1 => ?_, fun h_1 => ?_⟩
  · have g2 : p1.toInt = p2.toInt := by rw [h_1]
    refine ok_some.mpr ?_
    have f3 : (0 : Int32).toInt = 0 := by decide
    exact ⟨(show 0 ≤ (0 : Int32).toInt by omega), (show (0 : Int32).toInt ≤ 1 by omega), (show (0 : Int32).toInt ≠ 0 → 0 ≤ p1.toInt ∧ p1.toInt ≤ 11 ∧ 0 ≤ p2.toInt ∧ p2.toInt ≤ 11 by omega)⟩
  · have g4 : p1.toInt ≠ p2.toInt := fun z => h_1 (Int32.toInt_inj.mp z)
    refine ok_bd.mpr ?_
    try unfold fX8_exists_2
    refine ok_ite.mpr ⟨fun h_5 => ?_, fun h_5 => ?_⟩
    · have f6 : (0 : Int32).toInt = 0 := by decide
      have g7 : p1.toInt < (0 : Int32).toInt := Int32.lt_iff_toInt_lt.mp h_5
      refine ok_some.mpr ?_
      refine ok_ite.mpr ⟨fun h_8 => ?_, fun h_8 => ?_⟩
      · have g9 : (0 : Int32).toInt = (0 : Int32).toInt := by rw [h_8]
        refine ok_some.mpr ?_
        exact ⟨(show 0 ≤ (0 : Int32).toInt by omega), (show (0 : Int32).toInt ≤ 1 by omega), (show (0 : Int32).toInt ≠ 0 → 0 ≤ p1.toInt ∧ p1.toInt ≤ 11 ∧ 0 ≤ p2.toInt ∧ p2.toInt ≤ 11 by omega)⟩
      · have g10 : (0 : Int32).toInt ≠ (0 : Int32).toInt := fun z => h_8 (Int32.toInt_inj.mp z)
        exfalso
        omega
    · have f11 : (0 : Int32).toInt = 0 := by decide
      have g12 : ¬ p1.toInt < (0 : Int32).toInt := fun z => h_5 (Int32.lt_iff_toInt_lt.mpr z)
      have f13 : (1 : Int32).toInt = 1 := by decide
      refine ok_gd.mpr ⟨gb_of (by omega) (by omega), ?_⟩
      refine ok_nm2 (fun v2_1 ev2_1 => ?_)
      have f15 : (1 : Int32).toNatClampNeg = (1 : Int32).toInt.toNat := rfl
      have f15_ : ((1 : Int32).toNatClampNeg = 1 ∧ 0 ≤ (σ.1 3 (1 : Int32).toNatClampNeg).toInt ∧ (σ.1 3 (1 : Int32).toNatClampNeg).toInt ≤ 12) := by
        have hb := hIσ 3 (1 : Int32).toNatClampNeg
        have hj : (1 : Int32).toNatClampNeg = 1 := by omega
        generalize (1 : Int32).toNatClampNeg = j at hb hj ⊢
        obtain rfl := hj
        exact ⟨rfl, hb.1, hb.2⟩
      have qv2_1 : v2_1.toInt = (σ.1 3 (1 : Int32).toNatClampNeg).toInt := congrArg Int32.toInt ev2_1
      refine ok_ite.mpr ⟨fun h_16 => ?_, fun h_16 => ?_⟩
      · have g17 : v2_1.toInt ≤ p1.toInt := Int32.le_iff_toInt_le.mp h_16
        refine ok_some.mpr ?_
        refine ok_ite.mpr ⟨fun h_18 => ?_, fun h_18 => ?_⟩
        · have g19 : (0 : Int32).toInt = (0 : Int32).toInt := by rw [h_18]
          refine ok_some.mpr ?_
          exact ⟨(show 0 ≤ (0 : Int32).toInt by omega), (show (0 : Int32).toInt ≤ 1 by omega), (show (0 : Int32).toInt ≠ 0 → 0 ≤ p1.toInt ∧ p1.toInt ≤ 11 ∧ 0 ≤ p2.toInt ∧ p2.toInt ≤ 11 by omega)⟩
        · have g20 : (0 : Int32).toInt ≠ (0 : Int32).toInt := fun z => h_18 (Int32.toInt_inj.mp z)
          exfalso
          omega
      · have g21 : ¬ v2_1.toInt ≤ p1.toInt := fun z => h_16 (Int32.le_iff_toInt_le.mpr z)
        refine ok_some.mpr ?_
        refine ok_ite.mpr ⟨fun h_22 => ?_, fun h_22 => ?_⟩
        · have g23 : (1 : Int32).toInt = (0 : Int32).toInt := by rw [h_22]
          exfalso
          omega
        · have g24 : (1 : Int32).toInt ≠ (0 : Int32).toInt := fun z => h_22 (Int32.toInt_inj.mp z)
          refine ok_bd.mpr ?_
          try unfold fX8_exists_2
          refine ok_ite.mpr ⟨fun h_25 => ?_, fun h_25 => ?_⟩
          · have g26 : p2.toInt < (0 : Int32).toInt := Int32.lt_iff_toInt_lt.mp h_25
            refine ok_some.mpr ?_
            refine ok_ite.mpr ⟨fun h_27 => ?_, fun h_27 => ?_⟩
            · have g28 : (0 : Int32).toInt = (0 : Int32).toInt := by rw [h_27]
              refine ok_some.mpr ?_
              exact ⟨(show 0 ≤ (0 : Int32).toInt by omega), (show (0 : Int32).toInt ≤ 1 by omega), (show (0 : Int32).toInt ≠ 0 → 0 ≤ p1.toInt ∧ p1.toInt ≤ 11 ∧ 0 ≤ p2.toInt ∧ p2.toInt ≤ 11 by omega)⟩
            · have g29 : (0 : Int32).toInt ≠ (0 : Int32).toInt := fun z => h_27 (Int32.toInt_inj.mp z)
              exfalso
              omega
          · have g30 : ¬ p2.toInt < (0 : Int32).toInt := fun z => h_25 (Int32.lt_iff_toInt_lt.mpr z)
            refine ok_gd.mpr ⟨gb_of (by omega) (by omega), ?_⟩
            refine ok_nm2 (fun v2_5 ev2_5 => ?_)
            have qv2_5 : v2_5.toInt = (σ.1 3 (1 : Int32).toNatClampNeg).toInt := congrArg Int32.toInt ev2_5
            refine ok_ite.mpr ⟨fun h_31 => ?_, fun h_31 => ?_⟩
            · have g32 : v2_5.toInt ≤ p2.toInt := Int32.le_iff_toInt_le.mp h_31
              refine ok_some.mpr ?_
              refine ok_ite.mpr ⟨fun h_33 => ?_, fun h_33 => ?_⟩
              · have g34 : (0 : Int32).toInt = (0 : Int32).toInt := by rw [h_33]
                refine ok_some.mpr ?_
                exact ⟨(show 0 ≤ (0 : Int32).toInt by omega), (show (0 : Int32).toInt ≤ 1 by omega), (show (0 : Int32).toInt ≠ 0 → 0 ≤ p1.toInt ∧ p1.toInt ≤ 11 ∧ 0 ≤ p2.toInt ∧ p2.toInt ≤ 11 by omega)⟩
              · have g35 : (0 : Int32).toInt ≠ (0 : Int32).toInt := fun z => h_33 (Int32.toInt_inj.mp z)
                exfalso
                omega
            · have g36 : ¬ v2_5.toInt ≤ p2.toInt := fun z => h_31 (Int32.le_iff_toInt_le.mpr z)
              refine ok_some.mpr ?_
              refine ok_ite.mpr ⟨fun h_37 => ?_, fun h_37 => ?_⟩
              · have g38 : (1 : Int32).toInt = (0 : Int32).toInt := by rw [h_37]
                exfalso
                omega
              · have g39 : (1 : Int32).toInt ≠ (0 : Int32).toInt := fun z => h_37 (Int32.toInt_inj.mp z)
                refine ok_some.mpr ?_
                exact ⟨(show 0 ≤ (1 : Int32).toInt by omega), (show (1 : Int32).toInt ≤ 1 by omega), (show (1 : Int32).toInt ≠ 0 → 0 ≤ p1.toInt ∧ p1.toInt ≤ 11 ∧ 0 ≤ p2.toInt ∧ p2.toInt ≤ 11 by omega)⟩
set_option maxRecDepth 20000 in
set_option maxHeartbeats 2000000 in
theorem o_fX7_surveyTie {σ : gS} (hIσ : JC σ) {p1 : Int32} {p2 : Int32} (h0p1 : 0 ≤ p1.toInt) (h1p1 : p1.toInt ≤ 11) (h0p2 : 0 ≤ p2.toInt) (h1p2 : p2.toInt ≤ 11) : Ok (fX7_surveyTie σ p1 p2) (fun out => JC out ∧ Fr fr_fX7_surveyTie σ out) := by
  unfold fX7_surveyTie
  have hfσ : Fr fr_fX7_surveyTie σ σ := Fr_r
  refine ok_nm2 (fun x1 ex1 => ?_)
  have f1 : (0 : Int32).toInt = 0 := by decide
  have qx1 : x1.toInt = 0 := by rw [ex1]; decide
  refine ok_nm2 (fun x2 ex2 => ?_)
  have f2 : (0 : Int64).toInt = 0 := by decide
  have qx2 : x2.toInt = (0 : Int64).toInt := congrArg Int64.toInt ex2
  refine ok_nm2 (fun x3 ex3 => ?_)
  have qx3 : x3.toInt = (0 : Int64).toInt := congrArg Int64.toInt ex3
  refine ok_nm2 (fun x4 ex4 => ?_)
  have qx4 : x4.toInt = 0 := by rw [ex4]; decide
  refine ok_lpc (I := fun n s => n = (20 + 1 - s.2.2.2.toInt).toNat ∧ 0 ≤ s.2.2.2.toInt ∧ s.2.2.2.toInt ≤ 20) (fun rec11_1r n_1 s_1 hs_1 hrec_1 => ?_) K9 ((20 + 1 - x4.toInt).toNat) (x1, x2, x3, x4) ⟨rfl, (show 0 ≤ x4.toInt by omega), (show x4.toInt ≤ 20 by omega)⟩ (by unfold K9; omega)
  obtain ⟨a3_1, a4_1, a6_1, a8_1⟩ := s_1
  obtain ⟨hn_1, b0a8_1, b1a8_1⟩ := hs_1
  dsimp only at hn_1 b0a8_1 b1a8_1
  unfold bX7_surveyTie_11
  try dsimp only
  have f3 : (2 : Int32).toInt = 2 := by decide
  refine ok_gd.mpr ⟨gb_of (by omega) (by omega), ?_⟩
  refine ok_nm2 (fun v5_2 ev5_2 => ?_)
  have f4 : 0 ≤ (σ.1 3 2).toInt ∧ (σ.1 3 2).toInt ≤ 20 := hIσ 3 2
  have qv5_2 : v5_2.toInt = (σ.1 3 2).toInt := congrArg Int32.toInt ev5_2
  refine ok_ite.mpr ⟨fun h_5 => ?_, fun h_5 => ?_⟩
  · have g6 : v5_2.toInt ≤ a8_1.toInt := Int32.le_iff_toInt_le.mp h_5
    refine ok_gd.mpr ⟨gb_of (by omega) (by omega), ?_⟩
    refine ok_gd.mpr ⟨gb_of (by omega) (by omega), ?_⟩
    refine ok_nm2 (fun σ8_2 eσ8_2 => ?_)
    have f7 : p1.toNatClampNeg = p1.toInt.toNat := rfl
    have hIσ8_2 : JC σ8_2 := by rw [eσ8_2]; exact JC_w155 hIσ (by omega) (by omega) (Int32.le_toInt _) (Int32.toInt_le _)
    have hfσ8_2 : Fr fr_fX7_surveyTie σ σ8_2 := by
      have hj : (155 + p1.toNatClampNeg) = 155 ∨ (155 + p1.toNatClampNeg) = 156 ∨ (155 + p1.toNatClampNeg) = 157 ∨ (155 + p1.toNatClampNeg) = 158 ∨ (155 + p1.toNatClampNeg) = 159 ∨ (155 + p1.toNatClampNeg) = 160 ∨ (155 + p1.toNatClampNeg) = 161 ∨ (155 + p1.toNatClampNeg) = 162 ∨ (155 + p1.toNatClampNeg) = 163 ∨ (155 + p1.toNatClampNeg) = 164 ∨ (155 + p1.toNatClampNeg) = 165 ∨ (155 + p1.toNatClampNeg) = 166 := by omega
      rw [eσ8_2]; exact Fr_w0 hfσ (by rcases hj with hj | hj | hj | hj | hj | hj | hj | hj | hj | hj | hj | hj <;> rw [hj] <;> decide)
    have sσ8_2_0_0 : (σ8_2.1 0 0).toInt = (σ.1 0 0).toInt := by rw [eσ8_2, gsI_1, if_neg (by omega)]
    refine ok_gd.mpr ⟨gb_of (by omega) (by omega), ?_⟩
    refine ok_ite.mpr ⟨fun h_8 => ?_, fun h_8 => ?_⟩
    · have g9 : a3_1.toInt = (0 : Int32).toInt := by rw [h_8]
      try unfold jX7_surveyTie_157
      have f10 : 12 ≤ (gsz zC.1 0 0 (168 + p1.toNatClampNeg)) ∧ (gsz zC.1 0 0 (168 + p1.toNatClampNeg)) ≤ 12 := by
        have hj : (168 + p1.toNatClampNeg) = 168 ∨ (168 + p1.toNatClampNeg) = 169 ∨ (168 + p1.toNatClampNeg) = 170 ∨ (168 + p1.toNatClampNeg) = 171 ∨ (168 + p1.toNatClampNeg) = 172 ∨ (168 + p1.toNatClampNeg) = 173 ∨ (168 + p1.toNatClampNeg) = 174 ∨ (168 + p1.toNatClampNeg) = 175 ∨ (168 + p1.toNatClampNeg) = 176 ∨ (168 + p1.toNatClampNeg) = 177 ∨ (168 + p1.toNatClampNeg) = 178 ∨ (168 + p1.toNatClampNeg) = 179 := by omega
        rcases hj with hj | hj | hj | hj | hj | hj | hj | hj | hj | hj | hj | hj <;> rw [hj] <;> decide
      refine ok_gd.mpr ⟨gb_of (by omega) (by omega), ?_⟩
      refine ok_nm2 (fun σ13_3 eσ13_3 => ?_)
      have hIσ13_3 : JC σ13_3 := by rw [eσ13_3]; exact JC_w168 hIσ8_2 (by omega) (by omega) (Int32.le_toInt _) (Int32.toInt_le _)
      have hfσ13_3 : Fr fr_fX7_surveyTie σ σ13_3 := by
        have hj : (168 + p1.toNatClampNeg) = 168 ∨ (168 + p1.toNatClampNeg) = 169 ∨ (168 + p1.toNatClampNeg) = 170 ∨ (168 + p1.toNatClampNeg) = 171 ∨ (168 + p1.toNatClampNeg) = 172 ∨ (168 + p1.toNatClampNeg) = 173 ∨ (168 + p1.toNatClampNeg) = 174 ∨ (168 + p1.toNatClampNeg) = 175 ∨ (168 + p1.toNatClampNeg) = 176 ∨ (168 + p1.toNatClampNeg) = 177 ∨ (168 + p1.toNatClampNeg) = 178 ∨ (168 + p1.toNatClampNeg) = 179 := by omega
        rw [eσ13_3]; exact Fr_w0 hfσ8_2 (by rcases hj with hj | hj | hj | hj | hj | hj | hj | hj | hj | hj | hj | hj <;> rw [hj] <;> decide)
      have sσ13_3_0_0 : (σ13_3.1 0 0).toInt = (σ8_2.1 0 0).toInt := by rw [eσ13_3, gsI_1, if_neg (by omega)]
      refine ok_gd.mpr ⟨gb_of (by omega) (by omega), ?_⟩
      refine ok_ite.mpr ⟨fun h_11 => ?_, fun h_11 => ?_⟩
      · have g12 : a3_1.toInt = (0 : Int32).toInt := by rw [h_11]
        refine ok_gd.mpr ⟨gb_of (by omega) (by omega), ?_⟩
        refine ok_nm2 (fun σ19_3 eσ19_3 => ?_)
        have hIσ19_3 : JC σ19_3 := by rw [eσ19_3]; exact JC_w181 hIσ13_3 (by omega) (by omega) (Int32.le_toInt _) (Int32.toInt_le _)
        have hfσ19_3 : Fr fr_fX7_surveyTie σ σ19_3 := by
          have hj : (181 + p1.toNatClampNeg) = 181 ∨ (181 + p1.toNatClampNeg) = 182 ∨ (181 + p1.toNatClampNeg) = 183 ∨ (181 + p1.toNatClampNeg) = 184 ∨ (181 + p1.toNatClampNeg) = 185 ∨ (181 + p1.toNatClampNeg) = 186 ∨ (181 + p1.toNatClampNeg) = 187 ∨ (181 + p1.toNatClampNeg) = 188 ∨ (181 + p1.toNatClampNeg) = 189 ∨ (181 + p1.toNatClampNeg) = 190 ∨ (181 + p1.toNatClampNeg) = 191 ∨ (181 + p1.toNatClampNeg) = 192 := by omega
          rw [eσ19_3]; exact Fr_w0 hfσ13_3 (by rcases hj with hj | hj | hj | hj | hj | hj | hj | hj | hj | hj | hj | hj <;> rw [hj] <;> decide)
        have sσ19_3_0_0 : (σ19_3.1 0 0).toInt = (σ13_3.1 0 0).toInt := by rw [eσ19_3, gsI_1, if_neg (by omega)]
        refine ok_some.mpr ?_
        exact ⟨hIσ19_3, hfσ19_3⟩
      · have g13 : a3_1.toInt ≠ (0 : Int32).toInt := fun z => h_11 (Int32.toInt_inj.mp z)
        exfalso
        omega
    · have g14 : a3_1.toInt ≠ (0 : Int32).toInt := fun z => h_8 (Int32.toInt_inj.mp z)
      refine ok_bd.mpr ((o_fJ9_floorDiv_f86c9 hIσ8_2 (p0 := (a4_1 : Int64)) (p2 := (a3_1.toInt64 : Int64)) (by first | decide | omega | (rw [Int32.toInt_toInt64]; omega))).mono (fun r12_2 ho_16 => ?_))
      try unfold jX7_surveyTie_157
      have f17 : 12 ≤ (gsz zC.1 0 0 (168 + p1.toNatClampNeg)) ∧ (gsz zC.1 0 0 (168 + p1.toNatClampNeg)) ≤ 12 := by
        have hj : (168 + p1.toNatClampNeg) = 168 ∨ (168 + p1.toNatClampNeg) = 169 ∨ (168 + p1.toNatClampNeg) = 170 ∨ (168 + p1.toNatClampNeg) = 171 ∨ (168 + p1.toNatClampNeg) = 172 ∨ (168 + p1.toNatClampNeg) = 173 ∨ (168 + p1.toNatClampNeg) = 174 ∨ (168 + p1.toNatClampNeg) = 175 ∨ (168 + p1.toNatClampNeg) = 176 ∨ (168 + p1.toNatClampNeg) = 177 ∨ (168 + p1.toNatClampNeg) = 178 ∨ (168 + p1.toNatClampNeg) = 179 := by omega
        rcases hj with hj | hj | hj | hj | hj | hj | hj | hj | hj | hj | hj | hj <;> rw [hj] <;> decide
      refine ok_gd.mpr ⟨gb_of (by omega) (by omega), ?_⟩
      refine ok_nm2 (fun σ13_4 eσ13_4 => ?_)
      have hIσ13_4 : JC σ13_4 := by rw [eσ13_4]; exact JC_w168 hIσ8_2 (by omega) (by omega) (Int32.le_toInt _) (Int32.toInt_le _)
      have hfσ13_4 : Fr fr_fX7_surveyTie σ σ13_4 := by
        have hj : (168 + p1.toNatClampNeg) = 168 ∨ (168 + p1.toNatClampNeg) = 169 ∨ (168 + p1.toNatClampNeg) = 170 ∨ (168 + p1.toNatClampNeg) = 171 ∨ (168 + p1.toNatClampNeg) = 172 ∨ (168 + p1.toNatClampNeg) = 173 ∨ (168 + p1.toNatClampNeg) = 174 ∨ (168 + p1.toNatClampNeg) = 175 ∨ (168 + p1.toNatClampNeg) = 176 ∨ (168 + p1.toNatClampNeg) = 177 ∨ (168 + p1.toNatClampNeg) = 178 ∨ (168 + p1.toNatClampNeg) = 179 := by omega
        rw [eσ13_4]; exact Fr_w0 hfσ8_2 (by rcases hj with hj | hj | hj | hj | hj | hj | hj | hj | hj | hj | hj | hj <;> rw [hj] <;> decide)
      have sσ13_4_0_0 : (σ13_4.1 0 0).toInt = (σ8_2.1 0 0).toInt := by rw [eσ13_4, gsI_1, if_neg (by omega)]
      refine ok_gd.mpr ⟨gb_of (by omega) (by omega), ?_⟩
      refine ok_ite.mpr ⟨fun h_18 => ?_, fun h_18 => ?_⟩
      · have g19 : a3_1.toInt = (0 : Int32).toInt := by rw [h_18]
        refine ok_gd.mpr ⟨gb_of (by omega) (by omega), ?_⟩
        refine ok_nm2 (fun σ19_4 eσ19_4 => ?_)
        have hIσ19_4 : JC σ19_4 := by rw [eσ19_4]; exact JC_w181 hIσ13_4 (by omega) (by omega) (Int32.le_toInt _) (Int32.toInt_le _)
        have hfσ19_4 : Fr fr_fX7_surveyTie σ σ19_4 := by
          have hj : (181 + p1.toNatClampNeg) = 181 ∨ (181 + p1.toNatClampNeg) = 182 ∨ (181 + p1.toNatClampNeg) = 183 ∨ (181 + p1.toNatClampNeg) = 184 ∨ (181 + p1.toNatClampNeg) = 185 ∨ (181 + p1.toNatClampNeg) = 186 ∨ (181 + p1.toNatClampNeg) = 187 ∨ (181 + p1.toNatClampNeg) = 188 ∨ (181 + p1.toNatClampNeg) = 189 ∨ (181 + p1.toNatClampNeg) = 190 ∨ (181 + p1.toNatClampNeg) = 191 ∨ (181 + p1.toNatClampNeg) = 192 := by omega
          rw [eσ19_4]; exact Fr_w0 hfσ13_4 (by rcases hj with hj | hj | hj | hj | hj | hj | hj | hj | hj | hj | hj | hj <;> rw [hj] <;> decide)
        have sσ19_4_0_0 : (σ19_4.1 0 0).toInt = (σ13_4.1 0 0).toInt := by rw [eσ19_4, gsI_1, if_neg (by omega)]
        refine ok_some.mpr ?_
        exact ⟨hIσ19_4, hfσ19_4⟩
      · have g20 : a3_1.toInt ≠ (0 : Int32).toInt := fun z => h_18 (Int32.toInt_inj.mp z)
        refine ok_bd.mpr ((o_fJ9_floorDiv_f86c9 hIσ13_4 (p0 := (a6_1 : Int64)) (p2 := (a3_1.toInt64 : Int64)) (by first | decide | omega | (rw [Int32.toInt_toInt64]; omega))).mono (fun r17_4 ho_22 => ?_))
        refine ok_gd.mpr ⟨gb_of (by omega) (by omega), ?_⟩
        refine ok_nm2 (fun σ18_4 eσ18_4 => ?_)
        have hIσ18_4 : JC σ18_4 := by rw [eσ18_4]; exact JC_w181 hIσ13_4 (by omega) (by omega) (Int32.le_toInt _) (Int32.toInt_le _)
        have hfσ18_4 : Fr fr_fX7_surveyTie σ σ18_4 := by
          have hj : (181 + p1.toNatClampNeg) = 181 ∨ (181 + p1.toNatClampNeg) = 182 ∨ (181 + p1.toNatClampNeg) = 183 ∨ (181 + p1.toNatClampNeg) = 184 ∨ (181 + p1.toNatClampNeg) = 185 ∨ (181 + p1.toNatClampNeg) = 186 ∨ (181 + p1.toNatClampNeg) = 187 ∨ (181 + p1.toNatClampNeg) = 188 ∨ (181 + p1.toNatClampNeg) = 189 ∨ (181 + p1.toNatClampNeg) = 190 ∨ (181 + p1.toNatClampNeg) = 191 ∨ (181 + p1.toNatClampNeg) = 192 := by omega
          rw [eσ18_4]; exact Fr_w0 hfσ13_4 (by rcases hj with hj | hj | hj | hj | hj | hj | hj | hj | hj | hj | hj | hj <;> rw [hj] <;> decide)
        have sσ18_4_0_0 : (σ18_4.1 0 0).toInt = (σ13_4.1 0 0).toInt := by rw [eσ18_4, gsI_1, if_neg (by omega)]
        refine ok_some.mpr ?_
        exact ⟨hIσ18_4, hfσ18_4⟩
  · have g23 : ¬ v5_2.toInt ≤ a8_1.toInt := fun z => h_5 (Int32.le_iff_toInt_le.mpr z)
    refine ok_gd.mpr ⟨gb_of (by omega) (by omega), ?_⟩
    refine ok_gd.mpr ⟨gb_of (by omega) (by omega), ?_⟩
    refine ok_nm2 (fun v21_2 ev21_2 => ?_)
    have f24 : p1.toNatClampNeg = p1.toInt.toNat := rfl
    have f25 : -1 ≤ (σ.1 (142 + p1.toNatClampNeg) a8_1.toNatClampNeg).toInt ∧ (σ.1 (142 + p1.toNatClampNeg) a8_1.toNatClampNeg).toInt ≤ 59 := JC_r142 hIσ (by omega) (by omega) _
    have qv21_2 : v21_2.toInt = (σ.1 (142 + p1.toNatClampNeg) a8_1.toNatClampNeg).toInt := congrArg Int32.toInt ev21_2
    refine ok_nm.mpr ?_
    refine ok_gd.mpr ⟨gb_of (by omega) (by omega), ?_⟩
    refine ok_gd.mpr ⟨gb_of (by omega) (by omega), ?_⟩
    refine ok_nm2 (fun v24_2_5 ev24_2_5 => ?_)
    have f26 : p2.toNatClampNeg = p2.toInt.toNat := rfl
    have f27 : -1 ≤ (σ.1 (142 + p2.toNatClampNeg) a8_1.toNatClampNeg).toInt ∧ (σ.1 (142 + p2.toNatClampNeg) a8_1.toNatClampNeg).toInt ≤ 59 := JC_r142 hIσ (by omega) (by omega) _
    have qv24_2_5 : v24_2_5.toInt = (σ.1 (142 + p2.toNatClampNeg) a8_1.toNatClampNeg).toInt := congrArg Int32.toInt ev24_2_5
    refine ok_nm.mpr ?_
    refine ok_ite.mpr ⟨fun h_28 => ?_, fun h_28 => ?_⟩
    · have f29 : (-1 : Int32).toInt = -1 := by decide
      have g30 : v21_2.toInt = (-1 : Int32).toInt := by rw [h_28]
      refine ok_nm2 (fun x27_2_5_6 ex27_2_5_6 => ?_)
      have f31 : (1 : Int32).toInt = 1 := by decide
      have f32 : (a8_1 + (1 : Int32)).toInt = a8_1.toInt + (1 : Int32).toInt := iadd_toInt (by omega) (by omega)
      have qx27_2_5_6 : x27_2_5_6.toInt = (a8_1 + 1).toInt := congrArg Int32.toInt ex27_2_5_6
      exact hrec_1 _ (a3_1, a4_1, a6_1, x27_2_5_6) (show (20 + 1 - x27_2_5_6.toInt).toNat < n_1 by omega) ⟨rfl, (show 0 ≤ x27_2_5_6.toInt by omega), (show x27_2_5_6.toInt ≤ 20 by omega)⟩
    · have f33 : (-1 : Int32).toInt = -1 := by decide
      have g34 : v21_2.toInt ≠ (-1 : Int32).toInt := fun z => h_28 (Int32.toInt_inj.mp z)
      refine ok_ite.mpr ⟨fun h_35 => ?_, fun h_35 => ?_⟩
      · have g36 : v24_2_5.toInt = (-1 : Int32).toInt := by rw [h_35]
        refine ok_nm2 (fun x41_2_5_6 ex41_2_5_6 => ?_)
        have f37 : (1 : Int32).toInt = 1 := by decide
        have f38 : (a8_1 + (1 : Int32)).toInt = a8_1.toInt + (1 : Int32).toInt := iadd_toInt (by omega) (by omega)
        have qx41_2_5_6 : x41_2_5_6.toInt = (a8_1 + 1).toInt := congrArg Int32.toInt ex41_2_5_6
        exact hrec_1 _ (a3_1, a4_1, a6_1, x41_2_5_6) (show (20 + 1 - x41_2_5_6.toInt).toNat < n_1 by omega) ⟨rfl, (show 0 ≤ x41_2_5_6.toInt by omega), (show x41_2_5_6.toInt ≤ 20 by omega)⟩
      · have g39 : v24_2_5.toInt ≠ (-1 : Int32).toInt := fun z => h_35 (Int32.toInt_inj.mp z)
        refine ok_nm2 (fun x29_2_5_6 ex29_2_5_6 => ?_)
        have f40 : (1 : Int32).toInt = 1 := by decide
        have qx29_2_5_6 : x29_2_5_6.toInt = (a3_1 + 1).toInt := congrArg Int32.toInt ex29_2_5_6
        refine ok_bd.mpr ((o_fX5_turned_47 hIσ (p1 := v21_2) (p2 := (0 : Int32)) (by omega) (by omega)).mono (fun r31_2_5_6 ho_42 => ?_))
        refine ok_bd.mpr ((o_fX5_turned_47 hIσ (p1 := v24_2_5) (p2 := (0 : Int32)) (by omega) (by omega)).mono (fun r33_2_5_6 ho_44 => ?_))
        refine ok_nm2 (fun x34_2_5_6 ex34_2_5_6 => ?_)
        refine ok_bd.mpr ((o_fX5_turned_47 hIσ (p1 := v21_2) (p2 := (1 : Int32)) (by omega) (by omega)).mono (fun r36_2_5_6 ho_46 => ?_))
        refine ok_bd.mpr ((o_fX5_turned_47 hIσ (p1 := v24_2_5) (p2 := (1 : Int32)) (by omega) (by omega)).mono (fun r38_2_5_6 ho_48 => ?_))
        refine ok_nm2 (fun x39_2_5_6 ex39_2_5_6 => ?_)
        refine ok_nm2 (fun x40_2_5_6 ex40_2_5_6 => ?_)
        have f49 : (a8_1 + (1 : Int32)).toInt = a8_1.toInt + (1 : Int32).toInt := iadd_toInt (by omega) (by omega)
        have qx40_2_5_6 : x40_2_5_6.toInt = (a8_1 + 1).toInt := congrArg Int32.toInt ex40_2_5_6
        exact hrec_1 _ (x29_2_5_6, x34_2_5_6, x39_2_5_6, x40_2_5_6) (show (20 + 1 - x40_2_5_6.toInt).toNat < n_1 by omega) ⟨rfl, (show 0 ≤ x40_2_5_6.toInt by omega), (show x40_2_5_6.toInt ≤ 20 by omega)⟩
