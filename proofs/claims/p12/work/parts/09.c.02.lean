/-! comes through, m 2 -/
set_option maxRecDepth 20000 in
set_option maxHeartbeats 2000000 in
theorem o_fX10_look {σ : gS} (hIσ : JM σ)   : Ok (fX10_look σ ) (fun out => JM out.2 ∧ Fr fr_fX10_look σ out.2 ∧ (out.1.toInt ≠ -1 → (out.2.1 0 2).toInt < (out.2.1 0 3).toInt)) := by
  unfold fX10_look
  have hfσ : Fr fr_fX10_look σ σ := Fr_r
  have f1 : 0 ≤ (σ.1 0 2).toInt ∧ (σ.1 0 2).toInt ≤ 1600 := hIσ 0 2
  have f2 : 0 ≤ (σ.1 0 3).toInt ∧ (σ.1 0 3).toInt ≤ 1600 := hIσ 0 3
  refine ok_lpc (I := fun n s => n = (1600 + 1 - (s.1 0 2).toInt).toNat ∧ JM s ∧ Fr fr_fX10_look σ s) (fun rec0_1r n_1 s_1 hs_1 hrec_1 => ?_) K9 ((1600 + 1 - (σ.1 0 2).toInt).toNat) σ ⟨rfl, hIσ, hfσ⟩ (by unfold K9; omega)
  obtain ⟨σ1_1, hq_1⟩ : ∃ y, y = s_1 := ⟨_, rfl⟩
  subst hq_1
  obtain ⟨hn_1, hIσ1_1, hfσ1_1⟩ := hs_1
  skip
  unfold bX10_look_0
  try dsimp only
  refine ok_ite.mpr ⟨fun h_3 => ?_, fun h_3 => ?_⟩
  · have f4 : 0 ≤ (σ1_1.1 0 3).toInt ∧ (σ1_1.1 0 3).toInt ≤ 1600 := hIσ1_1 0 3
    have f5 : 0 ≤ (σ1_1.1 0 2).toInt ∧ (σ1_1.1 0 2).toInt ≤ 1600 := hIσ1_1 0 2
    have g6 : (σ1_1.1 0 3).toInt ≤ (σ1_1.1 0 2).toInt := Int32.le_iff_toInt_le.mp h_3
    try unfold jX10_look_52
    refine ok_ite.mpr ⟨fun h_7 => ?_, fun h_7 => ?_⟩
    · have g8 : (σ1_1.1 0 3).toInt ≤ (σ1_1.1 0 2).toInt := Int32.le_iff_toInt_le.mp h_7
      refine ok_some.mpr ?_
      have f9 : (-1 : Int32).toInt = -1 := by decide
      exact ⟨hIσ1_1, hfσ1_1, (show (-1 : Int32).toInt ≠ -1 → (σ1_1.1 0 2).toInt < (σ1_1.1 0 3).toInt by omega)⟩
    · have g10 : ¬ (σ1_1.1 0 3).toInt ≤ (σ1_1.1 0 2).toInt := fun z => h_7 (Int32.le_iff_toInt_le.mpr z)
      refine ok_gd.mpr ⟨gb_of (by omega) (by omega), ?_⟩
      refine ok_nm2 (fun v3_5 ev3_5 => ?_)
      have f11 : 0 ≤ (σ1_1.1 1 (σ1_1.1 0 2).toNatClampNeg).toInt ∧ (σ1_1.1 1 (σ1_1.1 0 2).toNatClampNeg).toInt ≤ 255 := hIσ1_1 1 _
      have qv3_5 : v3_5.toInt = (σ1_1.1 1 (σ1_1.1 0 2).toNatClampNeg).toInt := congrArg Int32.toInt ev3_5
      refine ok_some.mpr ?_
      exact ⟨hIσ1_1, hfσ1_1, (show v3_5.toInt ≠ -1 → (σ1_1.1 0 2).toInt < (σ1_1.1 0 3).toInt by omega)⟩
  · have f12 : 0 ≤ (σ1_1.1 0 3).toInt ∧ (σ1_1.1 0 3).toInt ≤ 1600 := hIσ1_1 0 3
    have f13 : 0 ≤ (σ1_1.1 0 2).toInt ∧ (σ1_1.1 0 2).toInt ≤ 1600 := hIσ1_1 0 2
    have g14 : ¬ (σ1_1.1 0 3).toInt ≤ (σ1_1.1 0 2).toInt := fun z => h_3 (Int32.le_iff_toInt_le.mpr z)
    refine ok_gd.mpr ⟨gb_of (by omega) (by omega), ?_⟩
    refine ok_nm2 (fun v4_2 ev4_2 => ?_)
    have f15 : 0 ≤ (σ1_1.1 1 (σ1_1.1 0 2).toNatClampNeg).toInt ∧ (σ1_1.1 1 (σ1_1.1 0 2).toNatClampNeg).toInt ≤ 255 := hIσ1_1 1 _
    have qv4_2 : v4_2.toInt = (σ1_1.1 1 (σ1_1.1 0 2).toNatClampNeg).toInt := congrArg Int32.toInt ev4_2
    refine ok_ite.mpr ⟨fun h_16 => ?_, fun h_16 => ?_⟩
    · have f17 : (10 : Int32).toInt = 10 := by decide
      have g18 : v4_2.toInt = (10 : Int32).toInt := by rw [h_16]
      try unfold jX10_look_39
      refine ok_nm2 (fun σ6_6 eσ6_6 => ?_)
      have f19 : (1 : Int32).toInt = 1 := by decide
      have f20 : ((σ1_1.1 0 2) + (1 : Int32)).toInt = (σ1_1.1 0 2).toInt + (1 : Int32).toInt := iadd_toInt (by omega) (by omega)
      have hIσ6_6 : JM σ6_6 := by rw [eσ6_6]; exact JM_w hIσ1_1 (show 0 ≤ _ by omega) (show _ ≤ 1600 by omega)
      have hfσ6_6 : Fr fr_fX10_look σ σ6_6 := by rw [eσ6_6]; exact Fr_w hfσ1_1 (by decide)
      have sσ6_6_0_2 : (σ6_6.1 0 2).toInt = ((σ1_1.1 0 2) + 1).toInt := by rw [eσ6_6]; rfl
      have sσ6_6_0_3 : (σ6_6.1 0 3).toInt = (σ1_1.1 0 3).toInt := by rw [eσ6_6]; rfl
      exact hrec_1 _ σ6_6 (show (1600 + 1 - (σ6_6.1 0 2).toInt).toNat < n_1 by omega) ⟨rfl, hIσ6_6, hfσ6_6⟩
    · have f21 : (10 : Int32).toInt = 10 := by decide
      have g22 : v4_2.toInt ≠ (10 : Int32).toInt := fun z => h_16 (Int32.toInt_inj.mp z)
      refine ok_gd.mpr ⟨gb_of (by omega) (by omega), ?_⟩
      refine ok_nm2 (fun v7_2 ev7_2 => ?_)
      have qv7_2 : v7_2.toInt = (σ1_1.1 1 (σ1_1.1 0 2).toNatClampNeg).toInt := congrArg Int32.toInt ev7_2
      refine ok_ite.mpr ⟨fun h_23 => ?_, fun h_23 => ?_⟩
      · have f24 : (32 : Int32).toInt = 32 := by decide
        have g25 : v7_2.toInt = (32 : Int32).toInt := by rw [h_23]
        try unfold jX10_look_39
        refine ok_nm2 (fun σ6_7 eσ6_7 => ?_)
        have f26 : (1 : Int32).toInt = 1 := by decide
        have f27 : ((σ1_1.1 0 2) + (1 : Int32)).toInt = (σ1_1.1 0 2).toInt + (1 : Int32).toInt := iadd_toInt (by omega) (by omega)
        have hIσ6_7 : JM σ6_7 := by rw [eσ6_7]; exact JM_w hIσ1_1 (show 0 ≤ _ by omega) (show _ ≤ 1600 by omega)
        have hfσ6_7 : Fr fr_fX10_look σ σ6_7 := by rw [eσ6_7]; exact Fr_w hfσ1_1 (by decide)
        have sσ6_7_0_2 : (σ6_7.1 0 2).toInt = ((σ1_1.1 0 2) + 1).toInt := by rw [eσ6_7]; rfl
        have sσ6_7_0_3 : (σ6_7.1 0 3).toInt = (σ1_1.1 0 3).toInt := by rw [eσ6_7]; rfl
        exact hrec_1 _ σ6_7 (show (1600 + 1 - (σ6_7.1 0 2).toInt).toNat < n_1 by omega) ⟨rfl, hIσ6_7, hfσ6_7⟩
      · have f28 : (32 : Int32).toInt = 32 := by decide
        have g29 : v7_2.toInt ≠ (32 : Int32).toInt := fun z => h_23 (Int32.toInt_inj.mp z)
        try unfold jX10_look_52
        refine ok_ite.mpr ⟨fun h_30 => ?_, fun h_30 => ?_⟩
        · have g31 : (σ1_1.1 0 3).toInt ≤ (σ1_1.1 0 2).toInt := Int32.le_iff_toInt_le.mp h_30
          refine ok_some.mpr ?_
          have f32 : (-1 : Int32).toInt = -1 := by decide
          exact ⟨hIσ1_1, hfσ1_1, (show (-1 : Int32).toInt ≠ -1 → (σ1_1.1 0 2).toInt < (σ1_1.1 0 3).toInt by omega)⟩
        · have g33 : ¬ (σ1_1.1 0 3).toInt ≤ (σ1_1.1 0 2).toInt := fun z => h_30 (Int32.le_iff_toInt_le.mpr z)
          refine ok_gd.mpr ⟨gb_of (by omega) (by omega), ?_⟩
          refine ok_nm2 (fun v3_8 ev3_8 => ?_)
          have qv3_8 : v3_8.toInt = (σ1_1.1 1 (σ1_1.1 0 2).toNatClampNeg).toInt := congrArg Int32.toInt ev3_8
          refine ok_some.mpr ?_
          exact ⟨hIσ1_1, hfσ1_1, (show v3_8.toInt ≠ -1 → (σ1_1.1 0 2).toInt < (σ1_1.1 0 3).toInt by omega)⟩
set_option maxRecDepth 20000 in
set_option maxHeartbeats 2000000 in
theorem o_fX10_isLetter {σ : gS} (hIσ : JM σ) {p0 : Int32}  : Ok (fX10_isLetter σ p0) (fun out => 0 ≤ out.toInt ∧ out.toInt ≤ 1) := by
  unfold fX10_isLetter
  refine ok_ite.mpr ⟨fun h_1 => ?_, fun h_1 => ?_⟩
  · have f2 : (97 : Int32).toInt = 97 := by decide
    have g3 : p0.toInt < (97 : Int32).toInt := Int32.lt_iff_toInt_lt.mp h_1
    refine ok_some.mpr ?_
    have f4 : (0 : Int32).toInt = 0 := by decide
    exact ⟨(show 0 ≤ (0 : Int32).toInt by omega), (show (0 : Int32).toInt ≤ 1 by omega)⟩
  · have f5 : (97 : Int32).toInt = 97 := by decide
    have g6 : ¬ p0.toInt < (97 : Int32).toInt := fun z => h_1 (Int32.lt_iff_toInt_lt.mpr z)
    refine ok_ite.mpr ⟨fun h_7 => ?_, fun h_7 => ?_⟩
    · have f8 : (122 : Int32).toInt = 122 := by decide
      have g9 : (122 : Int32).toInt < p0.toInt := Int32.lt_iff_toInt_lt.mp h_7
      refine ok_some.mpr ?_
      have f10 : (0 : Int32).toInt = 0 := by decide
      exact ⟨(show 0 ≤ (0 : Int32).toInt by omega), (show (0 : Int32).toInt ≤ 1 by omega)⟩
    · have f11 : (122 : Int32).toInt = 122 := by decide
      have g12 : ¬ (122 : Int32).toInt < p0.toInt := fun z => h_7 (Int32.lt_iff_toInt_lt.mpr z)
      refine ok_some.mpr ?_
      have f13 : (1 : Int32).toInt = 1 := by decide
      exact ⟨(show 0 ≤ (1 : Int32).toInt by omega), (show (1 : Int32).toInt ≤ 1 by omega)⟩
set_option maxRecDepth 20000 in
set_option maxHeartbeats 2000000 in
theorem o_fX10_isHere {σ : gS} (hIσ : JM σ) {p1 : Nat} (h0p1 : 2 ≤ p1) (h1p1 : p1 ≤ 13) : Ok (fX10_isHere σ p1) (fun out => JM out.2 ∧ Fr fr_fX10_isHere σ out.2 ∧ 0 ≤ out.1.toInt ∧ out.1.toInt ≤ 1 ∧ (out.1.toInt ≠ 0 → (out.2.1 0 2).toInt + ((gsz zM.1 0 1 p1 : Nat) : Int) ≤ 1600)) := by
  unfold fX10_isHere
  have hfσ : Fr fr_fX10_isHere σ σ := Fr_r
  have f1 : 0 ≤ (σ.1 0 1).toInt ∧ (σ.1 0 1).toInt ≤ 1600 := hIσ 0 1
  have f2 : 0 ≤ (σ.1 0 2).toInt ∧ (σ.1 0 2).toInt ≤ 1600 := hIσ 0 2
  have f3 : 0 ≤ (σ.1 0 3).toInt ∧ (σ.1 0 3).toInt ≤ 1600 := hIσ 0 3
  refine ok_ite.mpr ⟨fun h_4 => ?_, fun h_4 => ?_⟩
  · have f5 : (0 : Int32).toInt = 0 := by decide
    have g6 : (σ.1 0 5).toInt = (0 : Int32).toInt := by rw [h_4]
    refine ok_bd2.mpr ((o_fX10_look hIσ  ).mono (fun o_7 ho_8 => ?_))
    obtain ⟨r3, σ4⟩ := o_7
    obtain ⟨hIσ4, hcσ4, hp_9⟩ := ho_8
    dsimp only at hIσ4 hcσ4 hp_9 ⊢
    have hfσ4 : Fr fr_fX10_isHere σ σ4 := Fr_c hfσ hcσ4 (by decide)
    have sσ4_0_1 : (σ4.1 0 1).toInt = (σ.1 0 1).toInt := by rw [(hcσ4 0 1 (by decide) (by decide)).1]
    have sσ4_0_3 : (σ4.1 0 3).toInt = (σ.1 0 3).toInt := by rw [(hcσ4 0 3 (by decide) (by decide)).1]
    have sσ4_0_4 : (σ4.1 0 4).toInt = (σ.1 0 4).toInt := by rw [(hcσ4 0 4 (by decide) (by decide)).1]
    have sσ4_0_5 : (σ4.1 0 5).toInt = (σ.1 0 5).toInt := by rw [(hcσ4 0 5 (by decide) (by decide)).1]
    refine ok_bd.mpr ?_
    try unfold fX10_isLetter
    refine ok_ite.mpr ⟨fun h_10 => ?_, fun h_10 => ?_⟩
    · have f11 : (97 : Int32).toInt = 97 := by decide
      have g12 : r3.toInt < (97 : Int32).toInt := Int32.lt_iff_toInt_lt.mp h_10
      refine ok_some.mpr ?_
      refine ok_ite.mpr ⟨fun h_13 => ?_, fun h_13 => ?_⟩
      · have g14 : (0 : Int32).toInt = (0 : Int32).toInt := by rw [h_13]
        refine ok_some.mpr ?_
        exact ⟨hIσ4, hfσ4, (show 0 ≤ (0 : Int32).toInt by omega), (show (0 : Int32).toInt ≤ 1 by omega), (show (0 : Int32).toInt ≠ 0 → (σ4.1 0 2).toInt + ((gsz zM.1 0 1 p1 : Nat) : Int) ≤ 1600 by omega)⟩
      · have g15 : (0 : Int32).toInt ≠ (0 : Int32).toInt := fun z => h_13 (Int32.toInt_inj.mp z)
        exfalso
        omega
    · have f16 : (97 : Int32).toInt = 97 := by decide
      have g17 : ¬ r3.toInt < (97 : Int32).toInt := fun z => h_10 (Int32.lt_iff_toInt_lt.mpr z)
      refine ok_ite.mpr ⟨fun h_18 => ?_, fun h_18 => ?_⟩
      · have f19 : (122 : Int32).toInt = 122 := by decide
        have g20 : (122 : Int32).toInt < r3.toInt := Int32.lt_iff_toInt_lt.mp h_18
        refine ok_some.mpr ?_
        refine ok_ite.mpr ⟨fun h_21 => ?_, fun h_21 => ?_⟩
        · have g22 : (0 : Int32).toInt = (0 : Int32).toInt := by rw [h_21]
          refine ok_some.mpr ?_
          exact ⟨hIσ4, hfσ4, (show 0 ≤ (0 : Int32).toInt by omega), (show (0 : Int32).toInt ≤ 1 by omega), (show (0 : Int32).toInt ≠ 0 → (σ4.1 0 2).toInt + ((gsz zM.1 0 1 p1 : Nat) : Int) ≤ 1600 by omega)⟩
        · have g23 : (0 : Int32).toInt ≠ (0 : Int32).toInt := fun z => h_21 (Int32.toInt_inj.mp z)
          exfalso
          omega
      · have f24 : (122 : Int32).toInt = 122 := by decide
        have g25 : ¬ (122 : Int32).toInt < r3.toInt := fun z => h_18 (Int32.lt_iff_toInt_lt.mpr z)
        refine ok_some.mpr ?_
        refine ok_ite.mpr ⟨fun h_26 => ?_, fun h_26 => ?_⟩
        · have f27 : (1 : Int32).toInt = 1 := by decide
          have g28 : (1 : Int32).toInt = (0 : Int32).toInt := by rw [h_26]
          exfalso
          omega
        · have f29 : (1 : Int32).toInt = 1 := by decide
          have g30 : (1 : Int32).toInt ≠ (0 : Int32).toInt := fun z => h_26 (Int32.toInt_inj.mp z)
          refine ok_ite.mpr ⟨fun h_31 => ?_, fun h_31 => ?_⟩
          · have f32 : 0 ≤ (σ4.1 0 2).toInt ∧ (σ4.1 0 2).toInt ≤ 1600 := hIσ4 0 2
            have g33 : (σ4.1 0 2).toInt = (σ4.1 0 4).toInt := by rw [h_31]
            refine ok_some.mpr ?_
            exact ⟨hIσ4, hfσ4, (show 0 ≤ (0 : Int32).toInt by omega), (show (0 : Int32).toInt ≤ 1 by omega), (show (0 : Int32).toInt ≠ 0 → (σ4.1 0 2).toInt + ((gsz zM.1 0 1 p1 : Nat) : Int) ≤ 1600 by omega)⟩
          · have f34 : 0 ≤ (σ4.1 0 2).toInt ∧ (σ4.1 0 2).toInt ≤ 1600 := hIσ4 0 2
            have g35 : (σ4.1 0 2).toInt ≠ (σ4.1 0 4).toInt := fun z => h_31 (Int32.toInt_inj.mp z)
            refine ok_nm2 (fun x9_4 ex9_4 => ?_)
            have qx9_4 : x9_4.toInt = (σ4.1 0 2).toInt := congrArg Int32.toInt ex9_4
            refine ok_lpc (I := fun n s => n = (1600 + 1 - s.toInt).toNat ∧ 0 ≤ s.toInt ∧ s.toInt ≤ 1600) (fun rec35_5r n_5 s_5 hs_5 hrec_5 => ?_) K9 ((1600 + 1 - x9_4.toInt).toNat) x9_4 ⟨rfl, (show 0 ≤ x9_4.toInt by omega), (show x9_4.toInt ≤ 1600 by omega)⟩ (by unfold K9; omega)
            obtain ⟨a2_5, hq_5⟩ : ∃ y, y = s_5 := ⟨_, rfl⟩
            subst hq_5
            obtain ⟨hn_5, b0a2_5, b1a2_5⟩ := hs_5
            skip
            unfold bX10_isHere_35
            try dsimp only
            refine ok_ite.mpr ⟨fun h_36 => ?_, fun h_36 => ?_⟩
            · have f37 : 0 ≤ (σ4.1 0 3).toInt ∧ (σ4.1 0 3).toInt ≤ 1600 := hIσ4 0 3
              have g38 : (σ4.1 0 3).toInt ≤ a2_5.toInt := Int32.le_iff_toInt_le.mp h_36
              try unfold jX10_isHere_61
              refine ok_gd.mpr ⟨?_, ?_⟩
              · have hj : p1 = 2 ∨ p1 = 3 ∨ p1 = 4 ∨ p1 = 5 ∨ p1 = 6 ∨ p1 = 7 ∨ p1 = 8 ∨ p1 = 9 ∨ p1 = 10 ∨ p1 = 11 ∨ p1 = 12 ∨ p1 = 13 := by omega
                rcases hj with hj | hj | hj | hj | hj | hj | hj | hj | hj | hj | hj | hj <;> rw [hj] <;> decide
              refine ok_ite.mpr ⟨fun h_39 => ?_, fun h_39 => ?_⟩
              · have f40 : (a2_5 - (σ4.1 0 2)).toInt = a2_5.toInt - (σ4.1 0 2).toInt := isub_toInt (by omega) (by omega)
                have f41 : 2 ≤ (gsz zM.1 0 1 p1) ∧ (gsz zM.1 0 1 p1) ≤ 7 := by
                  have hj : p1 = 2 ∨ p1 = 3 ∨ p1 = 4 ∨ p1 = 5 ∨ p1 = 6 ∨ p1 = 7 ∨ p1 = 8 ∨ p1 = 9 ∨ p1 = 10 ∨ p1 = 11 ∨ p1 = 12 ∨ p1 = 13 := by omega
                  rcases hj with hj | hj | hj | hj | hj | hj | hj | hj | hj | hj | hj | hj <;> rw [hj] <;> decide
                have f42 : (Int32.ofNat (gsz zM.1 0 1 p1)).toInt = (((gsz zM.1 0 1 p1) : Nat) : Int) := iofNat_toInt (by omega)
                have g43 : (a2_5 - (σ4.1 0 2)).toInt = (Int32.ofNat (gsz zM.1 0 1 p1)).toInt := by rw [h_39]
                refine ok_nm2 (fun x13_9 ex13_9 => ?_)
                have qx13_9 : x13_9.toInt = 0 := by rw [ex13_9]; decide
                refine ok_lpc (I := fun n s => n = (9999 + 1 - s.toInt).toNat ∧ 0 ≤ s.toInt ∧ s.toInt ≤ 9999) (fun rec76_10r n_10 s_10 hs_10 hrec_10 => ?_) K9 ((9999 + 1 - x13_9.toInt).toNat) x13_9 ⟨rfl, (show 0 ≤ x13_9.toInt by omega), (show x13_9.toInt ≤ 9999 by omega)⟩ (by unfold K9; omega)
                obtain ⟨a3_10, hq_10⟩ : ∃ y, y = s_10 := ⟨_, rfl⟩
                subst hq_10
                obtain ⟨hn_10, b0a3_10, b1a3_10⟩ := hs_10
                skip
                unfold bX10_isHere_76
                try dsimp only
                refine ok_gd.mpr ⟨?_, ?_⟩
                · have hj : p1 = 2 ∨ p1 = 3 ∨ p1 = 4 ∨ p1 = 5 ∨ p1 = 6 ∨ p1 = 7 ∨ p1 = 8 ∨ p1 = 9 ∨ p1 = 10 ∨ p1 = 11 ∨ p1 = 12 ∨ p1 = 13 := by omega
                  rcases hj with hj | hj | hj | hj | hj | hj | hj | hj | hj | hj | hj | hj <;> rw [hj] <;> decide
                refine ok_ite.mpr ⟨fun h_44 => ?_, fun h_44 => ?_⟩
                · have g45 : (Int32.ofNat (gsz zM.1 0 1 p1)).toInt ≤ a3_10.toInt := Int32.le_iff_toInt_le.mp h_44
                  refine ok_some.mpr ?_
                  exact ⟨hIσ4, hfσ4, (show 0 ≤ (1 : Int32).toInt by omega), (show (1 : Int32).toInt ≤ 1 by omega), (show (1 : Int32).toInt ≠ 0 → (σ4.1 0 2).toInt + ((gsz zM.1 0 1 p1 : Nat) : Int) ≤ 1600 by omega)⟩
                · have g46 : ¬ (Int32.ofNat (gsz zM.1 0 1 p1)).toInt ≤ a3_10.toInt := fun z => h_44 (Int32.le_iff_toInt_le.mpr z)
                  have f47 : ((σ4.1 0 2) + a3_10).toInt = (σ4.1 0 2).toInt + a3_10.toInt := iadd_toInt (by omega) (by omega)
                  refine ok_gd.mpr ⟨gb_of (by omega) (by omega), ?_⟩
                  refine ok_nm2 (fun v16_11 ev16_11 => ?_)
                  have f48 : 0 ≤ (σ4.1 1 ((σ4.1 0 2) + a3_10).toNatClampNeg).toInt ∧ (σ4.1 1 ((σ4.1 0 2) + a3_10).toNatClampNeg).toInt ≤ 255 := hIσ4 1 _
                  have qv16_11 : v16_11.toInt = (σ4.1 1 ((σ4.1 0 2) + a3_10).toNatClampNeg).toInt := congrArg Int32.toInt ev16_11
                  refine ok_gd.mpr ⟨gb_of (by omega) (by omega), ?_⟩
                  refine ok_nm2 (fun v17_11 ev17_11 => ?_)
                  have qv17_11 : v17_11.toInt = (σ4.1 p1 a3_10.toNatClampNeg).toInt := congrArg Int32.toInt ev17_11
                  refine ok_ite.mpr ⟨fun h_49 => ?_, fun h_49 => ?_⟩
                  · have g50 : v16_11.toInt = v17_11.toInt := by rw [h_49]
                    refine ok_nm2 (fun x19_11 ex19_11 => ?_)
                    have f51 : (a3_10 + (1 : Int32)).toInt = a3_10.toInt + (1 : Int32).toInt := iadd_toInt (by omega) (by omega)
                    have qx19_11 : x19_11.toInt = (a3_10 + 1).toInt := congrArg Int32.toInt ex19_11
                    exact hrec_10 _ x19_11 (show (9999 + 1 - x19_11.toInt).toNat < n_10 by omega) ⟨rfl, (show 0 ≤ x19_11.toInt by omega), (show x19_11.toInt ≤ 9999 by omega)⟩
                  · have g52 : v16_11.toInt ≠ v17_11.toInt := fun z => h_49 (Int32.toInt_inj.mp z)
                    refine ok_some.mpr ?_
                    exact ⟨hIσ4, hfσ4, (show 0 ≤ (0 : Int32).toInt by omega), (show (0 : Int32).toInt ≤ 1 by omega), (show (0 : Int32).toInt ≠ 0 → (σ4.1 0 2).toInt + ((gsz zM.1 0 1 p1 : Nat) : Int) ≤ 1600 by omega)⟩
              · have f53 : (a2_5 - (σ4.1 0 2)).toInt = a2_5.toInt - (σ4.1 0 2).toInt := isub_toInt (by omega) (by omega)
                have f54 : 2 ≤ (gsz zM.1 0 1 p1) ∧ (gsz zM.1 0 1 p1) ≤ 7 := by
                  have hj : p1 = 2 ∨ p1 = 3 ∨ p1 = 4 ∨ p1 = 5 ∨ p1 = 6 ∨ p1 = 7 ∨ p1 = 8 ∨ p1 = 9 ∨ p1 = 10 ∨ p1 = 11 ∨ p1 = 12 ∨ p1 = 13 := by omega
                  rcases hj with hj | hj | hj | hj | hj | hj | hj | hj | hj | hj | hj | hj <;> rw [hj] <;> decide
                have f55 : (Int32.ofNat (gsz zM.1 0 1 p1)).toInt = (((gsz zM.1 0 1 p1) : Nat) : Int) := iofNat_toInt (by omega)
                have g56 : (a2_5 - (σ4.1 0 2)).toInt ≠ (Int32.ofNat (gsz zM.1 0 1 p1)).toInt := fun z => h_39 (Int32.toInt_inj.mp z)
                refine ok_some.mpr ?_
                exact ⟨hIσ4, hfσ4, (show 0 ≤ (0 : Int32).toInt by omega), (show (0 : Int32).toInt ≤ 1 by omega), (show (0 : Int32).toInt ≠ 0 → (σ4.1 0 2).toInt + ((gsz zM.1 0 1 p1 : Nat) : Int) ≤ 1600 by omega)⟩
            · have f57 : 0 ≤ (σ4.1 0 3).toInt ∧ (σ4.1 0 3).toInt ≤ 1600 := hIσ4 0 3
              have g58 : ¬ (σ4.1 0 3).toInt ≤ a2_5.toInt := fun z => h_36 (Int32.le_iff_toInt_le.mpr z)
              refine ok_gd.mpr ⟨gb_of (by omega) (by omega), ?_⟩
              refine ok_nm2 (fun v20_8 ev20_8 => ?_)
              have f59 : 0 ≤ (σ4.1 1 a2_5.toNatClampNeg).toInt ∧ (σ4.1 1 a2_5.toNatClampNeg).toInt ≤ 255 := hIσ4 1 _
              have qv20_8 : v20_8.toInt = (σ4.1 1 a2_5.toNatClampNeg).toInt := congrArg Int32.toInt ev20_8
              refine ok_bd.mpr ?_
              try unfold fX10_isLetter
              refine ok_ite.mpr ⟨fun h_60 => ?_, fun h_60 => ?_⟩
              · have g61 : v20_8.toInt < (97 : Int32).toInt := Int32.lt_iff_toInt_lt.mp h_60
                refine ok_some.mpr ?_
                refine ok_ite.mpr ⟨fun h_62 => ?_, fun h_62 => ?_⟩
                · have g63 : (0 : Int32).toInt = (0 : Int32).toInt := by rw [h_62]
                  try unfold jX10_isHere_61
                  refine ok_gd.mpr ⟨?_, ?_⟩
                  · have hj : p1 = 2 ∨ p1 = 3 ∨ p1 = 4 ∨ p1 = 5 ∨ p1 = 6 ∨ p1 = 7 ∨ p1 = 8 ∨ p1 = 9 ∨ p1 = 10 ∨ p1 = 11 ∨ p1 = 12 ∨ p1 = 13 := by omega
                    rcases hj with hj | hj | hj | hj | hj | hj | hj | hj | hj | hj | hj | hj <;> rw [hj] <;> decide
                  refine ok_ite.mpr ⟨fun h_64 => ?_, fun h_64 => ?_⟩
                  · have f65 : (a2_5 - (σ4.1 0 2)).toInt = a2_5.toInt - (σ4.1 0 2).toInt := isub_toInt (by omega) (by omega)
                    have f66 : 2 ≤ (gsz zM.1 0 1 p1) ∧ (gsz zM.1 0 1 p1) ≤ 7 := by
                      have hj : p1 = 2 ∨ p1 = 3 ∨ p1 = 4 ∨ p1 = 5 ∨ p1 = 6 ∨ p1 = 7 ∨ p1 = 8 ∨ p1 = 9 ∨ p1 = 10 ∨ p1 = 11 ∨ p1 = 12 ∨ p1 = 13 := by omega
                      rcases hj with hj | hj | hj | hj | hj | hj | hj | hj | hj | hj | hj | hj <;> rw [hj] <;> decide
                    have f67 : (Int32.ofNat (gsz zM.1 0 1 p1)).toInt = (((gsz zM.1 0 1 p1) : Nat) : Int) := iofNat_toInt (by omega)
                    have g68 : (a2_5 - (σ4.1 0 2)).toInt = (Int32.ofNat (gsz zM.1 0 1 p1)).toInt := by rw [h_64]
                    refine ok_nm2 (fun x13_14 ex13_14 => ?_)
                    have qx13_14 : x13_14.toInt = 0 := by rw [ex13_14]; decide
                    refine ok_lpc (I := fun n s => n = (9999 + 1 - s.toInt).toNat ∧ 0 ≤ s.toInt ∧ s.toInt ≤ 9999) (fun rec76_15r n_15 s_15 hs_15 hrec_15 => ?_) K9 ((9999 + 1 - x13_14.toInt).toNat) x13_14 ⟨rfl, (show 0 ≤ x13_14.toInt by omega), (show x13_14.toInt ≤ 9999 by omega)⟩ (by unfold K9; omega)
                    obtain ⟨a3_15, hq_15⟩ : ∃ y, y = s_15 := ⟨_, rfl⟩
                    subst hq_15
                    obtain ⟨hn_15, b0a3_15, b1a3_15⟩ := hs_15
                    skip
                    unfold bX10_isHere_76
                    try dsimp only
                    refine ok_gd.mpr ⟨?_, ?_⟩
                    · have hj : p1 = 2 ∨ p1 = 3 ∨ p1 = 4 ∨ p1 = 5 ∨ p1 = 6 ∨ p1 = 7 ∨ p1 = 8 ∨ p1 = 9 ∨ p1 = 10 ∨ p1 = 11 ∨ p1 = 12 ∨ p1 = 13 := by omega
                      rcases hj with hj | hj | hj | hj | hj | hj | hj | hj | hj | hj | hj | hj <;> rw [hj] <;> decide
                    refine ok_ite.mpr ⟨fun h_69 => ?_, fun h_69 => ?_⟩
                    · have g70 : (Int32.ofNat (gsz zM.1 0 1 p1)).toInt ≤ a3_15.toInt := Int32.le_iff_toInt_le.mp h_69
                      refine ok_some.mpr ?_
                      exact ⟨hIσ4, hfσ4, (show 0 ≤ (1 : Int32).toInt by omega), (show (1 : Int32).toInt ≤ 1 by omega), (show (1 : Int32).toInt ≠ 0 → (σ4.1 0 2).toInt + ((gsz zM.1 0 1 p1 : Nat) : Int) ≤ 1600 by omega)⟩
                    · have g71 : ¬ (Int32.ofNat (gsz zM.1 0 1 p1)).toInt ≤ a3_15.toInt := fun z => h_69 (Int32.le_iff_toInt_le.mpr z)
                      have f72 : ((σ4.1 0 2) + a3_15).toInt = (σ4.1 0 2).toInt + a3_15.toInt := iadd_toInt (by omega) (by omega)
                      refine ok_gd.mpr ⟨gb_of (by omega) (by omega), ?_⟩
                      refine ok_nm2 (fun v16_16 ev16_16 => ?_)
                      have f73 : 0 ≤ (σ4.1 1 ((σ4.1 0 2) + a3_15).toNatClampNeg).toInt ∧ (σ4.1 1 ((σ4.1 0 2) + a3_15).toNatClampNeg).toInt ≤ 255 := hIσ4 1 _
                      have qv16_16 : v16_16.toInt = (σ4.1 1 ((σ4.1 0 2) + a3_15).toNatClampNeg).toInt := congrArg Int32.toInt ev16_16
                      refine ok_gd.mpr ⟨gb_of (by omega) (by omega), ?_⟩
                      refine ok_nm2 (fun v17_16 ev17_16 => ?_)
                      have qv17_16 : v17_16.toInt = (σ4.1 p1 a3_15.toNatClampNeg).toInt := congrArg Int32.toInt ev17_16
                      refine ok_ite.mpr ⟨fun h_74 => ?_, fun h_74 => ?_⟩
                      · have g75 : v16_16.toInt = v17_16.toInt := by rw [h_74]
                        refine ok_nm2 (fun x19_16 ex19_16 => ?_)
                        have f76 : (a3_15 + (1 : Int32)).toInt = a3_15.toInt + (1 : Int32).toInt := iadd_toInt (by omega) (by omega)
                        have qx19_16 : x19_16.toInt = (a3_15 + 1).toInt := congrArg Int32.toInt ex19_16
                        exact hrec_15 _ x19_16 (show (9999 + 1 - x19_16.toInt).toNat < n_15 by omega) ⟨rfl, (show 0 ≤ x19_16.toInt by omega), (show x19_16.toInt ≤ 9999 by omega)⟩
                      · have g77 : v16_16.toInt ≠ v17_16.toInt := fun z => h_74 (Int32.toInt_inj.mp z)
                        refine ok_some.mpr ?_
                        exact ⟨hIσ4, hfσ4, (show 0 ≤ (0 : Int32).toInt by omega), (show (0 : Int32).toInt ≤ 1 by omega), (show (0 : Int32).toInt ≠ 0 → (σ4.1 0 2).toInt + ((gsz zM.1 0 1 p1 : Nat) : Int) ≤ 1600 by omega)⟩
                  · have f78 : (a2_5 - (σ4.1 0 2)).toInt = a2_5.toInt - (σ4.1 0 2).toInt := isub_toInt (by omega) (by omega)
                    have f79 : 2 ≤ (gsz zM.1 0 1 p1) ∧ (gsz zM.1 0 1 p1) ≤ 7 := by
                      have hj : p1 = 2 ∨ p1 = 3 ∨ p1 = 4 ∨ p1 = 5 ∨ p1 = 6 ∨ p1 = 7 ∨ p1 = 8 ∨ p1 = 9 ∨ p1 = 10 ∨ p1 = 11 ∨ p1 = 12 ∨ p1 = 13 := by omega
                      rcases hj with hj | hj | hj | hj | hj | hj | hj | hj | hj | hj | hj | hj <;> rw [hj] <;> decide
                    have f80 : (Int32.ofNat (gsz zM.1 0 1 p1)).toInt = (((gsz zM.1 0 1 p1) : Nat) : Int) := iofNat_toInt (by omega)
                    have g81 : (a2_5 - (σ4.1 0 2)).toInt ≠ (Int32.ofNat (gsz zM.1 0 1 p1)).toInt := fun z => h_64 (Int32.toInt_inj.mp z)
                    refine ok_some.mpr ?_
                    exact ⟨hIσ4, hfσ4, (show 0 ≤ (0 : Int32).toInt by omega), (show (0 : Int32).toInt ≤ 1 by omega), (show (0 : Int32).toInt ≠ 0 → (σ4.1 0 2).toInt + ((gsz zM.1 0 1 p1 : Nat) : Int) ≤ 1600 by omega)⟩
                · have g82 : (0 : Int32).toInt ≠ (0 : Int32).toInt := fun z => h_62 (Int32.toInt_inj.mp z)
                  exfalso
                  omega
              · have g83 : ¬ v20_8.toInt < (97 : Int32).toInt := fun z => h_60 (Int32.lt_iff_toInt_lt.mpr z)
                refine ok_ite.mpr ⟨fun h_84 => ?_, fun h_84 => ?_⟩
                · have g85 : (122 : Int32).toInt < v20_8.toInt := Int32.lt_iff_toInt_lt.mp h_84
                  refine ok_some.mpr ?_
                  refine ok_ite.mpr ⟨fun h_86 => ?_, fun h_86 => ?_⟩
                  · have g87 : (0 : Int32).toInt = (0 : Int32).toInt := by rw [h_86]
                    try unfold jX10_isHere_61
                    refine ok_gd.mpr ⟨?_, ?_⟩
                    · have hj : p1 = 2 ∨ p1 = 3 ∨ p1 = 4 ∨ p1 = 5 ∨ p1 = 6 ∨ p1 = 7 ∨ p1 = 8 ∨ p1 = 9 ∨ p1 = 10 ∨ p1 = 11 ∨ p1 = 12 ∨ p1 = 13 := by omega
                      rcases hj with hj | hj | hj | hj | hj | hj | hj | hj | hj | hj | hj | hj <;> rw [hj] <;> decide
                    refine ok_ite.mpr ⟨fun h_88 => ?_, fun h_88 => ?_⟩
                    · have f89 : (a2_5 - (σ4.1 0 2)).toInt = a2_5.toInt - (σ4.1 0 2).toInt := isub_toInt (by omega) (by omega)
                      have f90 : 2 ≤ (gsz zM.1 0 1 p1) ∧ (gsz zM.1 0 1 p1) ≤ 7 := by
                        have hj : p1 = 2 ∨ p1 = 3 ∨ p1 = 4 ∨ p1 = 5 ∨ p1 = 6 ∨ p1 = 7 ∨ p1 = 8 ∨ p1 = 9 ∨ p1 = 10 ∨ p1 = 11 ∨ p1 = 12 ∨ p1 = 13 := by omega
                        rcases hj with hj | hj | hj | hj | hj | hj | hj | hj | hj | hj | hj | hj <;> rw [hj] <;> decide
                      have f91 : (Int32.ofNat (gsz zM.1 0 1 p1)).toInt = (((gsz zM.1 0 1 p1) : Nat) : Int) := iofNat_toInt (by omega)
                      have g92 : (a2_5 - (σ4.1 0 2)).toInt = (Int32.ofNat (gsz zM.1 0 1 p1)).toInt := by rw [h_88]
                      refine ok_nm2 (fun x13_18 ex13_18 => ?_)
                      have qx13_18 : x13_18.toInt = 0 := by rw [ex13_18]; decide
                      refine ok_lpc (I := fun n s => n = (9999 + 1 - s.toInt).toNat ∧ 0 ≤ s.toInt ∧ s.toInt ≤ 9999) (fun rec76_19r n_19 s_19 hs_19 hrec_19 => ?_) K9 ((9999 + 1 - x13_18.toInt).toNat) x13_18 ⟨rfl, (show 0 ≤ x13_18.toInt by omega), (show x13_18.toInt ≤ 9999 by omega)⟩ (by unfold K9; omega)
                      obtain ⟨a3_19, hq_19⟩ : ∃ y, y = s_19 := ⟨_, rfl⟩
                      subst hq_19
                      obtain ⟨hn_19, b0a3_19, b1a3_19⟩ := hs_19
                      skip
                      unfold bX10_isHere_76
                      try dsimp only
                      refine ok_gd.mpr ⟨?_, ?_⟩
                      · have hj : p1 = 2 ∨ p1 = 3 ∨ p1 = 4 ∨ p1 = 5 ∨ p1 = 6 ∨ p1 = 7 ∨ p1 = 8 ∨ p1 = 9 ∨ p1 = 10 ∨ p1 = 11 ∨ p1 = 12 ∨ p1 = 13 := by omega
                        rcases hj with hj | hj | hj | hj | hj | hj | hj | hj | hj | hj | hj | hj <;> rw [hj] <;> decide
                      refine ok_ite.mpr ⟨fun h_93 => ?_, fun h_93 => ?_⟩
                      · have g94 : (Int32.ofNat (gsz zM.1 0 1 p1)).toInt ≤ a3_19.toInt := Int32.le_iff_toInt_le.mp h_93
                        refine ok_some.mpr ?_
                        exact ⟨hIσ4, hfσ4, (show 0 ≤ (1 : Int32).toInt by omega), (show (1 : Int32).toInt ≤ 1 by omega), (show (1 : Int32).toInt ≠ 0 → (σ4.1 0 2).toInt + ((gsz zM.1 0 1 p1 : Nat) : Int) ≤ 1600 by omega)⟩
                      · have g95 : ¬ (Int32.ofNat (gsz zM.1 0 1 p1)).toInt ≤ a3_19.toInt := fun z => h_93 (Int32.le_iff_toInt_le.mpr z)
                        have f96 : ((σ4.1 0 2) + a3_19).toInt = (σ4.1 0 2).toInt + a3_19.toInt := iadd_toInt (by omega) (by omega)
                        refine ok_gd.mpr ⟨gb_of (by omega) (by omega), ?_⟩
                        refine ok_nm2 (fun v16_20 ev16_20 => ?_)
                        have f97 : 0 ≤ (σ4.1 1 ((σ4.1 0 2) + a3_19).toNatClampNeg).toInt ∧ (σ4.1 1 ((σ4.1 0 2) + a3_19).toNatClampNeg).toInt ≤ 255 := hIσ4 1 _
                        have qv16_20 : v16_20.toInt = (σ4.1 1 ((σ4.1 0 2) + a3_19).toNatClampNeg).toInt := congrArg Int32.toInt ev16_20
                        refine ok_gd.mpr ⟨gb_of (by omega) (by omega), ?_⟩
                        refine ok_nm2 (fun v17_20 ev17_20 => ?_)
                        have qv17_20 : v17_20.toInt = (σ4.1 p1 a3_19.toNatClampNeg).toInt := congrArg Int32.toInt ev17_20
                        refine ok_ite.mpr ⟨fun h_98 => ?_, fun h_98 => ?_⟩
                        · have g99 : v16_20.toInt = v17_20.toInt := by rw [h_98]
                          refine ok_nm2 (fun x19_20 ex19_20 => ?_)
                          have f100 : (a3_19 + (1 : Int32)).toInt = a3_19.toInt + (1 : Int32).toInt := iadd_toInt (by omega) (by omega)
                          have qx19_20 : x19_20.toInt = (a3_19 + 1).toInt := congrArg Int32.toInt ex19_20
                          exact hrec_19 _ x19_20 (show (9999 + 1 - x19_20.toInt).toNat < n_19 by omega) ⟨rfl, (show 0 ≤ x19_20.toInt by omega), (show x19_20.toInt ≤ 9999 by omega)⟩
                        · have g101 : v16_20.toInt ≠ v17_20.toInt := fun z => h_98 (Int32.toInt_inj.mp z)
                          refine ok_some.mpr ?_
                          exact ⟨hIσ4, hfσ4, (show 0 ≤ (0 : Int32).toInt by omega), (show (0 : Int32).toInt ≤ 1 by omega), (show (0 : Int32).toInt ≠ 0 → (σ4.1 0 2).toInt + ((gsz zM.1 0 1 p1 : Nat) : Int) ≤ 1600 by omega)⟩
                    · have f102 : (a2_5 - (σ4.1 0 2)).toInt = a2_5.toInt - (σ4.1 0 2).toInt := isub_toInt (by omega) (by omega)
                      have f103 : 2 ≤ (gsz zM.1 0 1 p1) ∧ (gsz zM.1 0 1 p1) ≤ 7 := by
                        have hj : p1 = 2 ∨ p1 = 3 ∨ p1 = 4 ∨ p1 = 5 ∨ p1 = 6 ∨ p1 = 7 ∨ p1 = 8 ∨ p1 = 9 ∨ p1 = 10 ∨ p1 = 11 ∨ p1 = 12 ∨ p1 = 13 := by omega
                        rcases hj with hj | hj | hj | hj | hj | hj | hj | hj | hj | hj | hj | hj <;> rw [hj] <;> decide
                      have f104 : (Int32.ofNat (gsz zM.1 0 1 p1)).toInt = (((gsz zM.1 0 1 p1) : Nat) : Int) := iofNat_toInt (by omega)
                      have g105 : (a2_5 - (σ4.1 0 2)).toInt ≠ (Int32.ofNat (gsz zM.1 0 1 p1)).toInt := fun z => h_88 (Int32.toInt_inj.mp z)
                      refine ok_some.mpr ?_
                      exact ⟨hIσ4, hfσ4, (show 0 ≤ (0 : Int32).toInt by omega), (show (0 : Int32).toInt ≤ 1 by omega), (show (0 : Int32).toInt ≠ 0 → (σ4.1 0 2).toInt + ((gsz zM.1 0 1 p1 : Nat) : Int) ≤ 1600 by omega)⟩
                  · have g106 : (0 : Int32).toInt ≠ (0 : Int32).toInt := fun z => h_86 (Int32.toInt_inj.mp z)
                    exfalso
                    omega
                · have g107 : ¬ (122 : Int32).toInt < v20_8.toInt := fun z => h_84 (Int32.lt_iff_toInt_lt.mpr z)
                  refine ok_some.mpr ?_
                  refine ok_ite.mpr ⟨fun h_108 => ?_, fun h_108 => ?_⟩
                  · have g109 : (1 : Int32).toInt = (0 : Int32).toInt := by rw [h_108]
                    exfalso
                    omega
                  · have g110 : (1 : Int32).toInt ≠ (0 : Int32).toInt := fun z => h_108 (Int32.toInt_inj.mp z)
                    refine ok_nm2 (fun x24_8_21 ex24_8_21 => ?_)
                    have f111 : (a2_5 + (1 : Int32)).toInt = a2_5.toInt + (1 : Int32).toInt := iadd_toInt (by omega) (by omega)
                    have qx24_8_21 : x24_8_21.toInt = (a2_5 + 1).toInt := congrArg Int32.toInt ex24_8_21
                    exact hrec_5 _ x24_8_21 (show (1600 + 1 - x24_8_21.toInt).toNat < n_5 by omega) ⟨rfl, (show 0 ≤ x24_8_21.toInt by omega), (show x24_8_21.toInt ≤ 1600 by omega)⟩
  · have f112 : (0 : Int32).toInt = 0 := by decide
    have g113 : (σ.1 0 5).toInt ≠ (0 : Int32).toInt := fun z => h_4 (Int32.toInt_inj.mp z)
    refine ok_some.mpr ?_
    exact ⟨hIσ, hfσ, (show 0 ≤ (0 : Int32).toInt by omega), (show (0 : Int32).toInt ≤ 1 by omega), (show (0 : Int32).toInt ≠ 0 → (σ.1 0 2).toInt + ((gsz zM.1 0 1 p1 : Nat) : Int) ≤ 1600 by omega)⟩
set_option maxRecDepth 20000 in
set_option maxHeartbeats 2000000 in
theorem o_fX10_takes {σ : gS} (hIσ : JM σ) {p1 : Nat} (h0p1 : 2 ≤ p1) (h1p1 : p1 ≤ 13) : Ok (fX10_takes σ p1) (fun out => JM out.2 ∧ Fr fr_fX10_takes σ out.2 ∧ 0 ≤ out.1.toInt ∧ out.1.toInt ≤ 1) := by
  unfold fX10_takes
  have hfσ : Fr fr_fX10_takes σ σ := Fr_r
  have f1 : 0 ≤ (σ.1 0 1).toInt ∧ (σ.1 0 1).toInt ≤ 1600 := hIσ 0 1
  have f2 : 0 ≤ (σ.1 0 2).toInt ∧ (σ.1 0 2).toInt ≤ 1600 := hIσ 0 2
  refine ok_bd2.mpr ((o_fX10_isHere hIσ (p1 := p1) (by omega) (by omega)).mono (fun o_3 ho_4 => ?_))
  obtain ⟨r2, σ3⟩ := o_3
  obtain ⟨hIσ3, hcσ3, r0r2, r1r2, hp_5⟩ := ho_4
  dsimp only at hIσ3 hcσ3 r0r2 r1r2 hp_5 ⊢
  have hfσ3 : Fr fr_fX10_takes σ σ3 := Fr_c hfσ hcσ3 (by decide)
  have sσ3_0_1 : (σ3.1 0 1).toInt = (σ.1 0 1).toInt := by rw [(hcσ3 0 1 (by decide) (by decide)).1]
  refine ok_ite.mpr ⟨fun h_6 => ?_, fun h_6 => ?_⟩
  · have f7 : (0 : Int32).toInt = 0 := by decide
    have g8 : r2.toInt = (0 : Int32).toInt := by rw [h_6]
    refine ok_some.mpr ?_
    exact ⟨hIσ3, hfσ3, (show 0 ≤ (0 : Int32).toInt by omega), (show (0 : Int32).toInt ≤ 1 by omega)⟩
  · have f9 : (0 : Int32).toInt = 0 := by decide
    have g10 : r2.toInt ≠ (0 : Int32).toInt := fun z => h_6 (Int32.toInt_inj.mp z)
    refine ok_gd.mpr ⟨?_, ?_⟩
    · have hj : p1 = 2 ∨ p1 = 3 ∨ p1 = 4 ∨ p1 = 5 ∨ p1 = 6 ∨ p1 = 7 ∨ p1 = 8 ∨ p1 = 9 ∨ p1 = 10 ∨ p1 = 11 ∨ p1 = 12 ∨ p1 = 13 := by omega
      rcases hj with hj | hj | hj | hj | hj | hj | hj | hj | hj | hj | hj | hj <;> rw [hj] <;> decide
    refine ok_nm2 (fun σ6 eσ6 => ?_)
    have f11 : 0 ≤ (σ3.1 0 2).toInt ∧ (σ3.1 0 2).toInt ≤ 1600 := hIσ3 0 2
    have f12 : 2 ≤ (gsz zM.1 0 1 p1) ∧ (gsz zM.1 0 1 p1) ≤ 7 := by
      have hj : p1 = 2 ∨ p1 = 3 ∨ p1 = 4 ∨ p1 = 5 ∨ p1 = 6 ∨ p1 = 7 ∨ p1 = 8 ∨ p1 = 9 ∨ p1 = 10 ∨ p1 = 11 ∨ p1 = 12 ∨ p1 = 13 := by omega
      rcases hj with hj | hj | hj | hj | hj | hj | hj | hj | hj | hj | hj | hj <;> rw [hj] <;> decide
    have f13 : (Int32.ofNat (gsz zM.1 0 1 p1)).toInt = (((gsz zM.1 0 1 p1) : Nat) : Int) := iofNat_toInt (by omega)
    have f14 : ((σ3.1 0 2) + (Int32.ofNat (gsz zM.1 0 1 p1))).toInt = (σ3.1 0 2).toInt + (Int32.ofNat (gsz zM.1 0 1 p1)).toInt := iadd_toInt (by omega) (by omega)
    have hIσ6 : JM σ6 := by rw [eσ6]; exact JM_w hIσ3 (show 0 ≤ _ by omega) (show _ ≤ 1600 by omega)
    have hfσ6 : Fr fr_fX10_takes σ σ6 := by rw [eσ6]; exact Fr_w hfσ3 (by decide)
    have sσ6_0_1 : (σ6.1 0 1).toInt = (σ3.1 0 1).toInt := by rw [eσ6]; rfl
    have sσ6_0_2 : (σ6.1 0 2).toInt = ((σ3.1 0 2) + (Int32.ofNat (gsz zM.1 0 1 p1))).toInt := by rw [eσ6]; rfl
    refine ok_nm2 (fun σ7 eσ7 => ?_)
    have f15 : 0 ≤ (σ6.1 0 2).toInt ∧ (σ6.1 0 2).toInt ≤ 1600 := hIσ6 0 2
    have hIσ7 : JM σ7 := by rw [eσ7]; exact JM_w hIσ6 (Int32.le_toInt _) (Int32.toInt_le _)
    have hfσ7 : Fr fr_fX10_takes σ σ7 := by rw [eσ7]; exact Fr_w hfσ6 (by decide)
    have sσ7_0_1 : (σ7.1 0 1).toInt = (σ6.1 0 1).toInt := by rw [eσ7]; rfl
    have sσ7_0_2 : (σ7.1 0 2).toInt = (σ6.1 0 2).toInt := by rw [eσ7]; rfl
    refine ok_some.mpr ?_
    have f16 : (1 : Int32).toInt = 1 := by decide
    exact ⟨hIσ7, hfσ7, (show 0 ≤ (1 : Int32).toInt by omega), (show (1 : Int32).toInt ≤ 1 by omega)⟩
set_option maxRecDepth 20000 in
set_option maxHeartbeats 2000000 in
theorem o_fX10_fail {σ : gS} (hIσ : JM σ) {p1 : Int32} {p2 : Int32} (h0p1 : 1 ≤ p1.toInt) (h1p1 : p1.toInt ≤ 4) : Ok (fX10_fail σ p1 p2) (fun out => JM out ∧ Fr fr_fX10_fail σ out ∧ (out.1 0 5).toInt ≠ 0) := by
  unfold fX10_fail
  have hfσ : Fr fr_fX10_fail σ σ := Fr_r
  refine ok_ite.mpr ⟨fun h_1 => ?_, fun h_1 => ?_⟩
  · have f2 : (0 : Int32).toInt = 0 := by decide
    have g3 : (σ.1 0 5).toInt = (0 : Int32).toInt := by rw [h_1]
    refine ok_nm2 (fun σ2 eσ2 => ?_)
    have hIσ2 : JM σ2 := by rw [eσ2]; exact JM_w hIσ (Int32.le_toInt _) (Int32.toInt_le _)
    have hfσ2 : Fr fr_fX10_fail σ σ2 := by rw [eσ2]; exact Fr_w hfσ (by decide)
    have sσ2_0_5 : (σ2.1 0 5).toInt = p1.toInt := by rw [eσ2]; rfl
    refine ok_nm2 (fun σ3 eσ3 => ?_)
    have hIσ3 : JM σ3 := by rw [eσ3]; exact JM_w hIσ2 (Int32.le_toInt _) (Int32.toInt_le _)
    have hfσ3 : Fr fr_fX10_fail σ σ3 := by rw [eσ3]; exact Fr_w hfσ2 (by decide)
    have sσ3_0_5 : (σ3.1 0 5).toInt = (σ2.1 0 5).toInt := by rw [eσ3]; rfl
    refine ok_some.mpr ?_
    exact ⟨hIσ3, hfσ3, (show (σ3.1 0 5).toInt ≠ 0 by omega)⟩
  · have f4 : (0 : Int32).toInt = 0 := by decide
    have g5 : (σ.1 0 5).toInt ≠ (0 : Int32).toInt := fun z => h_1 (Int32.toInt_inj.mp z)
    refine ok_some.mpr ?_
    exact ⟨hIσ, hfσ, (show (σ.1 0 5).toInt ≠ 0 by omega)⟩
set_option maxRecDepth 20000 in
set_option maxHeartbeats 2000000 in
theorem o_fX10_asks {σ : gS} (hIσ : JM σ) {p1 : Nat} (h0p1 : 2 ≤ p1) (h1p1 : p1 ≤ 13) : Ok (fX10_asks σ p1) (fun out => JM out ∧ Fr fr_fX10_asks σ out) := by
  unfold fX10_asks
  have hfσ : Fr fr_fX10_asks σ σ := Fr_r
  have f1 : 0 ≤ (σ.1 0 2).toInt ∧ (σ.1 0 2).toInt ≤ 1600 := hIσ 0 2
  refine ok_ite.mpr ⟨fun h_2 => ?_, fun h_2 => ?_⟩
  · have f3 : (0 : Int32).toInt = 0 := by decide
    have g4 : (σ.1 0 5).toInt = (0 : Int32).toInt := by rw [h_2]
    refine ok_bd2.mpr ((o_fX10_takes hIσ (p1 := p1) (by omega) (by omega)).mono (fun o_5 ho_6 => ?_))
    obtain ⟨r3, σ4⟩ := o_5
    obtain ⟨hIσ4, hcσ4, r0r3, r1r3⟩ := ho_6
    dsimp only at hIσ4 hcσ4 r0r3 r1r3 ⊢
    have hfσ4 : Fr fr_fX10_asks σ σ4 := Fr_c hfσ hcσ4 (by decide)
    have sσ4_0_5 : (σ4.1 0 5).toInt = (σ.1 0 5).toInt := by rw [(hcσ4 0 5 (by decide) (by decide)).1]
    refine ok_ite.mpr ⟨fun h_7 => ?_, fun h_7 => ?_⟩
    · have g8 : r3.toInt = (0 : Int32).toInt := by rw [h_7]
      have f9 : (1 : Int32).toInt = 1 := by decide
      have f10 : 0 ≤ (σ4.1 0 2).toInt ∧ (σ4.1 0 2).toInt ≤ 1600 := hIσ4 0 2
      refine ok_bd.mpr ((o_fX10_fail hIσ4 (p1 := (1 : Int32)) (p2 := (σ4.1 0 2)) (by omega) (by omega)).mono (fun σ7 ho_12 => ?_))
      obtain ⟨hIσ7, hcσ7, hp_13⟩ := ho_12
      have hfσ7 : Fr fr_fX10_asks σ σ7 := Fr_c hfσ4 hcσ7 (by decide)
      have sσ7_0_2 : (σ7.1 0 2).toInt = (σ4.1 0 2).toInt := by rw [(hcσ7 0 2 (by decide) (by decide)).1]
      refine ok_some.mpr ?_
      exact ⟨hIσ7, hfσ7⟩
    · have g14 : r3.toInt ≠ (0 : Int32).toInt := fun z => h_7 (Int32.toInt_inj.mp z)
      refine ok_some.mpr ?_
      exact ⟨hIσ4, hfσ4⟩
  · have f15 : (0 : Int32).toInt = 0 := by decide
    have g16 : (σ.1 0 5).toInt ≠ (0 : Int32).toInt := fun z => h_2 (Int32.toInt_inj.mp z)
    refine ok_some.mpr ?_
    exact ⟨hIσ, hfσ⟩
set_option maxRecDepth 20000 in
set_option maxHeartbeats 2000000 in
theorem o_fX10_takesSign {σ : gS} (hIσ : JM σ) {p1 : Int32} (h0p1 : 0 ≤ p1.toInt) (h1p1 : p1.toInt ≤ 255) : Ok (fX10_takesSign σ p1) (fun out => JM out.2 ∧ Fr fr_fX10_takesSign σ out.2 ∧ 0 ≤ out.1.toInt ∧ out.1.toInt ≤ 1) := by
  unfold fX10_takesSign
  have hfσ : Fr fr_fX10_takesSign σ σ := Fr_r
  have f1 : 0 ≤ (σ.1 0 2).toInt ∧ (σ.1 0 2).toInt ≤ 1600 := hIσ 0 2
  have f2 : 0 ≤ (σ.1 0 3).toInt ∧ (σ.1 0 3).toInt ≤ 1600 := hIσ 0 3
  refine ok_ite.mpr ⟨fun h_3 => ?_, fun h_3 => ?_⟩
  · have f4 : (0 : Int32).toInt = 0 := by decide
    have g5 : (σ.1 0 5).toInt = (0 : Int32).toInt := by rw [h_3]
    refine ok_bd2.mpr ((o_fX10_look hIσ  ).mono (fun o_6 ho_7 => ?_))
    obtain ⟨r3, σ4⟩ := o_6
    obtain ⟨hIσ4, hcσ4, hp_8⟩ := ho_7
    dsimp only at hIσ4 hcσ4 hp_8 ⊢
    have hfσ4 : Fr fr_fX10_takesSign σ σ4 := Fr_c hfσ hcσ4 (by decide)
    have sσ4_0_3 : (σ4.1 0 3).toInt = (σ.1 0 3).toInt := by rw [(hcσ4 0 3 (by decide) (by decide)).1]
    have sσ4_0_5 : (σ4.1 0 5).toInt = (σ.1 0 5).toInt := by rw [(hcσ4 0 5 (by decide) (by decide)).1]
    refine ok_ite.mpr ⟨fun h_9 => ?_, fun h_9 => ?_⟩
    · have g10 : r3.toInt = p1.toInt := by rw [h_9]
      refine ok_nm2 (fun σ6 eσ6 => ?_)
      have f11 : 0 ≤ (σ4.1 0 2).toInt ∧ (σ4.1 0 2).toInt ≤ 1600 := hIσ4 0 2
      have f12 : (1 : Int32).toInt = 1 := by decide
      have f13 : ((σ4.1 0 2) + (1 : Int32)).toInt = (σ4.1 0 2).toInt + (1 : Int32).toInt := iadd_toInt (by omega) (by omega)
      have hIσ6 : JM σ6 := by rw [eσ6]; exact JM_w hIσ4 (show 0 ≤ _ by omega) (show _ ≤ 1600 by omega)
      have hfσ6 : Fr fr_fX10_takesSign σ σ6 := by rw [eσ6]; exact Fr_w hfσ4 (by decide)
      have sσ6_0_2 : (σ6.1 0 2).toInt = ((σ4.1 0 2) + 1).toInt := by rw [eσ6]; rfl
      have sσ6_0_3 : (σ6.1 0 3).toInt = (σ4.1 0 3).toInt := by rw [eσ6]; rfl
      have sσ6_0_5 : (σ6.1 0 5).toInt = (σ4.1 0 5).toInt := by rw [eσ6]; rfl
      refine ok_some.mpr ?_
      exact ⟨hIσ6, hfσ6, (show 0 ≤ (1 : Int32).toInt by omega), (show (1 : Int32).toInt ≤ 1 by omega)⟩
    · have g14 : r3.toInt ≠ p1.toInt := fun z => h_9 (Int32.toInt_inj.mp z)
      refine ok_some.mpr ?_
      exact ⟨hIσ4, hfσ4, (show 0 ≤ (0 : Int32).toInt by omega), (show (0 : Int32).toInt ≤ 1 by omega)⟩
  · have f15 : (0 : Int32).toInt = 0 := by decide
    have g16 : (σ.1 0 5).toInt ≠ (0 : Int32).toInt := fun z => h_3 (Int32.toInt_inj.mp z)
    refine ok_some.mpr ?_
    exact ⟨hIσ, hfσ, (show 0 ≤ (0 : Int32).toInt by omega), (show (0 : Int32).toInt ≤ 1 by omega)⟩
set_option maxRecDepth 20000 in
set_option maxHeartbeats 2000000 in
theorem o_fX10_asksSign {σ : gS} (hIσ : JM σ) {p1 : Int32} (h0p1 : 0 ≤ p1.toInt) (h1p1 : p1.toInt ≤ 255) (pre0 : p1.toInt = 59) : Ok (fX10_asksSign σ p1) (fun out => JM out ∧ Fr fr_fX10_asksSign σ out) := by
  unfold fX10_asksSign
  have hfσ : Fr fr_fX10_asksSign σ σ := Fr_r
  have f1 : 0 ≤ (σ.1 0 2).toInt ∧ (σ.1 0 2).toInt ≤ 1600 := hIσ 0 2
  refine ok_ite.mpr ⟨fun h_2 => ?_, fun h_2 => ?_⟩
  · have f3 : (0 : Int32).toInt = 0 := by decide
    have g4 : (σ.1 0 5).toInt = (0 : Int32).toInt := by rw [h_2]
    refine ok_bd2.mpr ((o_fX10_takesSign hIσ (p1 := p1) (by omega) (by omega)).mono (fun o_5 ho_6 => ?_))
    obtain ⟨r3, σ4⟩ := o_5
    obtain ⟨hIσ4, hcσ4, r0r3, r1r3⟩ := ho_6
    dsimp only at hIσ4 hcσ4 r0r3 r1r3 ⊢
    have hfσ4 : Fr fr_fX10_asksSign σ σ4 := Fr_c hfσ hcσ4 (by decide)
    have sσ4_0_5 : (σ4.1 0 5).toInt = (σ.1 0 5).toInt := by rw [(hcσ4 0 5 (by decide) (by decide)).1]
    refine ok_ite.mpr ⟨fun h_7 => ?_, fun h_7 => ?_⟩
    · have g8 : r3.toInt = (0 : Int32).toInt := by rw [h_7]
      have f9 : (1 : Int32).toInt = 1 := by decide
      have f10 : 0 ≤ (σ4.1 0 2).toInt ∧ (σ4.1 0 2).toInt ≤ 1600 := hIσ4 0 2
      refine ok_bd.mpr ((o_fX10_fail hIσ4 (p1 := (1 : Int32)) (p2 := (σ4.1 0 2)) (by omega) (by omega)).mono (fun σ7 ho_12 => ?_))
      obtain ⟨hIσ7, hcσ7, hp_13⟩ := ho_12
      have hfσ7 : Fr fr_fX10_asksSign σ σ7 := Fr_c hfσ4 hcσ7 (by decide)
      have sσ7_0_2 : (σ7.1 0 2).toInt = (σ4.1 0 2).toInt := by rw [(hcσ7 0 2 (by decide) (by decide)).1]
      refine ok_some.mpr ?_
      exact ⟨hIσ7, hfσ7⟩
    · have g14 : r3.toInt ≠ (0 : Int32).toInt := fun z => h_7 (Int32.toInt_inj.mp z)
      refine ok_some.mpr ?_
      exact ⟨hIσ4, hfσ4⟩
  · have f15 : (0 : Int32).toInt = 0 := by decide
    have g16 : (σ.1 0 5).toInt ≠ (0 : Int32).toInt := fun z => h_2 (Int32.toInt_inj.mp z)
    refine ok_some.mpr ?_
    exact ⟨hIσ, hfσ⟩
set_option maxRecDepth 20000 in
set_option maxHeartbeats 2000000 in
theorem o_fX10_isOwnHere {σ : gS} (hIσ : JM σ)   : Ok (fX10_isOwnHere σ ) (fun out => JM out.2 ∧ Fr fr_fX10_isOwnHere σ out.2 ∧ 0 ≤ out.1.toInt ∧ out.1.toInt ≤ 1) := by
  unfold fX10_isOwnHere
  have hfσ : Fr fr_fX10_isOwnHere σ σ := Fr_r
  have f1 : 0 ≤ (σ.1 0 1).toInt ∧ (σ.1 0 1).toInt ≤ 1600 := hIσ 0 1
  have f2 : 0 ≤ (σ.1 0 2).toInt ∧ (σ.1 0 2).toInt ≤ 1600 := hIσ 0 2
  refine ok_bd2.mpr ((o_fX10_isHere hIσ (p1 := 2) (by decide) (by decide)).mono (fun o_3 ho_4 => ?_))
  obtain ⟨r2, σ3⟩ := o_3
  obtain ⟨hIσ3, hcσ3, r0r2, r1r2, hp_5⟩ := ho_4
  dsimp only at hIσ3 hcσ3 r0r2 r1r2 hp_5 ⊢
  have hfσ3 : Fr fr_fX10_isOwnHere σ σ3 := Fr_c hfσ hcσ3 (by decide)
  have sσ3_0_1 : (σ3.1 0 1).toInt = (σ.1 0 1).toInt := by rw [(hcσ3 0 1 (by decide) (by decide)).1]
  refine ok_ite.mpr ⟨fun h_6 => ?_, fun h_6 => ?_⟩
  · have f7 : (0 : Int32).toInt = 0 := by decide
    have g8 : r2.toInt = (0 : Int32).toInt := by rw [h_6]
    refine ok_bd2.mpr ((o_fX10_isHere hIσ3 (p1 := 3) (by decide) (by decide)).mono (fun o_9 ho_10 => ?_))
    obtain ⟨r40, σ41⟩ := o_9
    obtain ⟨hIσ41, hcσ41, r0r40, r1r40, hp_11⟩ := ho_10
    dsimp only at hIσ41 hcσ41 r0r40 r1r40 hp_11 ⊢
    have hfσ41 : Fr fr_fX10_isOwnHere σ σ41 := Fr_c hfσ3 hcσ41 (by decide)
    have sσ41_0_1 : (σ41.1 0 1).toInt = (σ3.1 0 1).toInt := by rw [(hcσ41 0 1 (by decide) (by decide)).1]
    refine ok_ite.mpr ⟨fun h_12 => ?_, fun h_12 => ?_⟩
    · have g13 : r40.toInt = (0 : Int32).toInt := by rw [h_12]
      refine ok_bd2.mpr ((o_fX10_isHere hIσ41 (p1 := 4) (by decide) (by decide)).mono (fun o_14 ho_15 => ?_))
      obtain ⟨r44, σ45⟩ := o_14
      obtain ⟨hIσ45, hcσ45, r0r44, r1r44, hp_16⟩ := ho_15
      dsimp only at hIσ45 hcσ45 r0r44 r1r44 hp_16 ⊢
      have hfσ45 : Fr fr_fX10_isOwnHere σ σ45 := Fr_c hfσ41 hcσ45 (by decide)
      have sσ45_0_1 : (σ45.1 0 1).toInt = (σ41.1 0 1).toInt := by rw [(hcσ45 0 1 (by decide) (by decide)).1]
      refine ok_ite.mpr ⟨fun h_17 => ?_, fun h_17 => ?_⟩
      · have g18 : r44.toInt = (0 : Int32).toInt := by rw [h_17]
        refine ok_bd2.mpr ((o_fX10_isHere hIσ45 (p1 := 5) (by decide) (by decide)).mono (fun o_19 ho_20 => ?_))
        obtain ⟨r48, σ49⟩ := o_19
        obtain ⟨hIσ49, hcσ49, r0r48, r1r48, hp_21⟩ := ho_20
        dsimp only at hIσ49 hcσ49 r0r48 r1r48 hp_21 ⊢
        have hfσ49 : Fr fr_fX10_isOwnHere σ σ49 := Fr_c hfσ45 hcσ49 (by decide)
        have sσ49_0_1 : (σ49.1 0 1).toInt = (σ45.1 0 1).toInt := by rw [(hcσ49 0 1 (by decide) (by decide)).1]
        refine ok_ite.mpr ⟨fun h_22 => ?_, fun h_22 => ?_⟩
        · have g23 : r48.toInt = (0 : Int32).toInt := by rw [h_22]
          refine ok_bd2.mpr ((o_fX10_isHere hIσ49 (p1 := 6) (by decide) (by decide)).mono (fun o_24 ho_25 => ?_))
          obtain ⟨r52, σ53⟩ := o_24
          obtain ⟨hIσ53, hcσ53, r0r52, r1r52, hp_26⟩ := ho_25
          dsimp only at hIσ53 hcσ53 r0r52 r1r52 hp_26 ⊢
          have hfσ53 : Fr fr_fX10_isOwnHere σ σ53 := Fr_c hfσ49 hcσ53 (by decide)
          have sσ53_0_1 : (σ53.1 0 1).toInt = (σ49.1 0 1).toInt := by rw [(hcσ53 0 1 (by decide) (by decide)).1]
          refine ok_ite.mpr ⟨fun h_27 => ?_, fun h_27 => ?_⟩
          · have g28 : r52.toInt = (0 : Int32).toInt := by rw [h_27]
            refine ok_bd2.mpr ((o_fX10_isHere hIσ53 (p1 := 7) (by decide) (by decide)).mono (fun o_29 ho_30 => ?_))
            obtain ⟨r56, σ57⟩ := o_29
            obtain ⟨hIσ57, hcσ57, r0r56, r1r56, hp_31⟩ := ho_30
            dsimp only at hIσ57 hcσ57 r0r56 r1r56 hp_31 ⊢
            have hfσ57 : Fr fr_fX10_isOwnHere σ σ57 := Fr_c hfσ53 hcσ57 (by decide)
            have sσ57_0_1 : (σ57.1 0 1).toInt = (σ53.1 0 1).toInt := by rw [(hcσ57 0 1 (by decide) (by decide)).1]
            refine ok_ite.mpr ⟨fun h_32 => ?_, fun h_32 => ?_⟩
            · have g33 : r56.toInt = (0 : Int32).toInt := by rw [h_32]
              try unfold jX10_isOwnHere_71
              refine ok_nm2 (fun x5_1 ex5_1 => ?_)
              have qx5_1 : x5_1.toInt = 0 := by rw [ex5_1]; decide
              refine ok_ite.mpr ⟨fun h_34 => ?_, fun h_34 => ?_⟩
              · have g35 : x5_1.toInt = (0 : Int32).toInt := by rw [h_34]
                refine ok_bd2.mpr ((o_fX10_isHere hIσ57 (p1 := 8) (by decide) (by decide)).mono (fun o_36 ho_37 => ?_))
                obtain ⟨r9_1, σ10_1⟩ := o_36
                obtain ⟨hIσ10_1, hcσ10_1, r0r9_1, r1r9_1, hp_38⟩ := ho_37
                dsimp only at hIσ10_1 hcσ10_1 r0r9_1 r1r9_1 hp_38 ⊢
                have hfσ10_1 : Fr fr_fX10_isOwnHere σ σ10_1 := Fr_c hfσ57 hcσ10_1 (by decide)
                have sσ10_1_0_1 : (σ10_1.1 0 1).toInt = (σ57.1 0 1).toInt := by rw [(hcσ10_1 0 1 (by decide) (by decide)).1]
                refine ok_ite.mpr ⟨fun h_39 => ?_, fun h_39 => ?_⟩
                · have g40 : r9_1.toInt = (0 : Int32).toInt := by rw [h_39]
                  refine ok_bd2.mpr ((o_fX10_isHere hIσ10_1 (p1 := 9) (by decide) (by decide)).mono (fun o_41 ho_42 => ?_))
                  obtain ⟨r14_1, σ15_1⟩ := o_41
                  obtain ⟨hIσ15_1, hcσ15_1, r0r14_1, r1r14_1, hp_43⟩ := ho_42
                  dsimp only at hIσ15_1 hcσ15_1 r0r14_1 r1r14_1 hp_43 ⊢
                  have hfσ15_1 : Fr fr_fX10_isOwnHere σ σ15_1 := Fr_c hfσ10_1 hcσ15_1 (by decide)
                  have sσ15_1_0_1 : (σ15_1.1 0 1).toInt = (σ10_1.1 0 1).toInt := by rw [(hcσ15_1 0 1 (by decide) (by decide)).1]
                  refine ok_ite.mpr ⟨fun h_44 => ?_, fun h_44 => ?_⟩
                  · have g45 : r14_1.toInt = (0 : Int32).toInt := by rw [h_44]
                    refine ok_bd2.mpr ((o_fX10_isHere hIσ15_1 (p1 := 10) (by decide) (by decide)).mono (fun o_46 ho_47 => ?_))
                    obtain ⟨r19_1, σ20_1⟩ := o_46
                    obtain ⟨hIσ20_1, hcσ20_1, r0r19_1, r1r19_1, hp_48⟩ := ho_47
                    dsimp only at hIσ20_1 hcσ20_1 r0r19_1 r1r19_1 hp_48 ⊢
                    have hfσ20_1 : Fr fr_fX10_isOwnHere σ σ20_1 := Fr_c hfσ15_1 hcσ20_1 (by decide)
                    have sσ20_1_0_1 : (σ20_1.1 0 1).toInt = (σ15_1.1 0 1).toInt := by rw [(hcσ20_1 0 1 (by decide) (by decide)).1]
                    refine ok_ite.mpr ⟨fun h_49 => ?_, fun h_49 => ?_⟩
                    · have g50 : r19_1.toInt = (0 : Int32).toInt := by rw [h_49]
                      refine ok_bd2.mpr ((o_fX10_isHere hIσ20_1 (p1 := 11) (by decide) (by decide)).mono (fun o_51 ho_52 => ?_))
                      obtain ⟨r24_1, σ25_1⟩ := o_51
                      obtain ⟨hIσ25_1, hcσ25_1, r0r24_1, r1r24_1, hp_53⟩ := ho_52
                      dsimp only at hIσ25_1 hcσ25_1 r0r24_1 r1r24_1 hp_53 ⊢
                      have hfσ25_1 : Fr fr_fX10_isOwnHere σ σ25_1 := Fr_c hfσ20_1 hcσ25_1 (by decide)
                      have sσ25_1_0_1 : (σ25_1.1 0 1).toInt = (σ20_1.1 0 1).toInt := by rw [(hcσ25_1 0 1 (by decide) (by decide)).1]
                      refine ok_ite.mpr ⟨fun h_54 => ?_, fun h_54 => ?_⟩
                      · have g55 : r24_1.toInt = (0 : Int32).toInt := by rw [h_54]
                        refine ok_bd2.mpr ((o_fX10_isHere hIσ25_1 (p1 := 12) (by decide) (by decide)).mono (fun o_56 ho_57 => ?_))
                        obtain ⟨r29_1, σ30_1⟩ := o_56
                        obtain ⟨hIσ30_1, hcσ30_1, r0r29_1, r1r29_1, hp_58⟩ := ho_57
                        dsimp only at hIσ30_1 hcσ30_1 r0r29_1 r1r29_1 hp_58 ⊢
                        have hfσ30_1 : Fr fr_fX10_isOwnHere σ σ30_1 := Fr_c hfσ25_1 hcσ30_1 (by decide)
                        have sσ30_1_0_1 : (σ30_1.1 0 1).toInt = (σ25_1.1 0 1).toInt := by rw [(hcσ30_1 0 1 (by decide) (by decide)).1]
                        refine ok_ite.mpr ⟨fun h_59 => ?_, fun h_59 => ?_⟩
                        · have g60 : r29_1.toInt = (0 : Int32).toInt := by rw [h_59]
                          refine ok_bd2.mpr ((o_fX10_isHere hIσ30_1 (p1 := 13) (by decide) (by decide)).mono (fun o_61 ho_62 => ?_))
                          obtain ⟨r34_1, σ35_1⟩ := o_61
                          obtain ⟨hIσ35_1, hcσ35_1, r0r34_1, r1r34_1, hp_63⟩ := ho_62
                          dsimp only at hIσ35_1 hcσ35_1 r0r34_1 r1r34_1 hp_63 ⊢
                          have hfσ35_1 : Fr fr_fX10_isOwnHere σ σ35_1 := Fr_c hfσ30_1 hcσ35_1 (by decide)
                          have sσ35_1_0_1 : (σ35_1.1 0 1).toInt = (σ30_1.1 0 1).toInt := by rw [(hcσ35_1 0 1 (by decide) (by decide)).1]
                          refine ok_ite.mpr ⟨fun h_64 => ?_, fun h_64 => ?_⟩
                          · have g65 : r34_1.toInt = (0 : Int32).toInt := by rw [h_64]
                            refine ok_nm2 (fun x37_1 ex37_1 => ?_)
                            have qx37_1 : x37_1.toInt = 0 := by rw [ex37_1]; decide
                            refine ok_some.mpr ?_
                            have f66 : (vp_nar .boolean x37_1).toInt = x37_1.toInt := nar_bool2 (by omega) (by omega)
                            exact ⟨hIσ35_1, hfσ35_1, (show 0 ≤ (vp_nar .boolean x37_1).toInt by omega), (show (vp_nar .boolean x37_1).toInt ≤ 1 by omega)⟩
                          · have g67 : r34_1.toInt ≠ (0 : Int32).toInt := fun z => h_64 (Int32.toInt_inj.mp z)
                            refine ok_nm2 (fun x38_1 ex38_1 => ?_)
                            have f68 : (1 : Int32).toInt = 1 := by decide
                            have qx38_1 : x38_1.toInt = 1 := by rw [ex38_1]; decide
                            refine ok_some.mpr ?_
                            have f69 : (vp_nar .boolean x38_1).toInt = x38_1.toInt := nar_bool2 (by omega) (by omega)
                            exact ⟨hIσ35_1, hfσ35_1, (show 0 ≤ (vp_nar .boolean x38_1).toInt by omega), (show (vp_nar .boolean x38_1).toInt ≤ 1 by omega)⟩
                        · have g70 : r29_1.toInt ≠ (0 : Int32).toInt := fun z => h_59 (Int32.toInt_inj.mp z)
                          refine ok_nm2 (fun x32_1 ex32_1 => ?_)
                          have f71 : (1 : Int32).toInt = 1 := by decide
                          have qx32_1 : x32_1.toInt = 1 := by rw [ex32_1]; decide
                          refine ok_some.mpr ?_
                          have f72 : (vp_nar .boolean x32_1).toInt = x32_1.toInt := nar_bool2 (by omega) (by omega)
                          exact ⟨hIσ30_1, hfσ30_1, (show 0 ≤ (vp_nar .boolean x32_1).toInt by omega), (show (vp_nar .boolean x32_1).toInt ≤ 1 by omega)⟩
                      · have g73 : r24_1.toInt ≠ (0 : Int32).toInt := fun z => h_54 (Int32.toInt_inj.mp z)
                        refine ok_nm2 (fun x27_1 ex27_1 => ?_)
                        have f74 : (1 : Int32).toInt = 1 := by decide
                        have qx27_1 : x27_1.toInt = 1 := by rw [ex27_1]; decide
                        refine ok_some.mpr ?_
                        have f75 : (vp_nar .boolean x27_1).toInt = x27_1.toInt := nar_bool2 (by omega) (by omega)
                        exact ⟨hIσ25_1, hfσ25_1, (show 0 ≤ (vp_nar .boolean x27_1).toInt by omega), (show (vp_nar .boolean x27_1).toInt ≤ 1 by omega)⟩
                    · have g76 : r19_1.toInt ≠ (0 : Int32).toInt := fun z => h_49 (Int32.toInt_inj.mp z)
                      refine ok_nm2 (fun x22_1 ex22_1 => ?_)
                      have f77 : (1 : Int32).toInt = 1 := by decide
                      have qx22_1 : x22_1.toInt = 1 := by rw [ex22_1]; decide
                      refine ok_some.mpr ?_
                      have f78 : (vp_nar .boolean x22_1).toInt = x22_1.toInt := nar_bool2 (by omega) (by omega)
                      exact ⟨hIσ20_1, hfσ20_1, (show 0 ≤ (vp_nar .boolean x22_1).toInt by omega), (show (vp_nar .boolean x22_1).toInt ≤ 1 by omega)⟩
                  · have g79 : r14_1.toInt ≠ (0 : Int32).toInt := fun z => h_44 (Int32.toInt_inj.mp z)
                    refine ok_nm2 (fun x17_1 ex17_1 => ?_)
                    have f80 : (1 : Int32).toInt = 1 := by decide
                    have qx17_1 : x17_1.toInt = 1 := by rw [ex17_1]; decide
                    refine ok_some.mpr ?_
                    have f81 : (vp_nar .boolean x17_1).toInt = x17_1.toInt := nar_bool2 (by omega) (by omega)
                    exact ⟨hIσ15_1, hfσ15_1, (show 0 ≤ (vp_nar .boolean x17_1).toInt by omega), (show (vp_nar .boolean x17_1).toInt ≤ 1 by omega)⟩
                · have g82 : r9_1.toInt ≠ (0 : Int32).toInt := fun z => h_39 (Int32.toInt_inj.mp z)
                  refine ok_nm2 (fun x12_1 ex12_1 => ?_)
                  have f83 : (1 : Int32).toInt = 1 := by decide
                  have qx12_1 : x12_1.toInt = 1 := by rw [ex12_1]; decide
                  refine ok_some.mpr ?_
                  have f84 : (vp_nar .boolean x12_1).toInt = x12_1.toInt := nar_bool2 (by omega) (by omega)
                  exact ⟨hIσ10_1, hfσ10_1, (show 0 ≤ (vp_nar .boolean x12_1).toInt by omega), (show (vp_nar .boolean x12_1).toInt ≤ 1 by omega)⟩
              · have g85 : x5_1.toInt ≠ (0 : Int32).toInt := fun z => h_34 (Int32.toInt_inj.mp z)
                exfalso
                omega
            · have g86 : r56.toInt ≠ (0 : Int32).toInt := fun z => h_32 (Int32.toInt_inj.mp z)
              try unfold jX10_isOwnHere_71
              refine ok_nm2 (fun x5_2 ex5_2 => ?_)
              have f87 : (1 : Int32).toInt = 1 := by decide
              have qx5_2 : x5_2.toInt = 1 := by rw [ex5_2]; decide
              refine ok_ite.mpr ⟨fun h_88 => ?_, fun h_88 => ?_⟩
              · have g89 : x5_2.toInt = (0 : Int32).toInt := by rw [h_88]
                exfalso
                omega
              · have g90 : x5_2.toInt ≠ (0 : Int32).toInt := fun z => h_88 (Int32.toInt_inj.mp z)
                refine ok_nm2 (fun x7_2 ex7_2 => ?_)
                have qx7_2 : x7_2.toInt = 1 := by rw [ex7_2]; decide
                refine ok_some.mpr ?_
                have f91 : (vp_nar .boolean x7_2).toInt = x7_2.toInt := nar_bool2 (by omega) (by omega)
                exact ⟨hIσ57, hfσ57, (show 0 ≤ (vp_nar .boolean x7_2).toInt by omega), (show (vp_nar .boolean x7_2).toInt ≤ 1 by omega)⟩
          · have g92 : r52.toInt ≠ (0 : Int32).toInt := fun z => h_27 (Int32.toInt_inj.mp z)
            try unfold jX10_isOwnHere_71
            refine ok_nm2 (fun x5_3 ex5_3 => ?_)
            have f93 : (1 : Int32).toInt = 1 := by decide
            have qx5_3 : x5_3.toInt = 1 := by rw [ex5_3]; decide
            refine ok_ite.mpr ⟨fun h_94 => ?_, fun h_94 => ?_⟩
            · have g95 : x5_3.toInt = (0 : Int32).toInt := by rw [h_94]
              exfalso
              omega
            · have g96 : x5_3.toInt ≠ (0 : Int32).toInt := fun z => h_94 (Int32.toInt_inj.mp z)
              refine ok_nm2 (fun x7_3 ex7_3 => ?_)
              have qx7_3 : x7_3.toInt = 1 := by rw [ex7_3]; decide
              refine ok_some.mpr ?_
              have f97 : (vp_nar .boolean x7_3).toInt = x7_3.toInt := nar_bool2 (by omega) (by omega)
              exact ⟨hIσ53, hfσ53, (show 0 ≤ (vp_nar .boolean x7_3).toInt by omega), (show (vp_nar .boolean x7_3).toInt ≤ 1 by omega)⟩
        · have g98 : r48.toInt ≠ (0 : Int32).toInt := fun z => h_22 (Int32.toInt_inj.mp z)
          try unfold jX10_isOwnHere_71
          refine ok_nm2 (fun x5_4 ex5_4 => ?_)
          have f99 : (1 : Int32).toInt = 1 := by decide
          have qx5_4 : x5_4.toInt = 1 := by rw [ex5_4]; decide
          refine ok_ite.mpr ⟨fun h_100 => ?_, fun h_100 => ?_⟩
          · have g101 : x5_4.toInt = (0 : Int32).toInt := by rw [h_100]
            exfalso
            omega
          · have g102 : x5_4.toInt ≠ (0 : Int32).toInt := fun z => h_100 (Int32.toInt_inj.mp z)
            refine ok_nm2 (fun x7_4 ex7_4 => ?_)
            have qx7_4 : x7_4.toInt = 1 := by rw [ex7_4]; decide
            refine ok_some.mpr ?_
            have f103 : (vp_nar .boolean x7_4).toInt = x7_4.toInt := nar_bool2 (by omega) (by omega)
            exact ⟨hIσ49, hfσ49, (show 0 ≤ (vp_nar .boolean x7_4).toInt by omega), (show (vp_nar .boolean x7_4).toInt ≤ 1 by omega)⟩
      · have g104 : r44.toInt ≠ (0 : Int32).toInt := fun z => h_17 (Int32.toInt_inj.mp z)
        try unfold jX10_isOwnHere_71
        refine ok_nm2 (fun x5_5 ex5_5 => ?_)
        have f105 : (1 : Int32).toInt = 1 := by decide
        have qx5_5 : x5_5.toInt = 1 := by rw [ex5_5]; decide
        refine ok_ite.mpr ⟨fun h_106 => ?_, fun h_106 => ?_⟩
        · have g107 : x5_5.toInt = (0 : Int32).toInt := by rw [h_106]
          exfalso
          omega
        · have g108 : x5_5.toInt ≠ (0 : Int32).toInt := fun z => h_106 (Int32.toInt_inj.mp z)
          refine ok_nm2 (fun x7_5 ex7_5 => ?_)
          have qx7_5 : x7_5.toInt = 1 := by rw [ex7_5]; decide
          refine ok_some.mpr ?_
          have f109 : (vp_nar .boolean x7_5).toInt = x7_5.toInt := nar_bool2 (by omega) (by omega)
          exact ⟨hIσ45, hfσ45, (show 0 ≤ (vp_nar .boolean x7_5).toInt by omega), (show (vp_nar .boolean x7_5).toInt ≤ 1 by omega)⟩
    · have g110 : r40.toInt ≠ (0 : Int32).toInt := fun z => h_12 (Int32.toInt_inj.mp z)
      try unfold jX10_isOwnHere_71
      refine ok_nm2 (fun x5_6 ex5_6 => ?_)
      have f111 : (1 : Int32).toInt = 1 := by decide
      have qx5_6 : x5_6.toInt = 1 := by rw [ex5_6]; decide
      refine ok_ite.mpr ⟨fun h_112 => ?_, fun h_112 => ?_⟩
      · have g113 : x5_6.toInt = (0 : Int32).toInt := by rw [h_112]
        exfalso
        omega
      · have g114 : x5_6.toInt ≠ (0 : Int32).toInt := fun z => h_112 (Int32.toInt_inj.mp z)
        refine ok_nm2 (fun x7_6 ex7_6 => ?_)
        have qx7_6 : x7_6.toInt = 1 := by rw [ex7_6]; decide
        refine ok_some.mpr ?_
        have f115 : (vp_nar .boolean x7_6).toInt = x7_6.toInt := nar_bool2 (by omega) (by omega)
        exact ⟨hIσ41, hfσ41, (show 0 ≤ (vp_nar .boolean x7_6).toInt by omega), (show (vp_nar .boolean x7_6).toInt ≤ 1 by omega)⟩
  · have f116 : (0 : Int32).toInt = 0 := by decide
    have g117 : r2.toInt ≠ (0 : Int32).toInt := fun z => h_6 (Int32.toInt_inj.mp z)
    try unfold jX10_isOwnHere_71
    refine ok_nm2 (fun x5_7 ex5_7 => ?_)
    have f118 : (1 : Int32).toInt = 1 := by decide
    have qx5_7 : x5_7.toInt = 1 := by rw [ex5_7]; decide
    refine ok_ite.mpr ⟨fun h_119 => ?_, fun h_119 => ?_⟩
    · have g120 : x5_7.toInt = (0 : Int32).toInt := by rw [h_119]
      exfalso
      omega
    · have g121 : x5_7.toInt ≠ (0 : Int32).toInt := fun z => h_119 (Int32.toInt_inj.mp z)
      refine ok_nm2 (fun x7_7 ex7_7 => ?_)
      have qx7_7 : x7_7.toInt = 1 := by rw [ex7_7]; decide
      refine ok_some.mpr ?_
      have f122 : (vp_nar .boolean x7_7).toInt = x7_7.toInt := nar_bool2 (by omega) (by omega)
      exact ⟨hIσ3, hfσ3, (show 0 ≤ (vp_nar .boolean x7_7).toInt by omega), (show (vp_nar .boolean x7_7).toInt ≤ 1 by omega)⟩
set_option maxRecDepth 20000 in
set_option maxHeartbeats 2000000 in
theorem o_fX10_name {σ : gS} (hIσ : JM σ)   : Ok (fX10_name σ ) (fun out => JM out.2 ∧ Fr fr_fX10_name σ out.2 ∧ ((σ.1 0 5).toInt ≠ 0 → (out.2.1 0 5).toInt ≠ 0)) := by
  unfold fX10_name
  have hfσ : Fr fr_fX10_name σ σ := Fr_r
  have f1 : 0 ≤ (σ.1 0 2).toInt ∧ (σ.1 0 2).toInt ≤ 1600 := hIσ 0 2
  have f2 : 0 ≤ (σ.1 0 3).toInt ∧ (σ.1 0 3).toInt ≤ 1600 := hIσ 0 3
  refine ok_ite.mpr ⟨fun h_3 => ?_, fun h_3 => ?_⟩
  · have f4 : (0 : Int32).toInt = 0 := by decide
    have g5 : (σ.1 0 5).toInt = (0 : Int32).toInt := by rw [h_3]
    refine ok_bd2.mpr ((o_fX10_look hIσ  ).mono (fun o_6 ho_7 => ?_))
    obtain ⟨r3, σ4⟩ := o_6
    obtain ⟨hIσ4, hcσ4, hp_8⟩ := ho_7
    dsimp only at hIσ4 hcσ4 hp_8 ⊢
    have hfσ4 : Fr fr_fX10_name σ σ4 := Fr_c hfσ hcσ4 (by decide)
    have sσ4_0_3 : (σ4.1 0 3).toInt = (σ.1 0 3).toInt := by rw [(hcσ4 0 3 (by decide) (by decide)).1]
    have sσ4_0_4 : (σ4.1 0 4).toInt = (σ.1 0 4).toInt := by rw [(hcσ4 0 4 (by decide) (by decide)).1]
    have sσ4_0_5 : (σ4.1 0 5).toInt = (σ.1 0 5).toInt := by rw [(hcσ4 0 5 (by decide) (by decide)).1]
    have sσ4_0_21 : (σ4.1 0 21).toInt = (σ.1 0 21).toInt := by rw [(hcσ4 0 21 (by decide) (by decide)).1]
    refine ok_bd.mpr ?_
    try unfold fX10_isLetter
    refine ok_ite.mpr ⟨fun h_9 => ?_, fun h_9 => ?_⟩
    · have f10 : (97 : Int32).toInt = 97 := by decide
      have g11 : r3.toInt < (97 : Int32).toInt := Int32.lt_iff_toInt_lt.mp h_9
      refine ok_some.mpr ?_
      refine ok_ite.mpr ⟨fun h_12 => ?_, fun h_12 => ?_⟩
      · have g13 : (0 : Int32).toInt = (0 : Int32).toInt := by rw [h_12]
        try unfold jX10_name_37
        have f14 : (1 : Int32).toInt = 1 := by decide
        have f15 : 0 ≤ (σ4.1 0 2).toInt ∧ (σ4.1 0 2).toInt ≤ 1600 := hIσ4 0 2
        refine ok_bd.mpr ((o_fX10_fail hIσ4 (p1 := (1 : Int32)) (p2 := (σ4.1 0 2)) (by omega) (by omega)).mono (fun σ9_3 ho_17 => ?_))
        obtain ⟨hIσ9_3, hcσ9_3, hp_18⟩ := ho_17
        have hfσ9_3 : Fr fr_fX10_name σ σ9_3 := Fr_c hfσ4 hcσ9_3 (by decide)
        have sσ9_3_0_2 : (σ9_3.1 0 2).toInt = (σ4.1 0 2).toInt := by rw [(hcσ9_3 0 2 (by decide) (by decide)).1]
        have sσ9_3_0_3 : (σ9_3.1 0 3).toInt = (σ4.1 0 3).toInt := by rw [(hcσ9_3 0 3 (by decide) (by decide)).1]
        have sσ9_3_0_4 : (σ9_3.1 0 4).toInt = (σ4.1 0 4).toInt := by rw [(hcσ9_3 0 4 (by decide) (by decide)).1]
        have sσ9_3_0_21 : (σ9_3.1 0 21).toInt = (σ4.1 0 21).toInt := by rw [(hcσ9_3 0 21 (by decide) (by decide)).1]
        refine ok_some.mpr ?_
        have f19 : (0 : Int64).toInt = 0 := by decide
        exact ⟨hIσ9_3, hfσ9_3, (show (σ.1 0 5).toInt ≠ 0 → (σ9_3.1 0 5).toInt ≠ 0 by omega)⟩
      · have g20 : (0 : Int32).toInt ≠ (0 : Int32).toInt := fun z => h_12 (Int32.toInt_inj.mp z)
        exfalso
        omega
    · have f21 : (97 : Int32).toInt = 97 := by decide
      have g22 : ¬ r3.toInt < (97 : Int32).toInt := fun z => h_9 (Int32.lt_iff_toInt_lt.mpr z)
      refine ok_ite.mpr ⟨fun h_23 => ?_, fun h_23 => ?_⟩
      · have f24 : (122 : Int32).toInt = 122 := by decide
        have g25 : (122 : Int32).toInt < r3.toInt := Int32.lt_iff_toInt_lt.mp h_23
        refine ok_some.mpr ?_
        refine ok_ite.mpr ⟨fun h_26 => ?_, fun h_26 => ?_⟩
        · have g27 : (0 : Int32).toInt = (0 : Int32).toInt := by rw [h_26]
          try unfold jX10_name_37
          have f28 : (1 : Int32).toInt = 1 := by decide
          have f29 : 0 ≤ (σ4.1 0 2).toInt ∧ (σ4.1 0 2).toInt ≤ 1600 := hIσ4 0 2
          refine ok_bd.mpr ((o_fX10_fail hIσ4 (p1 := (1 : Int32)) (p2 := (σ4.1 0 2)) (by omega) (by omega)).mono (fun σ9_5 ho_31 => ?_))
          obtain ⟨hIσ9_5, hcσ9_5, hp_32⟩ := ho_31
          have hfσ9_5 : Fr fr_fX10_name σ σ9_5 := Fr_c hfσ4 hcσ9_5 (by decide)
          have sσ9_5_0_2 : (σ9_5.1 0 2).toInt = (σ4.1 0 2).toInt := by rw [(hcσ9_5 0 2 (by decide) (by decide)).1]
          have sσ9_5_0_3 : (σ9_5.1 0 3).toInt = (σ4.1 0 3).toInt := by rw [(hcσ9_5 0 3 (by decide) (by decide)).1]
          have sσ9_5_0_4 : (σ9_5.1 0 4).toInt = (σ4.1 0 4).toInt := by rw [(hcσ9_5 0 4 (by decide) (by decide)).1]
          have sσ9_5_0_21 : (σ9_5.1 0 21).toInt = (σ4.1 0 21).toInt := by rw [(hcσ9_5 0 21 (by decide) (by decide)).1]
          refine ok_some.mpr ?_
          have f33 : (0 : Int64).toInt = 0 := by decide
          exact ⟨hIσ9_5, hfσ9_5, (show (σ.1 0 5).toInt ≠ 0 → (σ9_5.1 0 5).toInt ≠ 0 by omega)⟩
        · have g34 : (0 : Int32).toInt ≠ (0 : Int32).toInt := fun z => h_26 (Int32.toInt_inj.mp z)
          exfalso
          omega
      · have f35 : (122 : Int32).toInt = 122 := by decide
        have g36 : ¬ (122 : Int32).toInt < r3.toInt := fun z => h_23 (Int32.lt_iff_toInt_lt.mpr z)
        refine ok_some.mpr ?_
        refine ok_ite.mpr ⟨fun h_37 => ?_, fun h_37 => ?_⟩
        · have f38 : (1 : Int32).toInt = 1 := by decide
          have g39 : (1 : Int32).toInt = (0 : Int32).toInt := by rw [h_37]
          exfalso
          omega
        · have f40 : (1 : Int32).toInt = 1 := by decide
          have g41 : (1 : Int32).toInt ≠ (0 : Int32).toInt := fun z => h_37 (Int32.toInt_inj.mp z)
          refine ok_ite.mpr ⟨fun h_42 => ?_, fun h_42 => ?_⟩
          · have f43 : 0 ≤ (σ4.1 0 2).toInt ∧ (σ4.1 0 2).toInt ≤ 1600 := hIσ4 0 2
            have g44 : (σ4.1 0 2).toInt = (σ4.1 0 4).toInt := by rw [h_42]
            try unfold jX10_name_37
            refine ok_bd.mpr ((o_fX10_fail hIσ4 (p1 := (1 : Int32)) (p2 := (σ4.1 0 2)) (by omega) (by omega)).mono (fun σ9_7 ho_46 => ?_))
            obtain ⟨hIσ9_7, hcσ9_7, hp_47⟩ := ho_46
            have hfσ9_7 : Fr fr_fX10_name σ σ9_7 := Fr_c hfσ4 hcσ9_7 (by decide)
            have sσ9_7_0_2 : (σ9_7.1 0 2).toInt = (σ4.1 0 2).toInt := by rw [(hcσ9_7 0 2 (by decide) (by decide)).1]
            have sσ9_7_0_3 : (σ9_7.1 0 3).toInt = (σ4.1 0 3).toInt := by rw [(hcσ9_7 0 3 (by decide) (by decide)).1]
            have sσ9_7_0_4 : (σ9_7.1 0 4).toInt = (σ4.1 0 4).toInt := by rw [(hcσ9_7 0 4 (by decide) (by decide)).1]
            have sσ9_7_0_21 : (σ9_7.1 0 21).toInt = (σ4.1 0 21).toInt := by rw [(hcσ9_7 0 21 (by decide) (by decide)).1]
            refine ok_some.mpr ?_
            have f48 : (0 : Int64).toInt = 0 := by decide
            exact ⟨hIσ9_7, hfσ9_7, (show (σ.1 0 5).toInt ≠ 0 → (σ9_7.1 0 5).toInt ≠ 0 by omega)⟩
          · have f49 : 0 ≤ (σ4.1 0 2).toInt ∧ (σ4.1 0 2).toInt ≤ 1600 := hIσ4 0 2
            have g50 : (σ4.1 0 2).toInt ≠ (σ4.1 0 4).toInt := fun z => h_42 (Int32.toInt_inj.mp z)
            refine ok_bd2.mpr ((o_fX10_isOwnHere hIσ4  ).mono (fun o_51 ho_52 => ?_))
            obtain ⟨r12_6, σ13_6⟩ := o_51
            obtain ⟨hIσ13_6, hcσ13_6, r0r12_6, r1r12_6⟩ := ho_52
            dsimp only at hIσ13_6 hcσ13_6 r0r12_6 r1r12_6 ⊢
            have hfσ13_6 : Fr fr_fX10_name σ σ13_6 := Fr_c hfσ4 hcσ13_6 (by decide)
            have sσ13_6_0_3 : (σ13_6.1 0 3).toInt = (σ4.1 0 3).toInt := by rw [(hcσ13_6 0 3 (by decide) (by decide)).1]
            have sσ13_6_0_4 : (σ13_6.1 0 4).toInt = (σ4.1 0 4).toInt := by rw [(hcσ13_6 0 4 (by decide) (by decide)).1]
            have sσ13_6_0_5 : (σ13_6.1 0 5).toInt = (σ4.1 0 5).toInt := by rw [(hcσ13_6 0 5 (by decide) (by decide)).1]
            have sσ13_6_0_21 : (σ13_6.1 0 21).toInt = (σ4.1 0 21).toInt := by rw [(hcσ13_6 0 21 (by decide) (by decide)).1]
            refine ok_ite.mpr ⟨fun h_53 => ?_, fun h_53 => ?_⟩
            · have g54 : r12_6.toInt = (0 : Int32).toInt := by rw [h_53]
              refine ok_nm2 (fun σ15_6 eσ15_6 => ?_)
              have f55 : 0 ≤ (σ13_6.1 0 2).toInt ∧ (σ13_6.1 0 2).toInt ≤ 1600 := hIσ13_6 0 2
              have hIσ15_6 : JM σ15_6 := by rw [eσ15_6]; exact JM_w hIσ13_6 (Int32.le_toInt _) (Int32.toInt_le _)
              have hfσ15_6 : Fr fr_fX10_name σ σ15_6 := by rw [eσ15_6]; exact Fr_w hfσ13_6 (by decide)
              have sσ15_6_0_2 : (σ15_6.1 0 2).toInt = (σ13_6.1 0 2).toInt := by rw [eσ15_6]; rfl
              have sσ15_6_0_3 : (σ15_6.1 0 3).toInt = (σ13_6.1 0 3).toInt := by rw [eσ15_6]; rfl
              have sσ15_6_0_4 : (σ15_6.1 0 4).toInt = (σ13_6.1 0 4).toInt := by rw [eσ15_6]; rfl
              have sσ15_6_0_5 : (σ15_6.1 0 5).toInt = (σ13_6.1 0 5).toInt := by rw [eσ15_6]; rfl
              have sσ15_6_0_21 : (σ15_6.1 0 21).toInt = (σ13_6.1 0 2).toInt := by rw [eσ15_6]; rfl
              refine ok_nm2 (fun x16_6 ex16_6 => ?_)
              have f56 : (0 : Int64).toInt = 0 := by decide
              have qx16_6 : x16_6.toInt = (0 : Int64).toInt := congrArg Int64.toInt ex16_6
              have f57 : 0 ≤ (σ15_6.1 0 2).toInt ∧ (σ15_6.1 0 2).toInt ≤ 1600 := hIσ15_6 0 2
              refine ok_lpc (I := fun n s => n = (1600 + 1 - (s.2.1 0 2).toInt).toNat ∧ JM s.2 ∧ Fr fr_fX10_name σ s.2) (fun rec58_8r n_8 s_8 hs_8 hrec_8 => ?_) K9 ((1600 + 1 - (σ15_6.1 0 2).toInt).toNat) (x16_6, σ15_6) ⟨rfl, hIσ15_6, hfσ15_6⟩ (by unfold K9; omega)
              obtain ⟨a1_8, σ1_8⟩ := s_8
              obtain ⟨hn_8, hIσ1_8, hfσ1_8⟩ := hs_8
              dsimp only at hn_8 hIσ1_8 hfσ1_8
              unfold bX10_name_58
              try dsimp only
              refine ok_ite.mpr ⟨fun h_58 => ?_, fun h_58 => ?_⟩
              · have f59 : 0 ≤ (σ1_8.1 0 3).toInt ∧ (σ1_8.1 0 3).toInt ≤ 1600 := hIσ1_8 0 3
                have f60 : 0 ≤ (σ1_8.1 0 2).toInt ∧ (σ1_8.1 0 2).toInt ≤ 1600 := hIσ1_8 0 2
                have g61 : (σ1_8.1 0 3).toInt ≤ (σ1_8.1 0 2).toInt := Int32.le_iff_toInt_le.mp h_58
                refine ok_nm2 (fun σ18_11 eσ18_11 => ?_)
                have hIσ18_11 : JM σ18_11 := by rw [eσ18_11]; exact JM_w hIσ1_8 (Int32.le_toInt _) (Int32.toInt_le _)
                have hfσ18_11 : Fr fr_fX10_name σ σ18_11 := by rw [eσ18_11]; exact Fr_w hfσ1_8 (by decide)
                have sσ18_11_0_2 : (σ18_11.1 0 2).toInt = (σ1_8.1 0 2).toInt := by rw [eσ18_11]; rfl
                have sσ18_11_0_3 : (σ18_11.1 0 3).toInt = (σ1_8.1 0 3).toInt := by rw [eσ18_11]; rfl
                have sσ18_11_0_4 : (σ18_11.1 0 4).toInt = (σ1_8.1 0 2).toInt := by rw [eσ18_11]; rfl
                have sσ18_11_0_5 : (σ18_11.1 0 5).toInt = (σ1_8.1 0 5).toInt := by rw [eσ18_11]; rfl
                have sσ18_11_0_21 : (σ18_11.1 0 21).toInt = (σ1_8.1 0 21).toInt := by rw [eσ18_11]; rfl
                refine ok_some.mpr ?_
                exact ⟨hIσ18_11, hfσ18_11, (show (σ.1 0 5).toInt ≠ 0 → (σ18_11.1 0 5).toInt ≠ 0 by omega)⟩
              · have f62 : 0 ≤ (σ1_8.1 0 3).toInt ∧ (σ1_8.1 0 3).toInt ≤ 1600 := hIσ1_8 0 3
                have f63 : 0 ≤ (σ1_8.1 0 2).toInt ∧ (σ1_8.1 0 2).toInt ≤ 1600 := hIσ1_8 0 2
                have g64 : ¬ (σ1_8.1 0 3).toInt ≤ (σ1_8.1 0 2).toInt := fun z => h_58 (Int32.le_iff_toInt_le.mpr z)
                refine ok_gd.mpr ⟨gb_of (by omega) (by omega), ?_⟩
                refine ok_nm2 (fun v19_11 ev19_11 => ?_)
                have f65 : 0 ≤ (σ1_8.1 1 (σ1_8.1 0 2).toNatClampNeg).toInt ∧ (σ1_8.1 1 (σ1_8.1 0 2).toNatClampNeg).toInt ≤ 255 := hIσ1_8 1 _
                have qv19_11 : v19_11.toInt = (σ1_8.1 1 (σ1_8.1 0 2).toNatClampNeg).toInt := congrArg Int32.toInt ev19_11
                refine ok_bd.mpr ?_
                try unfold fX10_isLetter
                refine ok_ite.mpr ⟨fun h_66 => ?_, fun h_66 => ?_⟩
                · have g67 : v19_11.toInt < (97 : Int32).toInt := Int32.lt_iff_toInt_lt.mp h_66
                  refine ok_some.mpr ?_
                  refine ok_ite.mpr ⟨fun h_68 => ?_, fun h_68 => ?_⟩
                  · have g69 : (0 : Int32).toInt = (0 : Int32).toInt := by rw [h_68]
                    refine ok_nm2 (fun σ23_11_13 eσ23_11_13 => ?_)
                    have hIσ23_11_13 : JM σ23_11_13 := by rw [eσ23_11_13]; exact JM_w hIσ1_8 (Int32.le_toInt _) (Int32.toInt_le _)
                    have hfσ23_11_13 : Fr fr_fX10_name σ σ23_11_13 := by rw [eσ23_11_13]; exact Fr_w hfσ1_8 (by decide)
                    have sσ23_11_13_0_2 : (σ23_11_13.1 0 2).toInt = (σ1_8.1 0 2).toInt := by rw [eσ23_11_13]; rfl
                    have sσ23_11_13_0_3 : (σ23_11_13.1 0 3).toInt = (σ1_8.1 0 3).toInt := by rw [eσ23_11_13]; rfl
                    have sσ23_11_13_0_4 : (σ23_11_13.1 0 4).toInt = (σ1_8.1 0 2).toInt := by rw [eσ23_11_13]; rfl
                    have sσ23_11_13_0_5 : (σ23_11_13.1 0 5).toInt = (σ1_8.1 0 5).toInt := by rw [eσ23_11_13]; rfl
                    have sσ23_11_13_0_21 : (σ23_11_13.1 0 21).toInt = (σ1_8.1 0 21).toInt := by rw [eσ23_11_13]; rfl
                    refine ok_some.mpr ?_
                    exact ⟨hIσ23_11_13, hfσ23_11_13, (show (σ.1 0 5).toInt ≠ 0 → (σ23_11_13.1 0 5).toInt ≠ 0 by omega)⟩
                  · have g70 : (0 : Int32).toInt ≠ (0 : Int32).toInt := fun z => h_68 (Int32.toInt_inj.mp z)
                    exfalso
                    omega
                · have g71 : ¬ v19_11.toInt < (97 : Int32).toInt := fun z => h_66 (Int32.lt_iff_toInt_lt.mpr z)
                  refine ok_ite.mpr ⟨fun h_72 => ?_, fun h_72 => ?_⟩
                  · have g73 : (122 : Int32).toInt < v19_11.toInt := Int32.lt_iff_toInt_lt.mp h_72
                    refine ok_some.mpr ?_
                    refine ok_ite.mpr ⟨fun h_74 => ?_, fun h_74 => ?_⟩
                    · have g75 : (0 : Int32).toInt = (0 : Int32).toInt := by rw [h_74]
                      refine ok_nm2 (fun σ23_11_14 eσ23_11_14 => ?_)
                      have hIσ23_11_14 : JM σ23_11_14 := by rw [eσ23_11_14]; exact JM_w hIσ1_8 (Int32.le_toInt _) (Int32.toInt_le _)
                      have hfσ23_11_14 : Fr fr_fX10_name σ σ23_11_14 := by rw [eσ23_11_14]; exact Fr_w hfσ1_8 (by decide)
                      have sσ23_11_14_0_2 : (σ23_11_14.1 0 2).toInt = (σ1_8.1 0 2).toInt := by rw [eσ23_11_14]; rfl
                      have sσ23_11_14_0_3 : (σ23_11_14.1 0 3).toInt = (σ1_8.1 0 3).toInt := by rw [eσ23_11_14]; rfl
                      have sσ23_11_14_0_4 : (σ23_11_14.1 0 4).toInt = (σ1_8.1 0 2).toInt := by rw [eσ23_11_14]; rfl
                      have sσ23_11_14_0_5 : (σ23_11_14.1 0 5).toInt = (σ1_8.1 0 5).toInt := by rw [eσ23_11_14]; rfl
                      have sσ23_11_14_0_21 : (σ23_11_14.1 0 21).toInt = (σ1_8.1 0 21).toInt := by rw [eσ23_11_14]; rfl
                      refine ok_some.mpr ?_
                      exact ⟨hIσ23_11_14, hfσ23_11_14, (show (σ.1 0 5).toInt ≠ 0 → (σ23_11_14.1 0 5).toInt ≠ 0 by omega)⟩
                    · have g76 : (0 : Int32).toInt ≠ (0 : Int32).toInt := fun z => h_74 (Int32.toInt_inj.mp z)
                      exfalso
                      omega
                  · have g77 : ¬ (122 : Int32).toInt < v19_11.toInt := fun z => h_72 (Int32.lt_iff_toInt_lt.mpr z)
                    refine ok_some.mpr ?_
                    refine ok_ite.mpr ⟨fun h_78 => ?_, fun h_78 => ?_⟩
                    · have g79 : (1 : Int32).toInt = (0 : Int32).toInt := by rw [h_78]
                      exfalso
                      omega
                    · have g80 : (1 : Int32).toInt ≠ (0 : Int32).toInt := fun z => h_78 (Int32.toInt_inj.mp z)
                      refine ok_ite.mpr ⟨fun h_81 => ?_, fun h_81 => ?_⟩
                      · have f82 : (6 : Int32).toInt = 6 := by decide
                        have g83 : ((σ1_8.1 0 2) - (σ1_8.1 0 21)).toInt = (6 : Int32).toInt := by rw [h_81]
                        refine ok_bd.mpr ((o_fX10_fail hIσ1_8 (p1 := (1 : Int32)) (p2 := (σ1_8.1 0 2)) (by omega) (by omega)).mono (fun σ29_11_15 ho_85 => ?_))
                        obtain ⟨hIσ29_11_15, hcσ29_11_15, hp_86⟩ := ho_85
                        have hfσ29_11_15 : Fr fr_fX10_name σ σ29_11_15 := Fr_c hfσ1_8 hcσ29_11_15 (by decide)
                        have sσ29_11_15_0_2 : (σ29_11_15.1 0 2).toInt = (σ1_8.1 0 2).toInt := by rw [(hcσ29_11_15 0 2 (by decide) (by decide)).1]
                        have sσ29_11_15_0_3 : (σ29_11_15.1 0 3).toInt = (σ1_8.1 0 3).toInt := by rw [(hcσ29_11_15 0 3 (by decide) (by decide)).1]
                        have sσ29_11_15_0_4 : (σ29_11_15.1 0 4).toInt = (σ1_8.1 0 4).toInt := by rw [(hcσ29_11_15 0 4 (by decide) (by decide)).1]
                        have sσ29_11_15_0_21 : (σ29_11_15.1 0 21).toInt = (σ1_8.1 0 21).toInt := by rw [(hcσ29_11_15 0 21 (by decide) (by decide)).1]
                        refine ok_some.mpr ?_
                        exact ⟨hIσ29_11_15, hfσ29_11_15, (show (σ.1 0 5).toInt ≠ 0 → (σ29_11_15.1 0 5).toInt ≠ 0 by omega)⟩
                      · have f87 : (6 : Int32).toInt = 6 := by decide
                        have g88 : ((σ1_8.1 0 2) - (σ1_8.1 0 21)).toInt ≠ (6 : Int32).toInt := fun z => h_81 (Int32.toInt_inj.mp z)
                        refine ok_gd.mpr ⟨gb_of (by omega) (by omega), ?_⟩
                        refine ok_nm2 (fun v25_11_15 ev25_11_15 => ?_)
                        have qv25_11_15 : v25_11_15.toInt = (σ1_8.1 1 (σ1_8.1 0 2).toNatClampNeg).toInt := congrArg Int32.toInt ev25_11_15
                        refine ok_nm2 (fun x26_11_15 ex26_11_15 => ?_)
                        refine ok_nm2 (fun σ27_11_15 eσ27_11_15 => ?_)
                        have f89 : ((σ1_8.1 0 2) + (1 : Int32)).toInt = (σ1_8.1 0 2).toInt + (1 : Int32).toInt := iadd_toInt (by omega) (by omega)
                        have hIσ27_11_15 : JM σ27_11_15 := by rw [eσ27_11_15]; exact JM_w hIσ1_8 (show 0 ≤ _ by omega) (show _ ≤ 1600 by omega)
                        have hfσ27_11_15 : Fr fr_fX10_name σ σ27_11_15 := by rw [eσ27_11_15]; exact Fr_w hfσ1_8 (by decide)
                        have sσ27_11_15_0_2 : (σ27_11_15.1 0 2).toInt = ((σ1_8.1 0 2) + 1).toInt := by rw [eσ27_11_15]; rfl
                        have sσ27_11_15_0_3 : (σ27_11_15.1 0 3).toInt = (σ1_8.1 0 3).toInt := by rw [eσ27_11_15]; rfl
                        have sσ27_11_15_0_4 : (σ27_11_15.1 0 4).toInt = (σ1_8.1 0 4).toInt := by rw [eσ27_11_15]; rfl
                        have sσ27_11_15_0_5 : (σ27_11_15.1 0 5).toInt = (σ1_8.1 0 5).toInt := by rw [eσ27_11_15]; rfl
                        have sσ27_11_15_0_21 : (σ27_11_15.1 0 21).toInt = (σ1_8.1 0 21).toInt := by rw [eσ27_11_15]; rfl
                        exact hrec_8 _ (x26_11_15, σ27_11_15) (show (1600 + 1 - (σ27_11_15.1 0 2).toInt).toNat < n_8 by omega) ⟨rfl, hIσ27_11_15, hfσ27_11_15⟩
            · have g90 : r12_6.toInt ≠ (0 : Int32).toInt := fun z => h_53 (Int32.toInt_inj.mp z)
              try unfold jX10_name_37
              have f91 : 0 ≤ (σ13_6.1 0 2).toInt ∧ (σ13_6.1 0 2).toInt ≤ 1600 := hIσ13_6 0 2
              refine ok_bd.mpr ((o_fX10_fail hIσ13_6 (p1 := (1 : Int32)) (p2 := (σ13_6.1 0 2)) (by omega) (by omega)).mono (fun σ9_16 ho_93 => ?_))
              obtain ⟨hIσ9_16, hcσ9_16, hp_94⟩ := ho_93
              have hfσ9_16 : Fr fr_fX10_name σ σ9_16 := Fr_c hfσ13_6 hcσ9_16 (by decide)
              have sσ9_16_0_2 : (σ9_16.1 0 2).toInt = (σ13_6.1 0 2).toInt := by rw [(hcσ9_16 0 2 (by decide) (by decide)).1]
              have sσ9_16_0_3 : (σ9_16.1 0 3).toInt = (σ13_6.1 0 3).toInt := by rw [(hcσ9_16 0 3 (by decide) (by decide)).1]
              have sσ9_16_0_4 : (σ9_16.1 0 4).toInt = (σ13_6.1 0 4).toInt := by rw [(hcσ9_16 0 4 (by decide) (by decide)).1]
              have sσ9_16_0_21 : (σ9_16.1 0 21).toInt = (σ13_6.1 0 21).toInt := by rw [(hcσ9_16 0 21 (by decide) (by decide)).1]
              refine ok_some.mpr ?_
              have f95 : (0 : Int64).toInt = 0 := by decide
              exact ⟨hIσ9_16, hfσ9_16, (show (σ.1 0 5).toInt ≠ 0 → (σ9_16.1 0 5).toInt ≠ 0 by omega)⟩
  · have f96 : (0 : Int32).toInt = 0 := by decide
    have g97 : (σ.1 0 5).toInt ≠ (0 : Int32).toInt := fun z => h_3 (Int32.toInt_inj.mp z)
    refine ok_some.mpr ?_
    have f98 : (0 : Int64).toInt = 0 := by decide
    exact ⟨hIσ, hfσ, (show (σ.1 0 5).toInt ≠ 0 → (σ.1 0 5).toInt ≠ 0 by omega)⟩
theorem JM_m {σ : gS} (h : JM σ) {k : Int32} (h0 : 0 ≤ k.toInt) (h1 : k.toInt ≤ 2) : 0 ≤ (σ.1 15 k.toNatClampNeg).toInt ∧ (σ.1 15 k.toNatClampNeg).toInt ≤ 20 ∧ (k.toInt = 0 → (σ.1 15 k.toNatClampNeg) = σ.1 15 0) ∧ (k.toInt = 1 → (σ.1 15 k.toNatClampNeg) = σ.1 15 1) ∧ (k.toInt = 2 → (σ.1 15 k.toNatClampNeg) = σ.1 15 2) := by
  rw [n_toInt]
  have b0 := h 15 0
  have b1 := h 15 1
  have b2 := h 15 2
  have hj : k.toInt = 0 ∨ k.toInt = 1 ∨ k.toInt = 2 := by omega
  rcases hj with hj | hj | hj <;> rw [hj]
  · exact ⟨b0.1, Int.le_trans b0.2 (by decide), fun _ => rfl, fun z => absurd z (by decide), fun z => absurd z (by decide)⟩
  · exact ⟨b1.1, Int.le_trans b1.2 (by decide), fun z => absurd z (by decide), fun _ => rfl, fun z => absurd z (by decide)⟩
  · exact ⟨b2.1, b2.2, fun z => absurd z (by decide), fun z => absurd z (by decide), fun _ => rfl⟩
/-- the first place of a name among those of a kind -/
noncomputable def NA (σ : gS) (k : Int32) (v : Int64) : Int32 := fI (fun i => decide (σ.2 14 (20 * k.toInt.toNat + i) = v)) (σ.1 15 k.toNatClampNeg).toInt.toNat 0
theorem m_nameOf {σ : gS} (hIσ : JM σ) {k : Int32} (v : Int64) (h0 : 0 ≤ k.toInt) (h1 : k.toInt ≤ 2) : fX10_nameOf σ k v = some (NA σ k v) := by
  have hn := JM_m hIσ h0 h1
  have l20 : (20 : Int32).toInt = 20 := by decide
  have f1 : (20 * k).toInt = 20 * k.toInt := imulc (by decide) (by omega) (by omega)
  unfold fX10_nameOf NA
  refine (q_nm rfl).trans ?_
  refine fI_lpc (n := σ.1 15 k.toNatClampNeg) (c := fun i => decide (σ.2 14 (20 * k.toInt.toNat + i) = v)) (fun rec a h2 h3 => ?_) (fun rec a h2 h3 => ?_) _ K9 0 (by have := z0; omega) (by decide) (by unfold K9; omega)
  · unfold bX10_nameOf_3
    exact (q_gd (gb_of h0 (by omega))).trans ((q_nm rfl).trans (if_pos (q_le h3)))
  · unfold bX10_nameOf_3
    have f2 : (20 * k + a).toInt = (20 * k).toInt + a.toInt := by rw [iadd_toInt] <;> omega
    have f3 : (20 * k + a).toNatClampNeg = 20 * k.toInt.toNat + a.toInt.toNat := by rw [n_toInt]; omega
    refine (q_gd (gb_of h0 (by omega))).trans ((q_nm rfl).trans ((if_neg (q_nle h3)).trans ((q_gd (gb_of (by omega) (by omega))).trans ((q_nm rfl).trans ?_))))
    rw [f3]
    by_cases c1 : σ.2 14 (20 * k.toInt.toNat + a.toInt.toNat) = v
    · exact (if_pos c1).trans (if_pos (decide_eq_true c1)).symm
    · exact (if_neg c1).trans (if_neg (fun z => c1 (of_decide_eq_true z))).symm
theorem o_fX10_nameOf {σ : gS} (hIσ : JM σ) {p1 : Int32} {p2 : Int64} (h0p1 : 0 ≤ p1.toInt) (h1p1 : p1.toInt ≤ 2) : Ok (fX10_nameOf σ p1 p2) (fun out => -1 ≤ out.toInt ∧ out.toInt ≤ 19 ∧ ((p1.toInt = 0 → out.toInt < (σ.1 15 0).toInt) ∧ (p1.toInt = 1 → out.toInt < (σ.1 15 1).toInt) ∧ (p1.toInt = 2 → out.toInt < (σ.1 15 2).toInt))) := by
  have hn := JM_m hIσ h0p1 h1p1
  refine ok_is (m_nameOf hIσ p2 h0p1 h1p1) ?_
  have h2 := fI_lo (fun i => decide (σ.2 14 (20 * p1.toInt.toNat + i) = p2)) (σ.1 15 p1.toNatClampNeg).toInt.toNat (by omega)
  unfold NA
  refine ⟨h2.1, by omega, fun z => ?_, fun z => ?_, fun z => ?_⟩
  · rw [← hn.2.2.1 z]; omega
  · rw [← hn.2.2.2.1 z]; omega
  · rw [← hn.2.2.2.2 z]; omega
set_option maxRecDepth 20000 in
set_option maxHeartbeats 2000000 in
theorem o_fX10_oneOf {σ : gS} (hIσ : JM σ) {p1 : Int32} (h0p1 : 0 ≤ p1.toInt) (h1p1 : p1.toInt ≤ 2) : Ok (fX10_oneOf σ p1) (fun out => JM out.2 ∧ Fr fr_fX10_oneOf σ out.2 ∧ 0 ≤ out.1.toInt ∧ out.1.toInt ≤ 19 ∧ ((p1.toInt = 0 → out.1.toInt ≤ 5) ∧ (p1.toInt = 1 → out.1.toInt ≤ 11) ∧ (p1.toInt = 2 → out.1.toInt ≤ 19))) := by
  unfold fX10_oneOf
  have hfσ : Fr fr_fX10_oneOf σ σ := Fr_r
  have f1 : 0 ≤ (σ.1 15 0).toInt ∧ (σ.1 15 0).toInt ≤ 6 := hIσ 15 0
  have f2 : 0 ≤ (σ.1 15 1).toInt ∧ (σ.1 15 1).toInt ≤ 12 := hIσ 15 1
  have f3 : 0 ≤ (σ.1 15 2).toInt ∧ (σ.1 15 2).toInt ≤ 20 := hIσ 15 2
  refine ok_bd2.mpr ((o_fX10_name hIσ  ).mono (fun o_4 ho_5 => ?_))
  obtain ⟨r2, σ3⟩ := o_4
  obtain ⟨hIσ3, hcσ3, hp_6⟩ := ho_5
  dsimp only at hIσ3 hcσ3 hp_6 ⊢
  have hfσ3 : Fr fr_fX10_oneOf σ σ3 := Fr_c hfσ hcσ3 (by decide)
  have sσ3_15_0 : (σ3.1 15 0).toInt = (σ.1 15 0).toInt := by rw [(hcσ3 15 0 (by decide) (by decide)).1]
  have sσ3_15_1 : (σ3.1 15 1).toInt = (σ.1 15 1).toInt := by rw [(hcσ3 15 1 (by decide) (by decide)).1]
  have sσ3_15_2 : (σ3.1 15 2).toInt = (σ.1 15 2).toInt := by rw [(hcσ3 15 2 (by decide) (by decide)).1]
  refine ok_nm.mpr ?_
  refine ok_bd.mpr ((o_fX10_nameOf hIσ3 (p1 := p1) (p2 := (r2 : Int64)) (by omega) (by omega)).mono (fun r6_1 ho_8 => ?_))
  obtain ⟨r0r6_1, r1r6_1, hp_9⟩ := ho_8
  refine ok_nm.mpr ?_
  refine ok_ite.mpr ⟨fun h_10 => ?_, fun h_10 => ?_⟩
  · have f11 : (0 : Int32).toInt = 0 := by decide
    have g12 : (σ3.1 0 5).toInt = (0 : Int32).toInt := by rw [h_10]
    refine ok_ite.mpr ⟨fun h_13 => ?_, fun h_13 => ?_⟩
    · have f14 : (-1 : Int32).toInt = -1 := by decide
      have g15 : r6_1.toInt = (-1 : Int32).toInt := by rw [h_13]
      have f16 : (3 : Int32).toInt = 3 := by decide
      refine ok_bd.mpr ((o_fX10_fail hIσ3 (p1 := (3 : Int32)) (p2 := (σ3.1 0 21)) (by omega) (by omega)).mono (fun σ12_1_2 ho_18 => ?_))
      obtain ⟨hIσ12_1_2, hcσ12_1_2, hp_19⟩ := ho_18
      have hfσ12_1_2 : Fr fr_fX10_oneOf σ σ12_1_2 := Fr_c hfσ3 hcσ12_1_2 (by decide)
      have sσ12_1_2_0_21 : (σ12_1_2.1 0 21).toInt = (σ3.1 0 21).toInt := by rw [(hcσ12_1_2 0 21 (by decide) (by decide)).1]
      have sσ12_1_2_15_0 : (σ12_1_2.1 15 0).toInt = (σ3.1 15 0).toInt := by rw [(hcσ12_1_2 15 0 (by decide) (by decide)).1]
      have sσ12_1_2_15_1 : (σ12_1_2.1 15 1).toInt = (σ3.1 15 1).toInt := by rw [(hcσ12_1_2 15 1 (by decide) (by decide)).1]
      have sσ12_1_2_15_2 : (σ12_1_2.1 15 2).toInt = (σ3.1 15 2).toInt := by rw [(hcσ12_1_2 15 2 (by decide) (by decide)).1]
      try unfold jX10_oneOf_35
      refine ok_ite.mpr ⟨fun h_20 => ?_, fun h_20 => ?_⟩
      · have g21 : r6_1.toInt = (-1 : Int32).toInt := by rw [h_20]
        refine ok_some.mpr ?_
        exact ⟨hIσ12_1_2, hfσ12_1_2, (show 0 ≤ (0 : Int32).toInt by omega), (show (0 : Int32).toInt ≤ 19 by omega), (show (p1.toInt = 0 → (0 : Int32).toInt ≤ 5) ∧ (p1.toInt = 1 → (0 : Int32).toInt ≤ 11) ∧ (p1.toInt = 2 → (0 : Int32).toInt ≤ 19) by omega)⟩
      · have g22 : r6_1.toInt ≠ (-1 : Int32).toInt := fun z => h_20 (Int32.toInt_inj.mp z)
        exfalso
        omega
    · have f23 : (-1 : Int32).toInt = -1 := by decide
      have g24 : r6_1.toInt ≠ (-1 : Int32).toInt := fun z => h_13 (Int32.toInt_inj.mp z)
      try unfold jX10_oneOf_35
      refine ok_ite.mpr ⟨fun h_25 => ?_, fun h_25 => ?_⟩
      · have g26 : r6_1.toInt = (-1 : Int32).toInt := by rw [h_25]
        exfalso
        omega
      · have g27 : r6_1.toInt ≠ (-1 : Int32).toInt := fun z => h_25 (Int32.toInt_inj.mp z)
        refine ok_some.mpr ?_
        exact ⟨hIσ3, hfσ3, (show 0 ≤ r6_1.toInt by omega), (show r6_1.toInt ≤ 19 by omega), (show (p1.toInt = 0 → r6_1.toInt ≤ 5) ∧ (p1.toInt = 1 → r6_1.toInt ≤ 11) ∧ (p1.toInt = 2 → r6_1.toInt ≤ 19) by omega)⟩
  · have f28 : (0 : Int32).toInt = 0 := by decide
    have g29 : (σ3.1 0 5).toInt ≠ (0 : Int32).toInt := fun z => h_10 (Int32.toInt_inj.mp z)
    try unfold jX10_oneOf_35
    refine ok_ite.mpr ⟨fun h_30 => ?_, fun h_30 => ?_⟩
    · have f31 : (-1 : Int32).toInt = -1 := by decide
      have g32 : r6_1.toInt = (-1 : Int32).toInt := by rw [h_30]
      refine ok_some.mpr ?_
      exact ⟨hIσ3, hfσ3, (show 0 ≤ (0 : Int32).toInt by omega), (show (0 : Int32).toInt ≤ 19 by omega), (show (p1.toInt = 0 → (0 : Int32).toInt ≤ 5) ∧ (p1.toInt = 1 → (0 : Int32).toInt ≤ 11) ∧ (p1.toInt = 2 → (0 : Int32).toInt ≤ 19) by omega)⟩
    · have f33 : (-1 : Int32).toInt = -1 := by decide
      have g34 : r6_1.toInt ≠ (-1 : Int32).toInt := fun z => h_30 (Int32.toInt_inj.mp z)
      refine ok_some.mpr ?_
      exact ⟨hIσ3, hfσ3, (show 0 ≤ r6_1.toInt by omega), (show r6_1.toInt ≤ 19 by omega), (show (p1.toInt = 0 → r6_1.toInt ≤ 5) ∧ (p1.toInt = 1 → r6_1.toInt ≤ 11) ∧ (p1.toInt = 2 → r6_1.toInt ≤ 19) by omega)⟩
set_option maxRecDepth 20000 in
set_option maxHeartbeats 2000000 in
theorem o_fX10_isDigit {σ : gS} (hIσ : JM σ) {p0 : Int32}  : Ok (fX10_isDigit σ p0) (fun out => 0 ≤ out.toInt ∧ out.toInt ≤ 1) := by
  unfold fX10_isDigit
  refine ok_ite.mpr ⟨fun h_1 => ?_, fun h_1 => ?_⟩
  · have f2 : (48 : Int32).toInt = 48 := by decide
    have g3 : p0.toInt < (48 : Int32).toInt := Int32.lt_iff_toInt_lt.mp h_1
    refine ok_some.mpr ?_
    have f4 : (0 : Int32).toInt = 0 := by decide
    exact ⟨(show 0 ≤ (0 : Int32).toInt by omega), (show (0 : Int32).toInt ≤ 1 by omega)⟩
  · have f5 : (48 : Int32).toInt = 48 := by decide
    have g6 : ¬ p0.toInt < (48 : Int32).toInt := fun z => h_1 (Int32.lt_iff_toInt_lt.mpr z)
    refine ok_ite.mpr ⟨fun h_7 => ?_, fun h_7 => ?_⟩
    · have f8 : (57 : Int32).toInt = 57 := by decide
      have g9 : (57 : Int32).toInt < p0.toInt := Int32.lt_iff_toInt_lt.mp h_7
      refine ok_some.mpr ?_
      have f10 : (0 : Int32).toInt = 0 := by decide
      exact ⟨(show 0 ≤ (0 : Int32).toInt by omega), (show (0 : Int32).toInt ≤ 1 by omega)⟩
    · have f11 : (57 : Int32).toInt = 57 := by decide
      have g12 : ¬ (57 : Int32).toInt < p0.toInt := fun z => h_7 (Int32.lt_iff_toInt_lt.mpr z)
      refine ok_some.mpr ?_
      have f13 : (1 : Int32).toInt = 1 := by decide
      exact ⟨(show 0 ≤ (1 : Int32).toInt by omega), (show (1 : Int32).toInt ≤ 1 by omega)⟩
set_option maxRecDepth 20000 in
set_option maxHeartbeats 2000000 in
theorem o_fX10_isIn {σ : gS} (hIσ : JM σ) {p0 : Int64} {p2 : Int64} {p4 : Int64}  : Ok (fX10_isIn σ p0 p2 p4) (fun out => 0 ≤ out.toInt ∧ out.toInt ≤ 1) := by
  unfold fX10_isIn
  refine ok_ite.mpr ⟨fun h_1 => ?_, fun h_1 => ?_⟩
  · have g2 : p0.toInt < p2.toInt := Int64.lt_iff_toInt_lt.mp h_1
    refine ok_some.mpr ?_
    have f3 : (0 : Int32).toInt = 0 := by decide
    exact ⟨(show 0 ≤ (0 : Int32).toInt by omega), (show (0 : Int32).toInt ≤ 1 by omega)⟩
  · have g4 : ¬ p0.toInt < p2.toInt := fun z => h_1 (Int64.lt_iff_toInt_lt.mpr z)
    refine ok_ite.mpr ⟨fun h_5 => ?_, fun h_5 => ?_⟩
    · have g6 : p4.toInt < p0.toInt := Int64.lt_iff_toInt_lt.mp h_5
      refine ok_some.mpr ?_
      have f7 : (0 : Int32).toInt = 0 := by decide
      exact ⟨(show 0 ≤ (0 : Int32).toInt by omega), (show (0 : Int32).toInt ≤ 1 by omega)⟩
    · have g8 : ¬ p4.toInt < p0.toInt := fun z => h_5 (Int64.lt_iff_toInt_lt.mpr z)
      refine ok_some.mpr ?_
      have f9 : (1 : Int32).toInt = 1 := by decide
      exact ⟨(show 0 ≤ (1 : Int32).toInt by omega), (show (1 : Int32).toInt ≤ 1 by omega)⟩
set_option maxRecDepth 20000 in
set_option maxHeartbeats 2000000 in
theorem o_fX10_number {σ : gS} (hIσ : JM σ) {p1 : Int32} {p2 : Int32} (h0p1 : 0 ≤ p1.toInt) (h1p1 : p1.toInt ≤ 1) (h0p2 : 2 ≤ p2.toInt) (h1p2 : p2.toInt ≤ 9999) : Ok (fX10_number σ p1 p2) (fun out => JM out.2 ∧ Fr fr_fX10_number σ out.2 ∧ 0 ≤ out.1.toInt ∧ out.1.toInt ≤ 9999) := by
  unfold fX10_number
  have hfσ : Fr fr_fX10_number σ σ := Fr_r
  have f1 : 0 ≤ (σ.1 0 2).toInt ∧ (σ.1 0 2).toInt ≤ 1600 := hIσ 0 2
  have f2 : 0 ≤ (σ.1 0 3).toInt ∧ (σ.1 0 3).toInt ≤ 1600 := hIσ 0 3
  refine ok_ite.mpr ⟨fun h_3 => ?_, fun h_3 => ?_⟩
  · have f4 : (0 : Int32).toInt = 0 := by decide
    have g5 : (σ.1 0 5).toInt = (0 : Int32).toInt := by rw [h_3]
    refine ok_bd2.mpr ((o_fX10_look hIσ  ).mono (fun o_6 ho_7 => ?_))
    obtain ⟨r3, σ4⟩ := o_6
    obtain ⟨hIσ4, hcσ4, hp_8⟩ := ho_7
    dsimp only at hIσ4 hcσ4 hp_8 ⊢
    have hfσ4 : Fr fr_fX10_number σ σ4 := Fr_c hfσ hcσ4 (by decide)
    have sσ4_0_3 : (σ4.1 0 3).toInt = (σ.1 0 3).toInt := by rw [(hcσ4 0 3 (by decide) (by decide)).1]
    have sσ4_0_4 : (σ4.1 0 4).toInt = (σ.1 0 4).toInt := by rw [(hcσ4 0 4 (by decide) (by decide)).1]
    have sσ4_0_5 : (σ4.1 0 5).toInt = (σ.1 0 5).toInt := by rw [(hcσ4 0 5 (by decide) (by decide)).1]
    refine ok_bd.mpr ?_
    try unfold fX10_isDigit
    refine ok_ite.mpr ⟨fun h_9 => ?_, fun h_9 => ?_⟩
    · have f10 : (48 : Int32).toInt = 48 := by decide
      have g11 : r3.toInt < (48 : Int32).toInt := Int32.lt_iff_toInt_lt.mp h_9
      refine ok_some.mpr ?_
      refine ok_ite.mpr ⟨fun h_12 => ?_, fun h_12 => ?_⟩
      · have g13 : (0 : Int32).toInt = (0 : Int32).toInt := by rw [h_12]
        try unfold jX10_number_30
        have f14 : (1 : Int32).toInt = 1 := by decide
        have f15 : 0 ≤ (σ4.1 0 2).toInt ∧ (σ4.1 0 2).toInt ≤ 1600 := hIσ4 0 2
        refine ok_bd.mpr ((o_fX10_fail hIσ4 (p1 := (1 : Int32)) (p2 := (σ4.1 0 2)) (by omega) (by omega)).mono (fun σ9_3 ho_17 => ?_))
        obtain ⟨hIσ9_3, hcσ9_3, hp_18⟩ := ho_17
        have hfσ9_3 : Fr fr_fX10_number σ σ9_3 := Fr_c hfσ4 hcσ9_3 (by decide)
        have sσ9_3_0_2 : (σ9_3.1 0 2).toInt = (σ4.1 0 2).toInt := by rw [(hcσ9_3 0 2 (by decide) (by decide)).1]
        have sσ9_3_0_3 : (σ9_3.1 0 3).toInt = (σ4.1 0 3).toInt := by rw [(hcσ9_3 0 3 (by decide) (by decide)).1]
        have sσ9_3_0_4 : (σ9_3.1 0 4).toInt = (σ4.1 0 4).toInt := by rw [(hcσ9_3 0 4 (by decide) (by decide)).1]
        refine ok_some.mpr ?_
        exact ⟨hIσ9_3, hfσ9_3, (show 0 ≤ (0 : Int32).toInt by omega), (show (0 : Int32).toInt ≤ 9999 by omega)⟩
      · have g19 : (0 : Int32).toInt ≠ (0 : Int32).toInt := fun z => h_12 (Int32.toInt_inj.mp z)
        exfalso
        omega
    · have f20 : (48 : Int32).toInt = 48 := by decide
      have g21 : ¬ r3.toInt < (48 : Int32).toInt := fun z => h_9 (Int32.lt_iff_toInt_lt.mpr z)
      refine ok_ite.mpr ⟨fun h_22 => ?_, fun h_22 => ?_⟩
      · have f23 : (57 : Int32).toInt = 57 := by decide
        have g24 : (57 : Int32).toInt < r3.toInt := Int32.lt_iff_toInt_lt.mp h_22
        refine ok_some.mpr ?_
        refine ok_ite.mpr ⟨fun h_25 => ?_, fun h_25 => ?_⟩
        · have g26 : (0 : Int32).toInt = (0 : Int32).toInt := by rw [h_25]
          try unfold jX10_number_30
          have f27 : (1 : Int32).toInt = 1 := by decide
          have f28 : 0 ≤ (σ4.1 0 2).toInt ∧ (σ4.1 0 2).toInt ≤ 1600 := hIσ4 0 2
          refine ok_bd.mpr ((o_fX10_fail hIσ4 (p1 := (1 : Int32)) (p2 := (σ4.1 0 2)) (by omega) (by omega)).mono (fun σ9_5 ho_30 => ?_))
          obtain ⟨hIσ9_5, hcσ9_5, hp_31⟩ := ho_30
          have hfσ9_5 : Fr fr_fX10_number σ σ9_5 := Fr_c hfσ4 hcσ9_5 (by decide)
          have sσ9_5_0_2 : (σ9_5.1 0 2).toInt = (σ4.1 0 2).toInt := by rw [(hcσ9_5 0 2 (by decide) (by decide)).1]
          have sσ9_5_0_3 : (σ9_5.1 0 3).toInt = (σ4.1 0 3).toInt := by rw [(hcσ9_5 0 3 (by decide) (by decide)).1]
          have sσ9_5_0_4 : (σ9_5.1 0 4).toInt = (σ4.1 0 4).toInt := by rw [(hcσ9_5 0 4 (by decide) (by decide)).1]
          refine ok_some.mpr ?_
          exact ⟨hIσ9_5, hfσ9_5, (show 0 ≤ (0 : Int32).toInt by omega), (show (0 : Int32).toInt ≤ 9999 by omega)⟩
        · have g32 : (0 : Int32).toInt ≠ (0 : Int32).toInt := fun z => h_25 (Int32.toInt_inj.mp z)
          exfalso
          omega
      · have f33 : (57 : Int32).toInt = 57 := by decide
        have g34 : ¬ (57 : Int32).toInt < r3.toInt := fun z => h_22 (Int32.lt_iff_toInt_lt.mpr z)
        refine ok_some.mpr ?_
        refine ok_ite.mpr ⟨fun h_35 => ?_, fun h_35 => ?_⟩
        · have f36 : (1 : Int32).toInt = 1 := by decide
          have g37 : (1 : Int32).toInt = (0 : Int32).toInt := by rw [h_35]
          exfalso
          omega
        · have f38 : (1 : Int32).toInt = 1 := by decide
          have g39 : (1 : Int32).toInt ≠ (0 : Int32).toInt := fun z => h_35 (Int32.toInt_inj.mp z)
          refine ok_ite.mpr ⟨fun h_40 => ?_, fun h_40 => ?_⟩
          · have f41 : 0 ≤ (σ4.1 0 2).toInt ∧ (σ4.1 0 2).toInt ≤ 1600 := hIσ4 0 2
            have g42 : (σ4.1 0 2).toInt = (σ4.1 0 4).toInt := by rw [h_40]
            try unfold jX10_number_30
            refine ok_bd.mpr ((o_fX10_fail hIσ4 (p1 := (1 : Int32)) (p2 := (σ4.1 0 2)) (by omega) (by omega)).mono (fun σ9_7 ho_44 => ?_))
            obtain ⟨hIσ9_7, hcσ9_7, hp_45⟩ := ho_44
            have hfσ9_7 : Fr fr_fX10_number σ σ9_7 := Fr_c hfσ4 hcσ9_7 (by decide)
            have sσ9_7_0_2 : (σ9_7.1 0 2).toInt = (σ4.1 0 2).toInt := by rw [(hcσ9_7 0 2 (by decide) (by decide)).1]
            have sσ9_7_0_3 : (σ9_7.1 0 3).toInt = (σ4.1 0 3).toInt := by rw [(hcσ9_7 0 3 (by decide) (by decide)).1]
            have sσ9_7_0_4 : (σ9_7.1 0 4).toInt = (σ4.1 0 4).toInt := by rw [(hcσ9_7 0 4 (by decide) (by decide)).1]
            refine ok_some.mpr ?_
            exact ⟨hIσ9_7, hfσ9_7, (show 0 ≤ (0 : Int32).toInt by omega), (show (0 : Int32).toInt ≤ 9999 by omega)⟩
          · have f46 : 0 ≤ (σ4.1 0 2).toInt ∧ (σ4.1 0 2).toInt ≤ 1600 := hIσ4 0 2
            have g47 : (σ4.1 0 2).toInt ≠ (σ4.1 0 4).toInt := fun z => h_40 (Int32.toInt_inj.mp z)
            refine ok_nm2 (fun x11_6 ex11_6 => ?_)
            have qx11_6 : x11_6.toInt = (σ4.1 0 2).toInt := congrArg Int32.toInt ex11_6
            refine ok_nm2 (fun x12_6 ex12_6 => ?_)
            have qx12_6 : x12_6.toInt = 0 := by rw [ex12_6]; decide
            refine ok_lpc (I := fun n s => n = (1600 + 1 - (s.2.1 0 2).toInt).toNat ∧ JM s.2 ∧ Fr fr_fX10_number σ s.2 ∧ 0 ≤ s.1.toInt ∧ s.1.toInt ≤ 9999 ∧ ((x11_6.toInt ≤ (s.2.1 0 2).toInt ∧ (s.2.1 0 2).toInt ≤ x11_6.toInt + 4)) ∧ (((s.2.1 0 2).toInt = x11_6.toInt → s.1.toInt = 0) ∧ ((s.2.1 0 2).toInt ≤ x11_6.toInt + 1 → s.1.toInt ≤ 9) ∧ ((s.2.1 0 2).toInt ≤ x11_6.toInt + 2 → s.1.toInt ≤ 99) ∧ ((s.2.1 0 2).toInt ≤ x11_6.toInt + 3 → s.1.toInt ≤ 999))) (fun rec49_8r n_8 s_8 hs_8 hrec_8 => ?_) K9 ((1600 + 1 - (σ4.1 0 2).toInt).toNat) (x12_6, σ4) ⟨rfl, hIσ4, hfσ4, (show 0 ≤ x12_6.toInt by omega), (show x12_6.toInt ≤ 9999 by omega), (show (x11_6.toInt ≤ (σ4.1 0 2).toInt ∧ (σ4.1 0 2).toInt ≤ x11_6.toInt + 4) by omega), (show ((σ4.1 0 2).toInt = x11_6.toInt → x12_6.toInt = 0) ∧ ((σ4.1 0 2).toInt ≤ x11_6.toInt + 1 → x12_6.toInt ≤ 9) ∧ ((σ4.1 0 2).toInt ≤ x11_6.toInt + 2 → x12_6.toInt ≤ 99) ∧ ((σ4.1 0 2).toInt ≤ x11_6.toInt + 3 → x12_6.toInt ≤ 999) by omega)⟩ (by unfold K9; omega)
            obtain ⟨a4_8, σ1_8⟩ := s_8
            obtain ⟨hn_8, hIσ1_8, hfσ1_8, b0a4_8, b1a4_8, iv0_8, iv1_8⟩ := hs_8
            dsimp only at hn_8 hIσ1_8 hfσ1_8 b0a4_8 b1a4_8 iv0_8 iv1_8
            unfold bX10_number_49
            try dsimp only
            refine ok_ite.mpr ⟨fun h_48 => ?_, fun h_48 => ?_⟩
            · have f49 : 0 ≤ (σ1_8.1 0 3).toInt ∧ (σ1_8.1 0 3).toInt ≤ 1600 := hIσ1_8 0 3
              have f50 : 0 ≤ (σ1_8.1 0 2).toInt ∧ (σ1_8.1 0 2).toInt ≤ 1600 := hIσ1_8 0 2
              have g51 : (σ1_8.1 0 3).toInt ≤ (σ1_8.1 0 2).toInt := Int32.le_iff_toInt_le.mp h_48
              try unfold jX10_number_129
              refine ok_nm2 (fun σ14_22 eσ14_22 => ?_)
              have hIσ14_22 : JM σ14_22 := by rw [eσ14_22]; exact JM_w hIσ1_8 (Int32.le_toInt _) (Int32.toInt_le _)
              have hfσ14_22 : Fr fr_fX10_number σ σ14_22 := by rw [eσ14_22]; exact Fr_w hfσ1_8 (by decide)
              have sσ14_22_0_2 : (σ14_22.1 0 2).toInt = (σ1_8.1 0 2).toInt := by rw [eσ14_22]; rfl
              have sσ14_22_0_3 : (σ14_22.1 0 3).toInt = (σ1_8.1 0 3).toInt := by rw [eσ14_22]; rfl
              have sσ14_22_0_4 : (σ14_22.1 0 4).toInt = (σ1_8.1 0 2).toInt := by rw [eσ14_22]; rfl
              have sσ14_22_0_5 : (σ14_22.1 0 5).toInt = (σ1_8.1 0 5).toInt := by rw [eσ14_22]; rfl
              refine ok_bd.mpr ?_
              try unfold fX10_isIn
              refine ok_ite.mpr ⟨fun h_52 => ?_, fun h_52 => ?_⟩
              · have f53 : a4_8.toInt64.toInt = a4_8.toInt := Int32.toInt_toInt64 _
                have f54 : p1.toInt64.toInt = p1.toInt := Int32.toInt_toInt64 _
                have g55 : a4_8.toInt64.toInt < p1.toInt64.toInt := Int64.lt_iff_toInt_lt.mp h_52
                refine ok_some.mpr ?_
                refine ok_ite.mpr ⟨fun h_56 => ?_, fun h_56 => ?_⟩
                · have g57 : (0 : Int32).toInt = (0 : Int32).toInt := by rw [h_56]
                  have f58 : (2 : Int32).toInt = 2 := by decide
                  refine ok_bd.mpr ((o_fX10_fail hIσ14_22 (p1 := (2 : Int32)) (p2 := x11_6) (by omega) (by omega)).mono (fun σ19_22_24 ho_60 => ?_))
                  obtain ⟨hIσ19_22_24, hcσ19_22_24, hp_61⟩ := ho_60
                  have hfσ19_22_24 : Fr fr_fX10_number σ σ19_22_24 := Fr_c hfσ14_22 hcσ19_22_24 (by decide)
                  have sσ19_22_24_0_2 : (σ19_22_24.1 0 2).toInt = (σ14_22.1 0 2).toInt := by rw [(hcσ19_22_24 0 2 (by decide) (by decide)).1]
                  have sσ19_22_24_0_3 : (σ19_22_24.1 0 3).toInt = (σ14_22.1 0 3).toInt := by rw [(hcσ19_22_24 0 3 (by decide) (by decide)).1]
                  have sσ19_22_24_0_4 : (σ19_22_24.1 0 4).toInt = (σ14_22.1 0 4).toInt := by rw [(hcσ19_22_24 0 4 (by decide) (by decide)).1]
                  refine ok_some.mpr ?_
                  exact ⟨hIσ19_22_24, hfσ19_22_24, (show 0 ≤ a4_8.toInt by omega), (show a4_8.toInt ≤ 9999 by omega)⟩
                · have g62 : (0 : Int32).toInt ≠ (0 : Int32).toInt := fun z => h_56 (Int32.toInt_inj.mp z)
                  exfalso
                  omega
              · have f63 : a4_8.toInt64.toInt = a4_8.toInt := Int32.toInt_toInt64 _
                have f64 : p1.toInt64.toInt = p1.toInt := Int32.toInt_toInt64 _
                have g65 : ¬ a4_8.toInt64.toInt < p1.toInt64.toInt := fun z => h_52 (Int64.lt_iff_toInt_lt.mpr z)
                refine ok_ite.mpr ⟨fun h_66 => ?_, fun h_66 => ?_⟩
                · have f67 : p2.toInt64.toInt = p2.toInt := Int32.toInt_toInt64 _
                  have g68 : p2.toInt64.toInt < a4_8.toInt64.toInt := Int64.lt_iff_toInt_lt.mp h_66
                  refine ok_some.mpr ?_
                  refine ok_ite.mpr ⟨fun h_69 => ?_, fun h_69 => ?_⟩
                  · have g70 : (0 : Int32).toInt = (0 : Int32).toInt := by rw [h_69]
                    have f71 : (2 : Int32).toInt = 2 := by decide
                    refine ok_bd.mpr ((o_fX10_fail hIσ14_22 (p1 := (2 : Int32)) (p2 := x11_6) (by omega) (by omega)).mono (fun σ19_22_25 ho_73 => ?_))
                    obtain ⟨hIσ19_22_25, hcσ19_22_25, hp_74⟩ := ho_73
                    have hfσ19_22_25 : Fr fr_fX10_number σ σ19_22_25 := Fr_c hfσ14_22 hcσ19_22_25 (by decide)
                    have sσ19_22_25_0_2 : (σ19_22_25.1 0 2).toInt = (σ14_22.1 0 2).toInt := by rw [(hcσ19_22_25 0 2 (by decide) (by decide)).1]
                    have sσ19_22_25_0_3 : (σ19_22_25.1 0 3).toInt = (σ14_22.1 0 3).toInt := by rw [(hcσ19_22_25 0 3 (by decide) (by decide)).1]
                    have sσ19_22_25_0_4 : (σ19_22_25.1 0 4).toInt = (σ14_22.1 0 4).toInt := by rw [(hcσ19_22_25 0 4 (by decide) (by decide)).1]
                    refine ok_some.mpr ?_
                    exact ⟨hIσ19_22_25, hfσ19_22_25, (show 0 ≤ a4_8.toInt by omega), (show a4_8.toInt ≤ 9999 by omega)⟩
                  · have g75 : (0 : Int32).toInt ≠ (0 : Int32).toInt := fun z => h_69 (Int32.toInt_inj.mp z)
                    exfalso
                    omega
                · have f76 : p2.toInt64.toInt = p2.toInt := Int32.toInt_toInt64 _
                  have g77 : ¬ p2.toInt64.toInt < a4_8.toInt64.toInt := fun z => h_66 (Int64.lt_iff_toInt_lt.mpr z)
                  refine ok_some.mpr ?_
                  refine ok_ite.mpr ⟨fun h_78 => ?_, fun h_78 => ?_⟩
                  · have g79 : (1 : Int32).toInt = (0 : Int32).toInt := by rw [h_78]
                    exfalso
                    omega
                  · have g80 : (1 : Int32).toInt ≠ (0 : Int32).toInt := fun z => h_78 (Int32.toInt_inj.mp z)
                    refine ok_some.mpr ?_
                    exact ⟨hIσ14_22, hfσ14_22, (show 0 ≤ a4_8.toInt by omega), (show a4_8.toInt ≤ 9999 by omega)⟩
            · have f81 : 0 ≤ (σ1_8.1 0 3).toInt ∧ (σ1_8.1 0 3).toInt ≤ 1600 := hIσ1_8 0 3
              have f82 : 0 ≤ (σ1_8.1 0 2).toInt ∧ (σ1_8.1 0 2).toInt ≤ 1600 := hIσ1_8 0 2
              have g83 : ¬ (σ1_8.1 0 3).toInt ≤ (σ1_8.1 0 2).toInt := fun z => h_48 (Int32.le_iff_toInt_le.mpr z)
              refine ok_gd.mpr ⟨gb_of (by omega) (by omega), ?_⟩
              refine ok_nm2 (fun v20_21 ev20_21 => ?_)
              have f84 : 0 ≤ (σ1_8.1 1 (σ1_8.1 0 2).toNatClampNeg).toInt ∧ (σ1_8.1 1 (σ1_8.1 0 2).toNatClampNeg).toInt ≤ 255 := hIσ1_8 1 _
              have qv20_21 : v20_21.toInt = (σ1_8.1 1 (σ1_8.1 0 2).toNatClampNeg).toInt := congrArg Int32.toInt ev20_21
              refine ok_bd.mpr ?_
              try unfold fX10_isDigit
              refine ok_ite.mpr ⟨fun h_85 => ?_, fun h_85 => ?_⟩
              · have g86 : v20_21.toInt < (48 : Int32).toInt := Int32.lt_iff_toInt_lt.mp h_85
                refine ok_some.mpr ?_
                refine ok_ite.mpr ⟨fun h_87 => ?_, fun h_87 => ?_⟩
                · have g88 : (0 : Int32).toInt = (0 : Int32).toInt := by rw [h_87]
                  try unfold jX10_number_129
                  refine ok_nm2 (fun σ14_29 eσ14_29 => ?_)
                  have hIσ14_29 : JM σ14_29 := by rw [eσ14_29]; exact JM_w hIσ1_8 (Int32.le_toInt _) (Int32.toInt_le _)
                  have hfσ14_29 : Fr fr_fX10_number σ σ14_29 := by rw [eσ14_29]; exact Fr_w hfσ1_8 (by decide)
                  have sσ14_29_0_2 : (σ14_29.1 0 2).toInt = (σ1_8.1 0 2).toInt := by rw [eσ14_29]; rfl
                  have sσ14_29_0_3 : (σ14_29.1 0 3).toInt = (σ1_8.1 0 3).toInt := by rw [eσ14_29]; rfl
                  have sσ14_29_0_4 : (σ14_29.1 0 4).toInt = (σ1_8.1 0 2).toInt := by rw [eσ14_29]; rfl
                  have sσ14_29_0_5 : (σ14_29.1 0 5).toInt = (σ1_8.1 0 5).toInt := by rw [eσ14_29]; rfl
                  refine ok_bd.mpr ?_
                  try unfold fX10_isIn
                  refine ok_ite.mpr ⟨fun h_89 => ?_, fun h_89 => ?_⟩
                  · have f90 : a4_8.toInt64.toInt = a4_8.toInt := Int32.toInt_toInt64 _
                    have f91 : p1.toInt64.toInt = p1.toInt := Int32.toInt_toInt64 _
                    have g92 : a4_8.toInt64.toInt < p1.toInt64.toInt := Int64.lt_iff_toInt_lt.mp h_89
                    refine ok_some.mpr ?_
                    refine ok_ite.mpr ⟨fun h_93 => ?_, fun h_93 => ?_⟩
                    · have g94 : (0 : Int32).toInt = (0 : Int32).toInt := by rw [h_93]
                      have f95 : (2 : Int32).toInt = 2 := by decide
                      refine ok_bd.mpr ((o_fX10_fail hIσ14_29 (p1 := (2 : Int32)) (p2 := x11_6) (by omega) (by omega)).mono (fun σ19_29_31 ho_97 => ?_))
                      obtain ⟨hIσ19_29_31, hcσ19_29_31, hp_98⟩ := ho_97
                      have hfσ19_29_31 : Fr fr_fX10_number σ σ19_29_31 := Fr_c hfσ14_29 hcσ19_29_31 (by decide)
                      have sσ19_29_31_0_2 : (σ19_29_31.1 0 2).toInt = (σ14_29.1 0 2).toInt := by rw [(hcσ19_29_31 0 2 (by decide) (by decide)).1]
                      have sσ19_29_31_0_3 : (σ19_29_31.1 0 3).toInt = (σ14_29.1 0 3).toInt := by rw [(hcσ19_29_31 0 3 (by decide) (by decide)).1]
                      have sσ19_29_31_0_4 : (σ19_29_31.1 0 4).toInt = (σ14_29.1 0 4).toInt := by rw [(hcσ19_29_31 0 4 (by decide) (by decide)).1]
                      refine ok_some.mpr ?_
                      exact ⟨hIσ19_29_31, hfσ19_29_31, (show 0 ≤ a4_8.toInt by omega), (show a4_8.toInt ≤ 9999 by omega)⟩
                    · have g99 : (0 : Int32).toInt ≠ (0 : Int32).toInt := fun z => h_93 (Int32.toInt_inj.mp z)
                      exfalso
                      omega
                  · have f100 : a4_8.toInt64.toInt = a4_8.toInt := Int32.toInt_toInt64 _
                    have f101 : p1.toInt64.toInt = p1.toInt := Int32.toInt_toInt64 _
                    have g102 : ¬ a4_8.toInt64.toInt < p1.toInt64.toInt := fun z => h_89 (Int64.lt_iff_toInt_lt.mpr z)
                    refine ok_ite.mpr ⟨fun h_103 => ?_, fun h_103 => ?_⟩
                    · have f104 : p2.toInt64.toInt = p2.toInt := Int32.toInt_toInt64 _
                      have g105 : p2.toInt64.toInt < a4_8.toInt64.toInt := Int64.lt_iff_toInt_lt.mp h_103
                      refine ok_some.mpr ?_
                      refine ok_ite.mpr ⟨fun h_106 => ?_, fun h_106 => ?_⟩
                      · have g107 : (0 : Int32).toInt = (0 : Int32).toInt := by rw [h_106]
                        have f108 : (2 : Int32).toInt = 2 := by decide
                        refine ok_bd.mpr ((o_fX10_fail hIσ14_29 (p1 := (2 : Int32)) (p2 := x11_6) (by omega) (by omega)).mono (fun σ19_29_32 ho_110 => ?_))
                        obtain ⟨hIσ19_29_32, hcσ19_29_32, hp_111⟩ := ho_110
                        have hfσ19_29_32 : Fr fr_fX10_number σ σ19_29_32 := Fr_c hfσ14_29 hcσ19_29_32 (by decide)
                        have sσ19_29_32_0_2 : (σ19_29_32.1 0 2).toInt = (σ14_29.1 0 2).toInt := by rw [(hcσ19_29_32 0 2 (by decide) (by decide)).1]
                        have sσ19_29_32_0_3 : (σ19_29_32.1 0 3).toInt = (σ14_29.1 0 3).toInt := by rw [(hcσ19_29_32 0 3 (by decide) (by decide)).1]
                        have sσ19_29_32_0_4 : (σ19_29_32.1 0 4).toInt = (σ14_29.1 0 4).toInt := by rw [(hcσ19_29_32 0 4 (by decide) (by decide)).1]
                        refine ok_some.mpr ?_
                        exact ⟨hIσ19_29_32, hfσ19_29_32, (show 0 ≤ a4_8.toInt by omega), (show a4_8.toInt ≤ 9999 by omega)⟩
                      · have g112 : (0 : Int32).toInt ≠ (0 : Int32).toInt := fun z => h_106 (Int32.toInt_inj.mp z)
                        exfalso
                        omega
                    · have f113 : p2.toInt64.toInt = p2.toInt := Int32.toInt_toInt64 _
                      have g114 : ¬ p2.toInt64.toInt < a4_8.toInt64.toInt := fun z => h_103 (Int64.lt_iff_toInt_lt.mpr z)
                      refine ok_some.mpr ?_
                      refine ok_ite.mpr ⟨fun h_115 => ?_, fun h_115 => ?_⟩
                      · have g116 : (1 : Int32).toInt = (0 : Int32).toInt := by rw [h_115]
                        exfalso
                        omega
                      · have g117 : (1 : Int32).toInt ≠ (0 : Int32).toInt := fun z => h_115 (Int32.toInt_inj.mp z)
                        refine ok_some.mpr ?_
                        exact ⟨hIσ14_29, hfσ14_29, (show 0 ≤ a4_8.toInt by omega), (show a4_8.toInt ≤ 9999 by omega)⟩
                · have g118 : (0 : Int32).toInt ≠ (0 : Int32).toInt := fun z => h_87 (Int32.toInt_inj.mp z)
                  exfalso
                  omega
              · have g119 : ¬ v20_21.toInt < (48 : Int32).toInt := fun z => h_85 (Int32.lt_iff_toInt_lt.mpr z)
                refine ok_ite.mpr ⟨fun h_120 => ?_, fun h_120 => ?_⟩
                · have g121 : (57 : Int32).toInt < v20_21.toInt := Int32.lt_iff_toInt_lt.mp h_120
                  refine ok_some.mpr ?_
                  refine ok_ite.mpr ⟨fun h_122 => ?_, fun h_122 => ?_⟩
                  · have g123 : (0 : Int32).toInt = (0 : Int32).toInt := by rw [h_122]
                    try unfold jX10_number_129
                    refine ok_nm2 (fun σ14_35 eσ14_35 => ?_)
                    have hIσ14_35 : JM σ14_35 := by rw [eσ14_35]; exact JM_w hIσ1_8 (Int32.le_toInt _) (Int32.toInt_le _)
                    have hfσ14_35 : Fr fr_fX10_number σ σ14_35 := by rw [eσ14_35]; exact Fr_w hfσ1_8 (by decide)
                    have sσ14_35_0_2 : (σ14_35.1 0 2).toInt = (σ1_8.1 0 2).toInt := by rw [eσ14_35]; rfl
                    have sσ14_35_0_3 : (σ14_35.1 0 3).toInt = (σ1_8.1 0 3).toInt := by rw [eσ14_35]; rfl
                    have sσ14_35_0_4 : (σ14_35.1 0 4).toInt = (σ1_8.1 0 2).toInt := by rw [eσ14_35]; rfl
                    have sσ14_35_0_5 : (σ14_35.1 0 5).toInt = (σ1_8.1 0 5).toInt := by rw [eσ14_35]; rfl
                    refine ok_bd.mpr ?_
                    try unfold fX10_isIn
                    refine ok_ite.mpr ⟨fun h_124 => ?_, fun h_124 => ?_⟩
                    · have f125 : a4_8.toInt64.toInt = a4_8.toInt := Int32.toInt_toInt64 _
                      have f126 : p1.toInt64.toInt = p1.toInt := Int32.toInt_toInt64 _
                      have g127 : a4_8.toInt64.toInt < p1.toInt64.toInt := Int64.lt_iff_toInt_lt.mp h_124
                      refine ok_some.mpr ?_
                      refine ok_ite.mpr ⟨fun h_128 => ?_, fun h_128 => ?_⟩
                      · have g129 : (0 : Int32).toInt = (0 : Int32).toInt := by rw [h_128]
                        have f130 : (2 : Int32).toInt = 2 := by decide
                        refine ok_bd.mpr ((o_fX10_fail hIσ14_35 (p1 := (2 : Int32)) (p2 := x11_6) (by omega) (by omega)).mono (fun σ19_35_37 ho_132 => ?_))
                        obtain ⟨hIσ19_35_37, hcσ19_35_37, hp_133⟩ := ho_132
                        have hfσ19_35_37 : Fr fr_fX10_number σ σ19_35_37 := Fr_c hfσ14_35 hcσ19_35_37 (by decide)
                        have sσ19_35_37_0_2 : (σ19_35_37.1 0 2).toInt = (σ14_35.1 0 2).toInt := by rw [(hcσ19_35_37 0 2 (by decide) (by decide)).1]
                        have sσ19_35_37_0_3 : (σ19_35_37.1 0 3).toInt = (σ14_35.1 0 3).toInt := by rw [(hcσ19_35_37 0 3 (by decide) (by decide)).1]
                        have sσ19_35_37_0_4 : (σ19_35_37.1 0 4).toInt = (σ14_35.1 0 4).toInt := by rw [(hcσ19_35_37 0 4 (by decide) (by decide)).1]
                        refine ok_some.mpr ?_
                        exact ⟨hIσ19_35_37, hfσ19_35_37, (show 0 ≤ a4_8.toInt by omega), (show a4_8.toInt ≤ 9999 by omega)⟩
                      · have g134 : (0 : Int32).toInt ≠ (0 : Int32).toInt := fun z => h_128 (Int32.toInt_inj.mp z)
                        exfalso
                        omega
                    · have f135 : a4_8.toInt64.toInt = a4_8.toInt := Int32.toInt_toInt64 _
                      have f136 : p1.toInt64.toInt = p1.toInt := Int32.toInt_toInt64 _
                      have g137 : ¬ a4_8.toInt64.toInt < p1.toInt64.toInt := fun z => h_124 (Int64.lt_iff_toInt_lt.mpr z)
                      refine ok_ite.mpr ⟨fun h_138 => ?_, fun h_138 => ?_⟩
                      · have f139 : p2.toInt64.toInt = p2.toInt := Int32.toInt_toInt64 _
                        have g140 : p2.toInt64.toInt < a4_8.toInt64.toInt := Int64.lt_iff_toInt_lt.mp h_138
                        refine ok_some.mpr ?_
                        refine ok_ite.mpr ⟨fun h_141 => ?_, fun h_141 => ?_⟩
                        · have g142 : (0 : Int32).toInt = (0 : Int32).toInt := by rw [h_141]
                          have f143 : (2 : Int32).toInt = 2 := by decide
                          refine ok_bd.mpr ((o_fX10_fail hIσ14_35 (p1 := (2 : Int32)) (p2 := x11_6) (by omega) (by omega)).mono (fun σ19_35_38 ho_145 => ?_))
                          obtain ⟨hIσ19_35_38, hcσ19_35_38, hp_146⟩ := ho_145
                          have hfσ19_35_38 : Fr fr_fX10_number σ σ19_35_38 := Fr_c hfσ14_35 hcσ19_35_38 (by decide)
                          have sσ19_35_38_0_2 : (σ19_35_38.1 0 2).toInt = (σ14_35.1 0 2).toInt := by rw [(hcσ19_35_38 0 2 (by decide) (by decide)).1]
                          have sσ19_35_38_0_3 : (σ19_35_38.1 0 3).toInt = (σ14_35.1 0 3).toInt := by rw [(hcσ19_35_38 0 3 (by decide) (by decide)).1]
                          have sσ19_35_38_0_4 : (σ19_35_38.1 0 4).toInt = (σ14_35.1 0 4).toInt := by rw [(hcσ19_35_38 0 4 (by decide) (by decide)).1]
                          refine ok_some.mpr ?_
                          exact ⟨hIσ19_35_38, hfσ19_35_38, (show 0 ≤ a4_8.toInt by omega), (show a4_8.toInt ≤ 9999 by omega)⟩
                        · have g147 : (0 : Int32).toInt ≠ (0 : Int32).toInt := fun z => h_141 (Int32.toInt_inj.mp z)
                          exfalso
                          omega
                      · have f148 : p2.toInt64.toInt = p2.toInt := Int32.toInt_toInt64 _
                        have g149 : ¬ p2.toInt64.toInt < a4_8.toInt64.toInt := fun z => h_138 (Int64.lt_iff_toInt_lt.mpr z)
                        refine ok_some.mpr ?_
                        refine ok_ite.mpr ⟨fun h_150 => ?_, fun h_150 => ?_⟩
                        · have g151 : (1 : Int32).toInt = (0 : Int32).toInt := by rw [h_150]
                          exfalso
                          omega
                        · have g152 : (1 : Int32).toInt ≠ (0 : Int32).toInt := fun z => h_150 (Int32.toInt_inj.mp z)
                          refine ok_some.mpr ?_
                          exact ⟨hIσ14_35, hfσ14_35, (show 0 ≤ a4_8.toInt by omega), (show a4_8.toInt ≤ 9999 by omega)⟩
                  · have g153 : (0 : Int32).toInt ≠ (0 : Int32).toInt := fun z => h_122 (Int32.toInt_inj.mp z)
                    exfalso
                    omega
                · have g154 : ¬ (57 : Int32).toInt < v20_21.toInt := fun z => h_120 (Int32.lt_iff_toInt_lt.mpr z)
                  refine ok_some.mpr ?_
                  refine ok_ite.mpr ⟨fun h_155 => ?_, fun h_155 => ?_⟩
                  · have g156 : (1 : Int32).toInt = (0 : Int32).toInt := by rw [h_155]
                    exfalso
                    omega
                  · have g157 : (1 : Int32).toInt ≠ (0 : Int32).toInt := fun z => h_155 (Int32.toInt_inj.mp z)
                    refine ok_ite.mpr ⟨fun h_158 => ?_, fun h_158 => ?_⟩
                    · have f159 : ((σ1_8.1 0 2) - x11_6).toInt = (σ1_8.1 0 2).toInt - x11_6.toInt := isub_toInt (by omega) (by omega)
                      have f160 : (4 : Int32).toInt = 4 := by decide
                      have g161 : ((σ1_8.1 0 2) - x11_6).toInt = (4 : Int32).toInt := by rw [h_158]
                      refine ok_bd.mpr ((o_fX10_fail hIσ1_8 (p1 := (1 : Int32)) (p2 := (σ1_8.1 0 2)) (by omega) (by omega)).mono (fun σ29_21_40 ho_163 => ?_))
                      obtain ⟨hIσ29_21_40, hcσ29_21_40, hp_164⟩ := ho_163
                      have hfσ29_21_40 : Fr fr_fX10_number σ σ29_21_40 := Fr_c hfσ1_8 hcσ29_21_40 (by decide)
                      have sσ29_21_40_0_2 : (σ29_21_40.1 0 2).toInt = (σ1_8.1 0 2).toInt := by rw [(hcσ29_21_40 0 2 (by decide) (by decide)).1]
                      have sσ29_21_40_0_3 : (σ29_21_40.1 0 3).toInt = (σ1_8.1 0 3).toInt := by rw [(hcσ29_21_40 0 3 (by decide) (by decide)).1]
                      have sσ29_21_40_0_4 : (σ29_21_40.1 0 4).toInt = (σ1_8.1 0 4).toInt := by rw [(hcσ29_21_40 0 4 (by decide) (by decide)).1]
                      refine ok_some.mpr ?_
                      exact ⟨hIσ29_21_40, hfσ29_21_40, (show 0 ≤ (0 : Int32).toInt by omega), (show (0 : Int32).toInt ≤ 9999 by omega)⟩
                    · have f165 : ((σ1_8.1 0 2) - x11_6).toInt = (σ1_8.1 0 2).toInt - x11_6.toInt := isub_toInt (by omega) (by omega)
                      have f166 : (4 : Int32).toInt = 4 := by decide
                      have g167 : ((σ1_8.1 0 2) - x11_6).toInt ≠ (4 : Int32).toInt := fun z => h_158 (Int32.toInt_inj.mp z)
                      refine ok_gd.mpr ⟨gb_of (by omega) (by omega), ?_⟩
                      refine ok_nm2 (fun v25_21_40 ev25_21_40 => ?_)
                      have qv25_21_40 : v25_21_40.toInt = (σ1_8.1 1 (σ1_8.1 0 2).toNatClampNeg).toInt := congrArg Int32.toInt ev25_21_40
                      refine ok_nm2 (fun x26_21_40 ex26_21_40 => ?_)
                      have f168 : (10 : Int32).toInt = 10 := by decide
                      have f169 : ((10 : Int32) * a4_8).toInt = 10 * a4_8.toInt := imulc (by decide) (by omega) (by omega)
                      have f170 : ((10 * a4_8) + v25_21_40).toInt = (10 * a4_8).toInt + v25_21_40.toInt := iadd_toInt (by omega) (by omega)
                      have f171 : (((10 * a4_8) + v25_21_40) - (48 : Int32)).toInt = ((10 * a4_8) + v25_21_40).toInt - (48 : Int32).toInt := isub_toInt (by omega) (by omega)
                      have qx26_21_40 : x26_21_40.toInt = (((10 * a4_8) + v25_21_40) - 48).toInt := congrArg Int32.toInt ex26_21_40
                      refine ok_nm2 (fun σ27_21_40 eσ27_21_40 => ?_)
                      have f172 : ((σ1_8.1 0 2) + (1 : Int32)).toInt = (σ1_8.1 0 2).toInt + (1 : Int32).toInt := iadd_toInt (by omega) (by omega)
                      have hIσ27_21_40 : JM σ27_21_40 := by rw [eσ27_21_40]; exact JM_w hIσ1_8 (show 0 ≤ _ by omega) (show _ ≤ 1600 by omega)
                      have hfσ27_21_40 : Fr fr_fX10_number σ σ27_21_40 := by rw [eσ27_21_40]; exact Fr_w hfσ1_8 (by decide)
                      have sσ27_21_40_0_2 : (σ27_21_40.1 0 2).toInt = ((σ1_8.1 0 2) + 1).toInt := by rw [eσ27_21_40]; rfl
                      have sσ27_21_40_0_3 : (σ27_21_40.1 0 3).toInt = (σ1_8.1 0 3).toInt := by rw [eσ27_21_40]; rfl
                      have sσ27_21_40_0_4 : (σ27_21_40.1 0 4).toInt = (σ1_8.1 0 4).toInt := by rw [eσ27_21_40]; rfl
                      have sσ27_21_40_0_5 : (σ27_21_40.1 0 5).toInt = (σ1_8.1 0 5).toInt := by rw [eσ27_21_40]; rfl
                      have f173 : 0 ≤ (σ27_21_40.1 0 2).toInt ∧ (σ27_21_40.1 0 2).toInt ≤ 1600 := hIσ27_21_40 0 2
                      exact hrec_8 _ (x26_21_40, σ27_21_40) (show (1600 + 1 - (σ27_21_40.1 0 2).toInt).toNat < n_8 by omega) ⟨rfl, hIσ27_21_40, hfσ27_21_40, (show 0 ≤ x26_21_40.toInt by omega), (show x26_21_40.toInt ≤ 9999 by omega), (show (x11_6.toInt ≤ (σ27_21_40.1 0 2).toInt ∧ (σ27_21_40.1 0 2).toInt ≤ x11_6.toInt + 4) by omega), (show ((σ27_21_40.1 0 2).toInt = x11_6.toInt → x26_21_40.toInt = 0) ∧ ((σ27_21_40.1 0 2).toInt ≤ x11_6.toInt + 1 → x26_21_40.toInt ≤ 9) ∧ ((σ27_21_40.1 0 2).toInt ≤ x11_6.toInt + 2 → x26_21_40.toInt ≤ 99) ∧ ((σ27_21_40.1 0 2).toInt ≤ x11_6.toInt + 3 → x26_21_40.toInt ≤ 999) by omega)⟩
  · have f174 : (0 : Int32).toInt = 0 := by decide
    have g175 : (σ.1 0 5).toInt ≠ (0 : Int32).toInt := fun z => h_3 (Int32.toInt_inj.mp z)
    refine ok_some.mpr ?_
    exact ⟨hIσ, hfσ, (show 0 ≤ (0 : Int32).toInt by omega), (show (0 : Int32).toInt ≤ 9999 by omega)⟩
