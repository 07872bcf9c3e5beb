/-! comes through, m 4 -/
set_option maxRecDepth 20000 in
set_option maxHeartbeats 2000000 in
theorem o_fX10_block {σ : gS} (hIσ : JM σ)   : Ok (fX10_block σ ) (fun out => JM out.2 ∧ Fr fr_fX10_block σ out.2 ∧ -1 ≤ out.1.toInt ∧ out.1.toInt ≤ 120) := by
  unfold fX10_block
  have hfσ : Fr fr_fX10_block σ σ := Fr_r
  have f1 : 0 ≤ (σ.1 0 1).toInt ∧ (σ.1 0 1).toInt ≤ 1600 := hIσ 0 1
  have f2 : 0 ≤ (σ.1 0 2).toInt ∧ (σ.1 0 2).toInt ≤ 1600 := hIσ 0 2
  have f3 : 0 ≤ (σ.1 0 3).toInt ∧ (σ.1 0 3).toInt ≤ 1600 := hIσ 0 3
  have f4 : 0 ≤ (σ.1 0 34).toInt ∧ (σ.1 0 34).toInt ≤ 120 := hIσ 0 34
  refine ok_nm2 (fun σ1 eσ1 => ?_)
  have hIσ1 : JM σ1 := by rw [eσ1]; exact JM_w hIσ (show 0 ≤ _ by omega) (show _ ≤ 1600 by omega)
  have hfσ1 : Fr fr_fX10_block σ σ1 := by rw [eσ1]; exact Fr_w hfσ (by decide)
  have sσ1_0_1 : (σ1.1 0 1).toInt = (σ.1 0 1).toInt := by rw [eσ1]; rfl
  have sσ1_0_2 : (σ1.1 0 2).toInt = (σ.1 0 2).toInt := by rw [eσ1]; rfl
  have sσ1_0_3 : (σ1.1 0 3).toInt = (σ.1 0 1).toInt := by rw [eσ1]; rfl
  have sσ1_0_5 : (σ1.1 0 5).toInt = (σ.1 0 5).toInt := by rw [eσ1]; rfl
  have sσ1_0_6 : (σ1.1 0 6).toInt = (σ.1 0 6).toInt := by rw [eσ1]; rfl
  have sσ1_0_34 : (σ1.1 0 34).toInt = (σ.1 0 34).toInt := by rw [eσ1]; rfl
  refine ok_nm2 (fun σ2 eσ2 => ?_)
  have f5 : (0 : Int32).toInt = 0 := by decide
  have hIσ2 : JM σ2 := by rw [eσ2]; exact JM_w hIσ1 (show 0 ≤ _ by omega) (show _ ≤ 1600 by omega)
  have hfσ2 : Fr fr_fX10_block σ σ2 := by rw [eσ2]; exact Fr_w hfσ1 (by decide)
  have sσ2_0_1 : (σ2.1 0 1).toInt = (0 : Int32).toInt := by rw [eσ2]; rfl
  have sσ2_0_2 : (σ2.1 0 2).toInt = (σ1.1 0 2).toInt := by rw [eσ2]; rfl
  have sσ2_0_3 : (σ2.1 0 3).toInt = (σ1.1 0 3).toInt := by rw [eσ2]; rfl
  have sσ2_0_5 : (σ2.1 0 5).toInt = (σ1.1 0 5).toInt := by rw [eσ2]; rfl
  have sσ2_0_6 : (σ2.1 0 6).toInt = (σ1.1 0 6).toInt := by rw [eσ2]; rfl
  have sσ2_0_34 : (σ2.1 0 34).toInt = (σ1.1 0 34).toInt := by rw [eσ2]; rfl
  refine ok_nm2 (fun σ3 eσ3 => ?_)
  have hIσ3 : JM σ3 := by rw [eσ3]; exact JM_w hIσ2 (show 0 ≤ _ by omega) (show _ ≤ 1600 by omega)
  have hfσ3 : Fr fr_fX10_block σ σ3 := by rw [eσ3]; exact Fr_w hfσ2 (by decide)
  have sσ3_0_1 : (σ3.1 0 1).toInt = (σ2.1 0 1).toInt := by rw [eσ3]; rfl
  have sσ3_0_2 : (σ3.1 0 2).toInt = (0 : Int32).toInt := by rw [eσ3]; rfl
  have sσ3_0_3 : (σ3.1 0 3).toInt = (σ2.1 0 3).toInt := by rw [eσ3]; rfl
  have sσ3_0_5 : (σ3.1 0 5).toInt = (σ2.1 0 5).toInt := by rw [eσ3]; rfl
  have sσ3_0_6 : (σ3.1 0 6).toInt = (σ2.1 0 6).toInt := by rw [eσ3]; rfl
  have sσ3_0_34 : (σ3.1 0 34).toInt = (σ2.1 0 34).toInt := by rw [eσ3]; rfl
  refine ok_nm2 (fun σ4 eσ4 => ?_)
  have f6 : (-1 : Int32).toInt = -1 := by decide
  have hIσ4 : JM σ4 := by rw [eσ4]; exact JM_w hIσ3 (Int32.le_toInt _) (Int32.toInt_le _)
  have hfσ4 : Fr fr_fX10_block σ σ4 := by rw [eσ4]; exact Fr_w hfσ3 (by decide)
  have sσ4_0_1 : (σ4.1 0 1).toInt = (σ3.1 0 1).toInt := by rw [eσ4]; rfl
  have sσ4_0_2 : (σ4.1 0 2).toInt = (σ3.1 0 2).toInt := by rw [eσ4]; rfl
  have sσ4_0_3 : (σ4.1 0 3).toInt = (σ3.1 0 3).toInt := by rw [eσ4]; rfl
  have sσ4_0_5 : (σ4.1 0 5).toInt = (σ3.1 0 5).toInt := by rw [eσ4]; rfl
  have sσ4_0_6 : (σ4.1 0 6).toInt = (σ3.1 0 6).toInt := by rw [eσ4]; rfl
  have sσ4_0_34 : (σ4.1 0 34).toInt = (σ3.1 0 34).toInt := by rw [eσ4]; rfl
  refine ok_nm2 (fun σ5 eσ5 => ?_)
  have hIσ5 : JM σ5 := by rw [eσ5]; exact JM_w hIσ4 (Int32.le_toInt _) (Int32.toInt_le _)
  have hfσ5 : Fr fr_fX10_block σ σ5 := by rw [eσ5]; exact Fr_w hfσ4 (by decide)
  have sσ5_0_1 : (σ5.1 0 1).toInt = (σ4.1 0 1).toInt := by rw [eσ5]; rfl
  have sσ5_0_2 : (σ5.1 0 2).toInt = (σ4.1 0 2).toInt := by rw [eσ5]; rfl
  have sσ5_0_3 : (σ5.1 0 3).toInt = (σ4.1 0 3).toInt := by rw [eσ5]; rfl
  have sσ5_0_5 : (σ5.1 0 5).toInt = (0 : Int32).toInt := by rw [eσ5]; rfl
  have sσ5_0_6 : (σ5.1 0 6).toInt = (σ4.1 0 6).toInt := by rw [eσ5]; rfl
  have sσ5_0_34 : (σ5.1 0 34).toInt = (σ4.1 0 34).toInt := by rw [eσ5]; rfl
  refine ok_nm2 (fun σ6 eσ6 => ?_)
  have hIσ6 : JM σ6 := by rw [eσ6]; exact JM_w hIσ5 (Int32.le_toInt _) (Int32.toInt_le _)
  have hfσ6 : Fr fr_fX10_block σ σ6 := by rw [eσ6]; exact Fr_w hfσ5 (by decide)
  have sσ6_0_1 : (σ6.1 0 1).toInt = (σ5.1 0 1).toInt := by rw [eσ6]; rfl
  have sσ6_0_2 : (σ6.1 0 2).toInt = (σ5.1 0 2).toInt := by rw [eσ6]; rfl
  have sσ6_0_3 : (σ6.1 0 3).toInt = (σ5.1 0 3).toInt := by rw [eσ6]; rfl
  have sσ6_0_5 : (σ6.1 0 5).toInt = (σ5.1 0 5).toInt := by rw [eσ6]; rfl
  have sσ6_0_6 : (σ6.1 0 6).toInt = (-1 : Int32).toInt := by rw [eσ6]; rfl
  have sσ6_0_34 : (σ6.1 0 34).toInt = (σ5.1 0 34).toInt := by rw [eσ6]; rfl
  refine ok_nm2 (fun σ7 eσ7 => ?_)
  have hIσ7 : JM σ7 := by rw [eσ7]; exact JM_w hIσ6 (show 0 ≤ _ by omega) (show _ ≤ 120 by omega)
  have hfσ7 : Fr fr_fX10_block σ σ7 := by rw [eσ7]; exact Fr_w hfσ6 (by decide)
  have sσ7_0_1 : (σ7.1 0 1).toInt = (σ6.1 0 1).toInt := by rw [eσ7]; rfl
  have sσ7_0_2 : (σ7.1 0 2).toInt = (σ6.1 0 2).toInt := by rw [eσ7]; rfl
  have sσ7_0_3 : (σ7.1 0 3).toInt = (σ6.1 0 3).toInt := by rw [eσ7]; rfl
  have sσ7_0_5 : (σ7.1 0 5).toInt = (σ6.1 0 5).toInt := by rw [eσ7]; rfl
  have sσ7_0_6 : (σ7.1 0 6).toInt = (σ6.1 0 6).toInt := by rw [eσ7]; rfl
  have sσ7_0_34 : (σ7.1 0 34).toInt = (0 : Int32).toInt := by rw [eσ7]; rfl
  refine ok_nm2 (fun x8 ex8 => ?_)
  have qx8 : x8.toInt = 0 := by rw [ex8]; decide
  refine ok_lpc (I := fun n s => n = (6 + 1 - s.1.toInt).toNat ∧ JM s.2 ∧ Fr fr_fX10_block σ s.2 ∧ 0 ≤ s.1.toInt ∧ s.1.toInt ≤ 6) (fun rec40_1r n_1 s_1 hs_1 hrec_1 => ?_) K9 ((6 + 1 - x8.toInt).toNat) (x8, σ7) ⟨rfl, hIσ7, hfσ7, (show 0 ≤ x8.toInt by omega), (show x8.toInt ≤ 6 by omega)⟩ (by unfold K9; omega)
  obtain ⟨a1_1, σ1_1⟩ := s_1
  obtain ⟨hn_1, hIσ1_1, hfσ1_1, b0a1_1, b1a1_1⟩ := hs_1
  dsimp only at hn_1 hIσ1_1 hfσ1_1 b0a1_1 b1a1_1
  unfold bX10_block_40
  try dsimp only
  refine ok_ite.mpr ⟨fun h_7 => ?_, fun h_7 => ?_⟩
  · have f8 : (6 : Int32).toInt = 6 := by decide
    have g9 : (6 : Int32).toInt ≤ a1_1.toInt := Int32.le_iff_toInt_le.mp h_7
    have f10 : 0 ≤ (σ1_1.1 0 34).toInt ∧ (σ1_1.1 0 34).toInt ≤ 120 := hIσ1_1 0 34
    refine ok_lpc (I := fun n s => n = (2 * (121 - (s.1 0 34).toInt)).toNat + (1 - (s.1 0 5).toInt.natAbs) ∧ JM s ∧ Fr fr_fX10_block σ s) (fun rec59_3r n_3 s_3 hs_3 hrec_3 => ?_) K9 ((2 * (121 - (σ1_1.1 0 34).toInt)).toNat + (1 - (σ1_1.1 0 5).toInt.natAbs)) σ1_1 ⟨rfl, hIσ1_1, hfσ1_1⟩ (by unfold K9; omega)
    obtain ⟨σ1_3, hq_3⟩ : ∃ y, y = s_3 := ⟨_, rfl⟩
    subst hq_3
    obtain ⟨hn_3, hIσ1_3, hfσ1_3⟩ := hs_3
    skip
    unfold bX10_block_59
    try dsimp only
    refine ok_ite.mpr ⟨fun h_11 => ?_, fun h_11 => ?_⟩
    · have g12 : (σ1_3.1 0 5).toInt = (0 : Int32).toInt := by rw [h_11]
      refine ok_bd2.mpr ((o_fX10_look hIσ1_3  ).mono (fun o_13 ho_14 => ?_))
      obtain ⟨r17_4, σ18_4⟩ := o_13
      obtain ⟨hIσ18_4, hcσ18_4, hp_15⟩ := ho_14
      dsimp only at hIσ18_4 hcσ18_4 hp_15 ⊢
      have hfσ18_4 : Fr fr_fX10_block σ σ18_4 := Fr_c hfσ1_3 hcσ18_4 (by decide)
      have sσ18_4_0_1 : (σ18_4.1 0 1).toInt = (σ1_3.1 0 1).toInt := by rw [(hcσ18_4 0 1 (by decide) (by decide)).1]
      have sσ18_4_0_3 : (σ18_4.1 0 3).toInt = (σ1_3.1 0 3).toInt := by rw [(hcσ18_4 0 3 (by decide) (by decide)).1]
      have sσ18_4_0_5 : (σ18_4.1 0 5).toInt = (σ1_3.1 0 5).toInt := by rw [(hcσ18_4 0 5 (by decide) (by decide)).1]
      have sσ18_4_0_6 : (σ18_4.1 0 6).toInt = (σ1_3.1 0 6).toInt := by rw [(hcσ18_4 0 6 (by decide) (by decide)).1]
      have sσ18_4_0_34 : (σ18_4.1 0 34).toInt = (σ1_3.1 0 34).toInt := by rw [(hcσ18_4 0 34 (by decide) (by decide)).1]
      refine ok_ite.mpr ⟨fun h_16 => ?_, fun h_16 => ?_⟩
      · have g17 : r17_4.toInt = (-1 : Int32).toInt := by rw [h_16]
        try unfold jX10_block_81
        refine ok_nm2 (fun σ11_5 eσ11_5 => ?_)
        have hIσ11_5 : JM σ11_5 := by rw [eσ11_5]; exact JM_w hIσ18_4 (Int32.le_toInt _) (Int32.toInt_le _)
        have hfσ11_5 : Fr fr_fX10_block σ σ11_5 := by rw [eσ11_5]; exact Fr_w hfσ18_4 (by decide)
        have sσ11_5_0_1 : (σ11_5.1 0 1).toInt = (σ18_4.1 0 1).toInt := by rw [eσ11_5]; rfl
        have sσ11_5_0_2 : (σ11_5.1 0 2).toInt = (σ18_4.1 0 2).toInt := by rw [eσ11_5]; rfl
        have sσ11_5_0_3 : (σ11_5.1 0 3).toInt = (σ18_4.1 0 3).toInt := by rw [eσ11_5]; rfl
        have sσ11_5_0_5 : (σ11_5.1 0 5).toInt = (σ18_4.1 0 5).toInt := by rw [eσ11_5]; rfl
        have sσ11_5_0_6 : (σ11_5.1 0 6).toInt = (σ18_4.1 0 6).toInt := by rw [eσ11_5]; rfl
        have sσ11_5_0_34 : (σ11_5.1 0 34).toInt = (σ18_4.1 0 34).toInt := by rw [eσ11_5]; rfl
        refine ok_nm2 (fun σ12_5 eσ12_5 => ?_)
        have hIσ12_5 : JM σ12_5 := by rw [eσ12_5]; exact JM_w hIσ11_5 (Int32.le_toInt _) (Int32.toInt_le _)
        have hfσ12_5 : Fr fr_fX10_block σ σ12_5 := by rw [eσ12_5]; exact Fr_w hfσ11_5 (by decide)
        have sσ12_5_0_1 : (σ12_5.1 0 1).toInt = (σ11_5.1 0 1).toInt := by rw [eσ12_5]; rfl
        have sσ12_5_0_2 : (σ12_5.1 0 2).toInt = (σ11_5.1 0 2).toInt := by rw [eσ12_5]; rfl
        have sσ12_5_0_3 : (σ12_5.1 0 3).toInt = (σ11_5.1 0 3).toInt := by rw [eσ12_5]; rfl
        have sσ12_5_0_5 : (σ12_5.1 0 5).toInt = (σ11_5.1 0 5).toInt := by rw [eσ12_5]; rfl
        have sσ12_5_0_6 : (σ12_5.1 0 6).toInt = (σ11_5.1 0 6).toInt := by rw [eσ12_5]; rfl
        have sσ12_5_0_34 : (σ12_5.1 0 34).toInt = (σ11_5.1 0 34).toInt := by rw [eσ12_5]; rfl
        refine ok_ite.mpr ⟨fun h_18 => ?_, fun h_18 => ?_⟩
        · have g19 : (σ12_5.1 0 5).toInt = (0 : Int32).toInt := by rw [h_18]
          refine ok_bd.mpr ((o_fX10_stands hIσ12_5  ).mono (fun σ15_5 ho_21 => ?_))
          obtain ⟨hIσ15_5, hcσ15_5⟩ := ho_21
          have hfσ15_5 : Fr fr_fX10_block σ σ15_5 := Fr_c hfσ12_5 hcσ15_5 (by decide)
          have sσ15_5_0_1 : (σ15_5.1 0 1).toInt = (σ12_5.1 0 1).toInt := by rw [(hcσ15_5 0 1 (by decide) (by decide)).1]
          have sσ15_5_0_2 : (σ15_5.1 0 2).toInt = (σ12_5.1 0 2).toInt := by rw [(hcσ15_5 0 2 (by decide) (by decide)).1]
          have sσ15_5_0_3 : (σ15_5.1 0 3).toInt = (σ12_5.1 0 3).toInt := by rw [(hcσ15_5 0 3 (by decide) (by decide)).1]
          have sσ15_5_0_5 : (σ15_5.1 0 5).toInt = (σ12_5.1 0 5).toInt := by rw [(hcσ15_5 0 5 (by decide) (by decide)).1]
          have sσ15_5_0_6 : (σ15_5.1 0 6).toInt = (σ12_5.1 0 6).toInt := by rw [(hcσ15_5 0 6 (by decide) (by decide)).1]
          have sσ15_5_0_34 : (σ15_5.1 0 34).toInt = (σ12_5.1 0 34).toInt := by rw [(hcσ15_5 0 34 (by decide) (by decide)).1]
          refine ok_some.mpr ?_
          have f22 : 0 ≤ (σ15_5.1 0 34).toInt ∧ (σ15_5.1 0 34).toInt ≤ 120 := hIσ15_5 0 34
          exact ⟨hIσ15_5, hfσ15_5, (show -1 ≤ (σ15_5.1 0 34).toInt by omega), (show (σ15_5.1 0 34).toInt ≤ 120 by omega)⟩
        · have g23 : (σ12_5.1 0 5).toInt ≠ (0 : Int32).toInt := fun z => h_18 (Int32.toInt_inj.mp z)
          exfalso
          omega
      · have g24 : r17_4.toInt ≠ (-1 : Int32).toInt := fun z => h_16 (Int32.toInt_inj.mp z)
        refine ok_bd.mpr ((o_fX10_blockTold hIσ18_4  ).mono (fun σ21_4 ho_26 => ?_))
        obtain ⟨hIσ21_4, hcσ21_4, hp_27, hp_28⟩ := ho_26
        have hfσ21_4 : Fr fr_fX10_block σ σ21_4 := Fr_c hfσ18_4 hcσ21_4 (by decide)
        have sσ21_4_0_1 : (σ21_4.1 0 1).toInt = (σ18_4.1 0 1).toInt := by rw [(hcσ21_4 0 1 (by decide) (by decide)).1]
        have sσ21_4_0_3 : (σ21_4.1 0 3).toInt = (σ18_4.1 0 3).toInt := by rw [(hcσ21_4 0 3 (by decide) (by decide)).1]
        have f29 : 0 ≤ (σ21_4.1 0 34).toInt ∧ (σ21_4.1 0 34).toInt ≤ 120 := hIσ21_4 0 34
        exact hrec_3 _ σ21_4 (show (2 * (121 - (σ21_4.1 0 34).toInt)).toNat + (1 - (σ21_4.1 0 5).toInt.natAbs) < n_3 by omega) ⟨rfl, hIσ21_4, hfσ21_4⟩
    · have g30 : (σ1_3.1 0 5).toInt ≠ (0 : Int32).toInt := fun z => h_11 (Int32.toInt_inj.mp z)
      try unfold jX10_block_81
      refine ok_nm2 (fun σ11_6 eσ11_6 => ?_)
      have hIσ11_6 : JM σ11_6 := by rw [eσ11_6]; exact JM_w hIσ1_3 (Int32.le_toInt _) (Int32.toInt_le _)
      have hfσ11_6 : Fr fr_fX10_block σ σ11_6 := by rw [eσ11_6]; exact Fr_w hfσ1_3 (by decide)
      have sσ11_6_0_1 : (σ11_6.1 0 1).toInt = (σ1_3.1 0 1).toInt := by rw [eσ11_6]; rfl
      have sσ11_6_0_2 : (σ11_6.1 0 2).toInt = (σ1_3.1 0 2).toInt := by rw [eσ11_6]; rfl
      have sσ11_6_0_3 : (σ11_6.1 0 3).toInt = (σ1_3.1 0 3).toInt := by rw [eσ11_6]; rfl
      have sσ11_6_0_5 : (σ11_6.1 0 5).toInt = (σ1_3.1 0 5).toInt := by rw [eσ11_6]; rfl
      have sσ11_6_0_6 : (σ11_6.1 0 6).toInt = (σ1_3.1 0 6).toInt := by rw [eσ11_6]; rfl
      have sσ11_6_0_34 : (σ11_6.1 0 34).toInt = (σ1_3.1 0 34).toInt := by rw [eσ11_6]; rfl
      refine ok_nm2 (fun σ12_6 eσ12_6 => ?_)
      have hIσ12_6 : JM σ12_6 := by rw [eσ12_6]; exact JM_w hIσ11_6 (Int32.le_toInt _) (Int32.toInt_le _)
      have hfσ12_6 : Fr fr_fX10_block σ σ12_6 := by rw [eσ12_6]; exact Fr_w hfσ11_6 (by decide)
      have sσ12_6_0_1 : (σ12_6.1 0 1).toInt = (σ11_6.1 0 1).toInt := by rw [eσ12_6]; rfl
      have sσ12_6_0_2 : (σ12_6.1 0 2).toInt = (σ11_6.1 0 2).toInt := by rw [eσ12_6]; rfl
      have sσ12_6_0_3 : (σ12_6.1 0 3).toInt = (σ11_6.1 0 3).toInt := by rw [eσ12_6]; rfl
      have sσ12_6_0_5 : (σ12_6.1 0 5).toInt = (σ11_6.1 0 5).toInt := by rw [eσ12_6]; rfl
      have sσ12_6_0_6 : (σ12_6.1 0 6).toInt = (σ11_6.1 0 6).toInt := by rw [eσ12_6]; rfl
      have sσ12_6_0_34 : (σ12_6.1 0 34).toInt = (σ11_6.1 0 34).toInt := by rw [eσ12_6]; rfl
      refine ok_ite.mpr ⟨fun h_31 => ?_, fun h_31 => ?_⟩
      · have g32 : (σ12_6.1 0 5).toInt = (0 : Int32).toInt := by rw [h_31]
        refine ok_bd.mpr ((o_fX10_stands hIσ12_6  ).mono (fun σ15_6 ho_34 => ?_))
        obtain ⟨hIσ15_6, hcσ15_6⟩ := ho_34
        have hfσ15_6 : Fr fr_fX10_block σ σ15_6 := Fr_c hfσ12_6 hcσ15_6 (by decide)
        have sσ15_6_0_1 : (σ15_6.1 0 1).toInt = (σ12_6.1 0 1).toInt := by rw [(hcσ15_6 0 1 (by decide) (by decide)).1]
        have sσ15_6_0_2 : (σ15_6.1 0 2).toInt = (σ12_6.1 0 2).toInt := by rw [(hcσ15_6 0 2 (by decide) (by decide)).1]
        have sσ15_6_0_3 : (σ15_6.1 0 3).toInt = (σ12_6.1 0 3).toInt := by rw [(hcσ15_6 0 3 (by decide) (by decide)).1]
        have sσ15_6_0_5 : (σ15_6.1 0 5).toInt = (σ12_6.1 0 5).toInt := by rw [(hcσ15_6 0 5 (by decide) (by decide)).1]
        have sσ15_6_0_6 : (σ15_6.1 0 6).toInt = (σ12_6.1 0 6).toInt := by rw [(hcσ15_6 0 6 (by decide) (by decide)).1]
        have sσ15_6_0_34 : (σ15_6.1 0 34).toInt = (σ12_6.1 0 34).toInt := by rw [(hcσ15_6 0 34 (by decide) (by decide)).1]
        refine ok_some.mpr ?_
        have f35 : 0 ≤ (σ15_6.1 0 34).toInt ∧ (σ15_6.1 0 34).toInt ≤ 120 := hIσ15_6 0 34
        exact ⟨hIσ15_6, hfσ15_6, (show -1 ≤ (σ15_6.1 0 34).toInt by omega), (show (σ15_6.1 0 34).toInt ≤ 120 by omega)⟩
      · have g36 : (σ12_6.1 0 5).toInt ≠ (0 : Int32).toInt := fun z => h_31 (Int32.toInt_inj.mp z)
        refine ok_some.mpr ?_
        exact ⟨hIσ12_6, hfσ12_6, (show -1 ≤ (-1 : Int32).toInt by omega), (show (-1 : Int32).toInt ≤ 120 by omega)⟩
  · have f37 : (6 : Int32).toInt = 6 := by decide
    have g38 : ¬ (6 : Int32).toInt ≤ a1_1.toInt := fun z => h_7 (Int32.le_iff_toInt_le.mpr z)
    refine ok_gd.mpr ⟨gb_of (by omega) (by omega), ?_⟩
    refine ok_nm2 (fun σ22_2 eσ22_2 => ?_)
    have hIσ22_2 : JM σ22_2 := by
      have hz : a1_1.toNatClampNeg = a1_1.toInt.toNat := rfl
      have hj : a1_1.toNatClampNeg = 0 ∨ a1_1.toNatClampNeg = 1 ∨ a1_1.toNatClampNeg = 2 ∨ a1_1.toNatClampNeg = 3 ∨ a1_1.toNatClampNeg = 4 ∨ a1_1.toNatClampNeg = 5 := by omega
      rw [eσ22_2]
      refine JM_w hIσ1_1 ?_ ?_
      · rcases hj with hj | hj | hj | hj | hj | hj <;> rw [hj]
        · show 0 ≤ _; omega
        · show 0 ≤ _; omega
        · show 0 ≤ _; omega
        · show 0 ≤ _; omega
        · show -2147483648 ≤ _; omega
        · show -2147483648 ≤ _; omega
      · rcases hj with hj | hj | hj | hj | hj | hj <;> rw [hj]
        · show _ ≤ 6; omega
        · show _ ≤ 12; omega
        · show _ ≤ 20; omega
        · show _ ≤ 60; omega
        · show _ ≤ 2147483647; omega
        · show _ ≤ 2147483647; omega
    have hfσ22_2 : Fr fr_fX10_block σ σ22_2 := by rw [eσ22_2]; exact Fr_w0 hfσ1_1 (by decide)
    have sσ22_2_0_1 : (σ22_2.1 0 1).toInt = (σ1_1.1 0 1).toInt := by rw [eσ22_2]; rfl
    have sσ22_2_0_2 : (σ22_2.1 0 2).toInt = (σ1_1.1 0 2).toInt := by rw [eσ22_2]; rfl
    have sσ22_2_0_3 : (σ22_2.1 0 3).toInt = (σ1_1.1 0 3).toInt := by rw [eσ22_2]; rfl
    have sσ22_2_0_5 : (σ22_2.1 0 5).toInt = (σ1_1.1 0 5).toInt := by rw [eσ22_2]; rfl
    have sσ22_2_0_6 : (σ22_2.1 0 6).toInt = (σ1_1.1 0 6).toInt := by rw [eσ22_2]; rfl
    have sσ22_2_0_34 : (σ22_2.1 0 34).toInt = (σ1_1.1 0 34).toInt := by rw [eσ22_2]; rfl
    refine ok_nm2 (fun x23_2 ex23_2 => ?_)
    have f39 : (1 : Int32).toInt = 1 := by decide
    have f40 : (a1_1 + (1 : Int32)).toInt = a1_1.toInt + (1 : Int32).toInt := iadd_toInt (by omega) (by omega)
    have qx23_2 : x23_2.toInt = (a1_1 + 1).toInt := congrArg Int32.toInt ex23_2
    exact hrec_1 _ (x23_2, σ22_2) (show (6 + 1 - x23_2.toInt).toNat < n_1 by omega) ⟨rfl, hIσ22_2, hfσ22_2, (show 0 ≤ x23_2.toInt by omega), (show x23_2.toInt ≤ 6 by omega)⟩
set_option maxRecDepth 20000 in
set_option maxHeartbeats 2000000 in
theorem o_fX10_fault {σ : gS} (hIσ : JM σ) {p1 : Int32}  : Ok (fX10_fault σ p1) (fun _ => True) := by
  unfold fX10_fault
  refine ok_ite.mpr ⟨fun h_1 => ?_, fun h_1 => ?_⟩
  · have f2 : (0 : Int32).toInt = 0 := by decide
    have g3 : p1.toInt = (0 : Int32).toInt := by rw [h_1]
    refine ok_some.mpr ?_
    exact trivial
  · have f4 : (0 : Int32).toInt = 0 := by decide
    have g5 : p1.toInt ≠ (0 : Int32).toInt := fun z => h_1 (Int32.toInt_inj.mp z)
    refine ok_ite.mpr ⟨fun h_6 => ?_, fun h_6 => ?_⟩
    · have f7 : (1 : Int32).toInt = 1 := by decide
      have g8 : p1.toInt = (1 : Int32).toInt := by rw [h_6]
      refine ok_some.mpr ?_
      exact trivial
    · have f9 : (1 : Int32).toInt = 1 := by decide
      have g10 : p1.toInt ≠ (1 : Int32).toInt := fun z => h_6 (Int32.toInt_inj.mp z)
      refine ok_some.mpr ?_
      have f11 : (-1 : Int32).toInt = -1 := by decide
      exact trivial
set_option maxRecDepth 20000 in
set_option maxHeartbeats 2000000 in
theorem o_fX10_dropped {σ : gS} (hIσ : JM σ)   : Ok (fX10_dropped σ ) (fun _ => True) := by
  unfold fX10_dropped
  refine ok_nm2 (fun x1 ex1 => ?_)
  have f1 : (0 : Int32).toInt = 0 := by decide
  have qx1 : x1.toInt = 0 := by rw [ex1]; decide
  refine ok_nm2 (fun x2 ex2 => ?_)
  have qx2 : x2.toInt = 0 := by rw [ex2]; decide
  refine ok_lpc (I := fun n s => n = (60 + 1 - s.2.toInt).toNat ∧ 0 ≤ s.2.toInt ∧ s.2.toInt ≤ 60) (fun rec4_1r n_1 s_1 hs_1 hrec_1 => ?_) K9 ((60 + 1 - x2.toInt).toNat) (x1, x2) ⟨rfl, (show 0 ≤ x2.toInt by omega), (show x2.toInt ≤ 60 by omega)⟩ (by unfold K9; omega)
  obtain ⟨a1_1, a2_1⟩ := s_1
  obtain ⟨hn_1, b0a2_1, b1a2_1⟩ := hs_1
  dsimp only at hn_1 b0a2_1 b1a2_1
  unfold bX10_dropped_4
  try dsimp only
  refine ok_bd.mpr ?_
  try unfold fX10_rows
  have f2 : (9 : Int32).toInt = 9 := by decide
  refine ok_gd.mpr ⟨gb_of (by omega) (by omega), ?_⟩
  refine ok_nm2 (fun v1_31 ev1_31 => ?_)
  have f3 : 0 ≤ (σ.1 15 9).toInt ∧ (σ.1 15 9).toInt ≤ 60 := hIσ 15 9
  have qv1_31 : v1_31.toInt = (σ.1 15 9).toInt := congrArg Int32.toInt ev1_31
  refine ok_some.mpr ?_
  refine ok_ite.mpr ⟨fun h_4 => ?_, fun h_4 => ?_⟩
  · have g5 : v1_31.toInt ≤ a2_1.toInt := Int32.le_iff_toInt_le.mp h_4
    refine ok_some.mpr ?_
    exact trivial
  · have g6 : ¬ v1_31.toInt ≤ a2_1.toInt := fun z => h_4 (Int32.le_iff_toInt_le.mpr z)
    refine ok_gd.mpr ⟨gb_of (by omega) (by omega), ?_⟩
    refine ok_nm2 (fun v6_30_32 ev6_30_32 => ?_)
    have qv6_30_32 : v6_30_32.toInt = (σ.1 26 a2_1.toNatClampNeg).toInt := congrArg Int32.toInt ev6_30_32
    refine ok_ite.mpr ⟨fun h_7 => ?_, fun h_7 => ?_⟩
    · have g8 : v6_30_32.toInt = (0 : Int32).toInt := by rw [h_7]
      refine ok_nm2 (fun x8_30_32 ex8_30_32 => ?_)
      have f9 : (1 : Int32).toInt = 1 := by decide
      have f10 : (a2_1 + (1 : Int32)).toInt = a2_1.toInt + (1 : Int32).toInt := iadd_toInt (by omega) (by omega)
      have qx8_30_32 : x8_30_32.toInt = (a2_1 + 1).toInt := congrArg Int32.toInt ex8_30_32
      exact hrec_1 _ (a1_1, x8_30_32) (show (60 + 1 - x8_30_32.toInt).toNat < n_1 by omega) ⟨rfl, (show 0 ≤ x8_30_32.toInt by omega), (show x8_30_32.toInt ≤ 60 by omega)⟩
    · have g11 : v6_30_32.toInt ≠ (0 : Int32).toInt := fun z => h_7 (Int32.toInt_inj.mp z)
      refine ok_nm2 (fun x9_30_32 ex9_30_32 => ?_)
      have f12 : (1 : Int32).toInt = 1 := by decide
      have qx9_30_32 : x9_30_32.toInt = (a1_1 + 1).toInt := congrArg Int32.toInt ex9_30_32
      refine ok_nm2 (fun x10_30_32 ex10_30_32 => ?_)
      have f13 : (a2_1 + (1 : Int32)).toInt = a2_1.toInt + (1 : Int32).toInt := iadd_toInt (by omega) (by omega)
      have qx10_30_32 : x10_30_32.toInt = (a2_1 + 1).toInt := congrArg Int32.toInt ex10_30_32
      exact hrec_1 _ (x9_30_32, x10_30_32) (show (60 + 1 - x10_30_32.toInt).toNat < n_1 by omega) ⟨rfl, (show 0 ≤ x10_30_32.toInt by omega), (show x10_30_32.toInt ≤ 60 by omega)⟩
set_option maxRecDepth 20000 in
set_option maxHeartbeats 2000000 in
theorem o_fX10_controls {σ : gS} (hIσ : JM σ)   : Ok (fX10_controls σ ) (fun _ => True) := by
  unfold fX10_controls
  refine ok_nm2 (fun x1 ex1 => ?_)
  have f1 : (0 : Int32).toInt = 0 := by decide
  have qx1 : x1.toInt = 0 := by rw [ex1]; decide
  refine ok_nm2 (fun x2 ex2 => ?_)
  have qx2 : x2.toInt = 0 := by rw [ex2]; decide
  refine ok_lpc (I := fun n s => n = (20 + 1 - s.2.toInt).toNat ∧ 0 ≤ s.2.toInt ∧ s.2.toInt ≤ 20) (fun rec4_1r n_1 s_1 hs_1 hrec_1 => ?_) K9 ((20 + 1 - x2.toInt).toNat) (x1, x2) ⟨rfl, (show 0 ≤ x2.toInt by omega), (show x2.toInt ≤ 20 by omega)⟩ (by unfold K9; omega)
  obtain ⟨a1_1, a2_1⟩ := s_1
  obtain ⟨hn_1, b0a2_1, b1a2_1⟩ := hs_1
  dsimp only at hn_1 b0a2_1 b1a2_1
  unfold bX10_controls_4
  try dsimp only
  refine ok_bd.mpr ?_
  try unfold fX10_points
  have f2 : (8 : Int32).toInt = 8 := by decide
  refine ok_gd.mpr ⟨gb_of (by omega) (by omega), ?_⟩
  refine ok_nm2 (fun v1_59 ev1_59 => ?_)
  have f3 : 0 ≤ (σ.1 15 8).toInt ∧ (σ.1 15 8).toInt ≤ 20 := hIσ 15 8
  have qv1_59 : v1_59.toInt = (σ.1 15 8).toInt := congrArg Int32.toInt ev1_59
  refine ok_some.mpr ?_
  refine ok_ite.mpr ⟨fun h_4 => ?_, fun h_4 => ?_⟩
  · have g5 : v1_59.toInt ≤ a2_1.toInt := Int32.le_iff_toInt_le.mp h_4
    refine ok_some.mpr ?_
    exact trivial
  · have g6 : ¬ v1_59.toInt ≤ a2_1.toInt := fun z => h_4 (Int32.le_iff_toInt_le.mpr z)
    refine ok_bd.mpr ?_
    try unfold fX10_isControl
    have f7 : (20 : Int32).toInt = 20 := by decide
    have f8 : ((20 : Int32) + a2_1).toInt = (20 : Int32).toInt + a2_1.toInt := iadd_toInt (by omega) (by omega)
    refine ok_gd.mpr ⟨gb_of (by omega) (by omega), ?_⟩
    refine ok_nm2 (fun v1_61 ev1_61 => ?_)
    have qv1_61 : v1_61.toInt = (σ.1 20 (20 + a2_1).toNatClampNeg).toInt := congrArg Int32.toInt ev1_61
    refine ok_nm.mpr ?_
    refine ok_ite.mpr ⟨fun h_9 => ?_, fun h_9 => ?_⟩
    · have g10 : v1_61.toInt = (0 : Int32).toInt := by rw [h_9]
      refine ok_some.mpr ?_
      refine ok_ite.mpr ⟨fun h_11 => ?_, fun h_11 => ?_⟩
      · have g12 : (0 : Int32).toInt = (0 : Int32).toInt := by rw [h_11]
        refine ok_nm2 (fun x9_58_60_62_63 ex9_58_60_62_63 => ?_)
        have f13 : (1 : Int32).toInt = 1 := by decide
        have f14 : (a2_1 + (1 : Int32)).toInt = a2_1.toInt + (1 : Int32).toInt := iadd_toInt (by omega) (by omega)
        have qx9_58_60_62_63 : x9_58_60_62_63.toInt = (a2_1 + 1).toInt := congrArg Int32.toInt ex9_58_60_62_63
        exact hrec_1 _ (a1_1, x9_58_60_62_63) (show (20 + 1 - x9_58_60_62_63.toInt).toNat < n_1 by omega) ⟨rfl, (show 0 ≤ x9_58_60_62_63.toInt by omega), (show x9_58_60_62_63.toInt ≤ 20 by omega)⟩
      · have g15 : (0 : Int32).toInt ≠ (0 : Int32).toInt := fun z => h_11 (Int32.toInt_inj.mp z)
        exfalso
        omega
    · have g16 : v1_61.toInt ≠ (0 : Int32).toInt := fun z => h_9 (Int32.toInt_inj.mp z)
      refine ok_ite.mpr ⟨fun h_17 => ?_, fun h_17 => ?_⟩
      · have f18 : 0 ≤ (((σ.1 0 36) >>> ((v1_61 - 1) &&& 31)) &&& 1).toInt ∧ (((σ.1 0 36) >>> ((v1_61 - 1) &&& 31)) &&& 1).toInt ≤ 1 := iand_toInt (by decide) (by decide)
        have f19 : (1 : Int32).toInt = 1 := by decide
        have g20 : (((σ.1 0 36) >>> ((v1_61 - 1) &&& 31)) &&& 1).toInt = (1 : Int32).toInt := by rw [h_17]
        refine ok_some.mpr ?_
        refine ok_ite.mpr ⟨fun h_21 => ?_, fun h_21 => ?_⟩
        · have g22 : (1 : Int32).toInt = (0 : Int32).toInt := by rw [h_21]
          exfalso
          omega
        · have g23 : (1 : Int32).toInt ≠ (0 : Int32).toInt := fun z => h_21 (Int32.toInt_inj.mp z)
          refine ok_nm2 (fun x10_58_60_62_64 ex10_58_60_62_64 => ?_)
          have qx10_58_60_62_64 : x10_58_60_62_64.toInt = (a1_1 + 1).toInt := congrArg Int32.toInt ex10_58_60_62_64
          refine ok_nm2 (fun x11_58_60_62_64 ex11_58_60_62_64 => ?_)
          have f24 : (a2_1 + (1 : Int32)).toInt = a2_1.toInt + (1 : Int32).toInt := iadd_toInt (by omega) (by omega)
          have qx11_58_60_62_64 : x11_58_60_62_64.toInt = (a2_1 + 1).toInt := congrArg Int32.toInt ex11_58_60_62_64
          exact hrec_1 _ (x10_58_60_62_64, x11_58_60_62_64) (show (20 + 1 - x11_58_60_62_64.toInt).toNat < n_1 by omega) ⟨rfl, (show 0 ≤ x11_58_60_62_64.toInt by omega), (show x11_58_60_62_64.toInt ≤ 20 by omega)⟩
      · have f25 : 0 ≤ (((σ.1 0 36) >>> ((v1_61 - 1) &&& 31)) &&& 1).toInt ∧ (((σ.1 0 36) >>> ((v1_61 - 1) &&& 31)) &&& 1).toInt ≤ 1 := iand_toInt (by decide) (by decide)
        have f26 : (1 : Int32).toInt = 1 := by decide
        have g27 : (((σ.1 0 36) >>> ((v1_61 - 1) &&& 31)) &&& 1).toInt ≠ (1 : Int32).toInt := fun z => h_17 (Int32.toInt_inj.mp z)
        refine ok_some.mpr ?_
        refine ok_ite.mpr ⟨fun h_28 => ?_, fun h_28 => ?_⟩
        · have g29 : (0 : Int32).toInt = (0 : Int32).toInt := by rw [h_28]
          refine ok_nm2 (fun x9_58_60_62_65 ex9_58_60_62_65 => ?_)
          have f30 : (a2_1 + (1 : Int32)).toInt = a2_1.toInt + (1 : Int32).toInt := iadd_toInt (by omega) (by omega)
          have qx9_58_60_62_65 : x9_58_60_62_65.toInt = (a2_1 + 1).toInt := congrArg Int32.toInt ex9_58_60_62_65
          exact hrec_1 _ (a1_1, x9_58_60_62_65) (show (20 + 1 - x9_58_60_62_65.toInt).toNat < n_1 by omega) ⟨rfl, (show 0 ≤ x9_58_60_62_65.toInt by omega), (show x9_58_60_62_65.toInt ≤ 20 by omega)⟩
        · have g31 : (0 : Int32).toInt ≠ (0 : Int32).toInt := fun z => h_28 (Int32.toInt_inj.mp z)
          exfalso
          omega
set_option maxRecDepth 20000 in
set_option maxHeartbeats 2000000 in
theorem o_fX10_has {σ : gS} (hIσ : JM σ) {p1 : Int32}  : Ok (fX10_has σ p1) (fun _ => True) := by
  unfold fX10_has
  refine ok_ite.mpr ⟨fun h_1 => ?_, fun h_1 => ?_⟩
  · have f2 : (0 : Int32).toInt = 0 := by decide
    have g3 : p1.toInt = (0 : Int32).toInt := by rw [h_1]
    try unfold jX10_has_52
    have f4 : (6 : Int32).toInt = 6 := by decide
    have f5 : ((6 : Int32) + p1).toInt = (6 : Int32).toInt + p1.toInt := iadd_toInt (by omega) (by omega)
    refine ok_gd.mpr ⟨gb_of (by omega) (by omega), ?_⟩
    refine ok_nm2 (fun v1_1 ev1_1 => ?_)
    have f7 : (6 + p1).toNatClampNeg = (6 + p1).toInt.toNat := rfl
    have f7_ : ((6 + p1).toNatClampNeg = 6 ∧ 0 ≤ (σ.1 15 (6 + p1).toNatClampNeg).toInt ∧ (σ.1 15 (6 + p1).toNatClampNeg).toInt ≤ 6) := by
      have hb := hIσ 15 (6 + p1).toNatClampNeg
      have hj : (6 + p1).toNatClampNeg = 6 := by omega
      generalize (6 + p1).toNatClampNeg = j at hb hj ⊢
      obtain rfl := hj
      exact ⟨rfl, hb.1, hb.2⟩
    have qv1_1 : v1_1.toInt = (σ.1 15 (6 + p1).toNatClampNeg).toInt := congrArg Int32.toInt ev1_1
    refine ok_some.mpr ?_
    exact trivial
  · have f8 : (0 : Int32).toInt = 0 := by decide
    have g9 : p1.toInt ≠ (0 : Int32).toInt := fun z => h_1 (Int32.toInt_inj.mp z)
    refine ok_ite.mpr ⟨fun h_10 => ?_, fun h_10 => ?_⟩
    · have f11 : (1 : Int32).toInt = 1 := by decide
      have g12 : p1.toInt = (1 : Int32).toInt := by rw [h_10]
      try unfold jX10_has_52
      have f13 : (6 : Int32).toInt = 6 := by decide
      have f14 : ((6 : Int32) + p1).toInt = (6 : Int32).toInt + p1.toInt := iadd_toInt (by omega) (by omega)
      refine ok_gd.mpr ⟨gb_of (by omega) (by omega), ?_⟩
      refine ok_nm2 (fun v1_2 ev1_2 => ?_)
      have f16 : (6 + p1).toNatClampNeg = (6 + p1).toInt.toNat := rfl
      have f16_ : ((6 + p1).toNatClampNeg = 7 ∧ 0 ≤ (σ.1 15 (6 + p1).toNatClampNeg).toInt ∧ (σ.1 15 (6 + p1).toNatClampNeg).toInt ≤ 12) := by
        have hb := hIσ 15 (6 + p1).toNatClampNeg
        have hj : (6 + p1).toNatClampNeg = 7 := by omega
        generalize (6 + p1).toNatClampNeg = j at hb hj ⊢
        obtain rfl := hj
        exact ⟨rfl, hb.1, hb.2⟩
      have qv1_2 : v1_2.toInt = (σ.1 15 (6 + p1).toNatClampNeg).toInt := congrArg Int32.toInt ev1_2
      refine ok_some.mpr ?_
      exact trivial
    · have f17 : (1 : Int32).toInt = 1 := by decide
      have g18 : p1.toInt ≠ (1 : Int32).toInt := fun z => h_10 (Int32.toInt_inj.mp z)
      refine ok_ite.mpr ⟨fun h_19 => ?_, fun h_19 => ?_⟩
      · have f20 : (2 : Int32).toInt = 2 := by decide
        have g21 : p1.toInt = (2 : Int32).toInt := by rw [h_19]
        try unfold jX10_has_52
        have f22 : (6 : Int32).toInt = 6 := by decide
        have f23 : ((6 : Int32) + p1).toInt = (6 : Int32).toInt + p1.toInt := iadd_toInt (by omega) (by omega)
        refine ok_gd.mpr ⟨gb_of (by omega) (by omega), ?_⟩
        refine ok_nm2 (fun v1_3 ev1_3 => ?_)
        have f25 : (6 + p1).toNatClampNeg = (6 + p1).toInt.toNat := rfl
        have f25_ : ((6 + p1).toNatClampNeg = 8 ∧ 0 ≤ (σ.1 15 (6 + p1).toNatClampNeg).toInt ∧ (σ.1 15 (6 + p1).toNatClampNeg).toInt ≤ 20) := by
          have hb := hIσ 15 (6 + p1).toNatClampNeg
          have hj : (6 + p1).toNatClampNeg = 8 := by omega
          generalize (6 + p1).toNatClampNeg = j at hb hj ⊢
          obtain rfl := hj
          exact ⟨rfl, hb.1, hb.2⟩
        have qv1_3 : v1_3.toInt = (σ.1 15 (6 + p1).toNatClampNeg).toInt := congrArg Int32.toInt ev1_3
        refine ok_some.mpr ?_
        exact trivial
      · have f26 : (2 : Int32).toInt = 2 := by decide
        have g27 : p1.toInt ≠ (2 : Int32).toInt := fun z => h_19 (Int32.toInt_inj.mp z)
        refine ok_ite.mpr ⟨fun h_28 => ?_, fun h_28 => ?_⟩
        · have f29 : (3 : Int32).toInt = 3 := by decide
          have g30 : p1.toInt = (3 : Int32).toInt := by rw [h_28]
          try unfold jX10_has_52
          have f31 : (6 : Int32).toInt = 6 := by decide
          have f32 : ((6 : Int32) + p1).toInt = (6 : Int32).toInt + p1.toInt := iadd_toInt (by omega) (by omega)
          refine ok_gd.mpr ⟨gb_of (by omega) (by omega), ?_⟩
          refine ok_nm2 (fun v1_4 ev1_4 => ?_)
          have f34 : (6 + p1).toNatClampNeg = (6 + p1).toInt.toNat := rfl
          have f34_ : ((6 + p1).toNatClampNeg = 9 ∧ 0 ≤ (σ.1 15 (6 + p1).toNatClampNeg).toInt ∧ (σ.1 15 (6 + p1).toNatClampNeg).toInt ≤ 60) := by
            have hb := hIσ 15 (6 + p1).toNatClampNeg
            have hj : (6 + p1).toNatClampNeg = 9 := by omega
            generalize (6 + p1).toNatClampNeg = j at hb hj ⊢
            obtain rfl := hj
            exact ⟨rfl, hb.1, hb.2⟩
          have qv1_4 : v1_4.toInt = (σ.1 15 (6 + p1).toNatClampNeg).toInt := congrArg Int32.toInt ev1_4
          refine ok_some.mpr ?_
          exact trivial
        · have f35 : (3 : Int32).toInt = 3 := by decide
          have g36 : p1.toInt ≠ (3 : Int32).toInt := fun z => h_28 (Int32.toInt_inj.mp z)
          refine ok_ite.mpr ⟨fun h_37 => ?_, fun h_37 => ?_⟩
          · have f38 : (4 : Int32).toInt = 4 := by decide
            have g39 : p1.toInt = (4 : Int32).toInt := by rw [h_37]
            try unfold jX10_has_52
            have f40 : (6 : Int32).toInt = 6 := by decide
            have f41 : ((6 : Int32) + p1).toInt = (6 : Int32).toInt + p1.toInt := iadd_toInt (by omega) (by omega)
            refine ok_gd.mpr ⟨gb_of (by omega) (by omega), ?_⟩
            refine ok_nm2 (fun v1_5 ev1_5 => ?_)
            have qv1_5 : v1_5.toInt = (σ.1 15 (6 + p1).toNatClampNeg).toInt := congrArg Int32.toInt ev1_5
            refine ok_some.mpr ?_
            exact trivial
          · have f42 : (4 : Int32).toInt = 4 := by decide
            have g43 : p1.toInt ≠ (4 : Int32).toInt := fun z => h_37 (Int32.toInt_inj.mp z)
            refine ok_ite.mpr ⟨fun h_44 => ?_, fun h_44 => ?_⟩
            · have f45 : (5 : Int32).toInt = 5 := by decide
              have g46 : p1.toInt = (5 : Int32).toInt := by rw [h_44]
              try unfold jX10_has_52
              have f47 : (6 : Int32).toInt = 6 := by decide
              have f48 : ((6 : Int32) + p1).toInt = (6 : Int32).toInt + p1.toInt := iadd_toInt (by omega) (by omega)
              refine ok_gd.mpr ⟨gb_of (by omega) (by omega), ?_⟩
              refine ok_nm2 (fun v1_6 ev1_6 => ?_)
              have qv1_6 : v1_6.toInt = (σ.1 15 (6 + p1).toNatClampNeg).toInt := congrArg Int32.toInt ev1_6
              refine ok_some.mpr ?_
              exact trivial
            · have f49 : (5 : Int32).toInt = 5 := by decide
              have g50 : p1.toInt ≠ (5 : Int32).toInt := fun z => h_44 (Int32.toInt_inj.mp z)
              refine ok_ite.mpr ⟨fun h_51 => ?_, fun h_51 => ?_⟩
              · have f52 : (6 : Int32).toInt = 6 := by decide
                have g53 : p1.toInt = (6 : Int32).toInt := by rw [h_51]
                refine ok_bd.mpr ((o_fX10_dropped hIσ  ).mono (fun r9 ho_55 => ?_))
                refine ok_some.mpr ?_
                exact trivial
              · have f56 : (6 : Int32).toInt = 6 := by decide
                have g57 : p1.toInt ≠ (6 : Int32).toInt := fun z => h_51 (Int32.toInt_inj.mp z)
                refine ok_ite.mpr ⟨fun h_58 => ?_, fun h_58 => ?_⟩
                · have f59 : (7 : Int32).toInt = 7 := by decide
                  have g60 : p1.toInt = (7 : Int32).toInt := by rw [h_58]
                  refine ok_some.mpr ?_
                  exact trivial
                · have f61 : (7 : Int32).toInt = 7 := by decide
                  have g62 : p1.toInt ≠ (7 : Int32).toInt := fun z => h_58 (Int32.toInt_inj.mp z)
                  refine ok_ite.mpr ⟨fun h_63 => ?_, fun h_63 => ?_⟩
                  · have f64 : (8 : Int32).toInt = 8 := by decide
                    have g65 : p1.toInt = (8 : Int32).toInt := by rw [h_63]
                    refine ok_bd.mpr ((o_fX10_controls hIσ  ).mono (fun r13 ho_67 => ?_))
                    refine ok_some.mpr ?_
                    exact trivial
                  · have f68 : (8 : Int32).toInt = 8 := by decide
                    have g69 : p1.toInt ≠ (8 : Int32).toInt := fun z => h_63 (Int32.toInt_inj.mp z)
                    refine ok_some.mpr ?_
                    have f70 : (-1 : Int32).toInt = -1 := by decide
                    exact trivial
theorem w9_letter105 (σ : gS) (k : Int32) (v : Int64) {m : Int32} (hm : m.toInt ≤ 100) (hk : 0 ≤ k.toInt) : Ok (lpc (S := Int64 × Int32) K9 (fun rec s => bX10_letter_105 σ k (fun a4 a7 => rec (a4, a7)) s.1 s.2) (v, m)) (fun _ => True) := by
  refine ok_lpc (I := fun (n : Nat) (s : Int64 × Int32) => n = (s.2.toInt).toNat ∧ s.2.toInt ≤ 100) (fun rec n s hs hrec => ?_) K9 m.toInt.toNat (v, m) ⟨rfl, hm⟩ (by unfold K9; omega)
  obtain ⟨w, q⟩ := s
  obtain ⟨hn, h1⟩ := hs
  dsimp only at hn h1 ⊢
  unfold bX10_letter_105
  refine ok_ite.mpr ⟨fun _ => ok_some.mpr trivial, fun h => ok_nm.mpr (ok_nm.mpr ?_)⟩
  have hq : k.toInt < q.toInt := by
    have := q_gt h
    omega
  have l1 : (-1 : Int32).toInt = -1 := by decide
  have e1 : (q + (-1)).toInt = q.toInt + -1 := by rw [iadd_toInt] <;> omega
  exact hrec (q + (-1)).toInt.toNat (_, q + (-1)) (by omega) ⟨rfl, show (q + (-1)).toInt ≤ 100 by omega⟩
theorem w9_letter70 (σ : gS) {k : Int32} (v : Int64) (hk : 0 ≤ k.toInt) : Ok (lpc (S := Int32 × Int64) K9 (fun rec s => bX10_letter_70 σ k v (fun a6 a7 => rec (a6, a7)) s.1 s.2) (0, v)) (fun _ => True) := by
  have l0 : (0 : Int64).toInt = 0 := by decide
  have l27 : (27 : Int64).toInt = 27 := by decide
  have hv := i64_hi v
  refine ok_lpc (I := fun (n : Nat) (s : Int32 × Int64) => n ≤ 14 ∧ s.1.toInt = 14 - n ∧ s.2.toInt < 27 ^ n) (fun rec n s hs hrec => ?_) K9 14 (0, v) ⟨by first | decide | (dsimp only; decide), by first | decide | (dsimp only; decide), show v.toInt < 27 ^ 14 by omega⟩ (by unfold K9; decide)
  obtain ⟨c, w⟩ := s
  obtain ⟨hn, h1, h2⟩ := hs
  dsimp only at hn h1 h2 ⊢
  unfold bX10_letter_70
  refine ok_ite.mpr ⟨fun _ => ok_ite.mpr ⟨fun _ => ok_nm.mpr ?_, fun _ => ok_some.mpr trivial⟩, fun h => ok_nm.mpr (ok_nm.mpr ?_)⟩
  · have l1 : (1 : Int32).toInt = 1 := by decide
    have e1 : (c - 1).toInt = c.toInt - 1 := by rw [isub_toInt] <;> omega
    exact w9_letter105 σ k v (by omega) hk
  · have hw : 0 < w.toInt := by
      have := q_lgt h
      omega
    obtain ⟨n, rfl⟩ : ∃ n', n = n' + 1 := by
      cases n with
      | zero => simp at h2; omega
      | succ n => exact ⟨n, rfl⟩
    have e1 : (c + 1).toInt = c.toInt + 1 := i_inc (c := 14) (by omega) (by omega) (by decide)
    have e2 : (w / 27).toInt = w.toInt / 27 := by rw [ldiv_nn (by omega) (by omega), l27]
    have h3 : w.toInt / 27 < 27 ^ n := by
      have : (27 : Int) ^ (n + 1) = 27 ^ n * 27 := by rw [Int.pow_succ]
      omega
    exact hrec n (c + 1, w / 27) (by omega) ⟨by omega, show (c + 1).toInt = 14 - (n : Int) by omega, show (w / 27).toInt < 27 ^ n by omega⟩
theorem o_fX10_letter {σ : gS} (hIσ : JM σ) {p1 : Int32} {p2 : Int32} {p3 : Int32}  : Ok (fX10_letter σ p1 p2 p3) (fun _ => True) := by
  have hm := hIσ 15
  unfold fX10_letter
  have l0 : (0 : Int64).toInt = 0 := by decide
  have l2 : (2 : Int64).toInt = 2 := by decide
  have l5 : (5 : Int64).toInt = 5 := by decide
  have e1 : p1.toInt64.toInt = p1.toInt := Int32.toInt_toInt64 _
  have e2 : p2.toInt64.toInt = p2.toInt := Int32.toInt_toInt64 _
  have e3 : p3.toInt64.toInt = p3.toInt := Int32.toInt_toInt64 _
  have l6 : (6 : Int32).toInt = 6 := by decide
  rcases m_isIn σ p1.toInt64 0 2 with ⟨h, a1, a2⟩ | ⟨h, -⟩
  · have d1 : (6 + p1).toInt = 6 + p1.toInt := by rw [iadd_toInt] <;> omega
    refine ok_bde h (ok_ite.mpr ⟨fun _ => ok_some.mpr trivial, fun _ => ok_gd.mpr ⟨gb_of (by omega) (by omega), ok_nm.mpr ?_⟩⟩)
    have hc : (σ.1 15 (6 + p1).toNatClampNeg).toInt ≤ 20 := by
      rw [n_toInt]
      have hj : (6 + p1).toInt.toNat = 6 ∨ (6 + p1).toInt.toNat = 7 ∨ (6 + p1).toInt.toNat = 8 := by omega
      rcases hj with hj | hj | hj <;> rw [hj]
      · have := (hm 6).2
        exact Int.le_trans this (by decide)
      · have := (hm 7).2
        exact Int.le_trans this (by decide)
      · exact (hm 8).2
    have hc0 : 0 ≤ (σ.1 15 (6 + p1).toNatClampNeg).toInt := by
      rw [n_toInt]
      have hj : (6 + p1).toInt.toNat = 6 ∨ (6 + p1).toInt.toNat = 7 ∨ (6 + p1).toInt.toNat = 8 := by omega
      rcases hj with hj | hj | hj <;> rw [hj]
      · exact (hm 6).1
      · exact (hm 7).1
      · exact (hm 8).1
    generalize σ.1 15 (6 + p1).toNatClampNeg = m at hc hc0 ⊢
    have l1 : (1 : Int32).toInt = 1 := by decide
    have em : (m - 1).toInt = m.toInt - 1 := by rw [isub_toInt] <;> omega
    have em2 : (m - 1).toInt64.toInt = (m - 1).toInt := Int32.toInt_toInt64 _
    rcases m_isIn σ p2.toInt64 0 ((m - 1).toInt64) with ⟨h, b1, b2⟩ | ⟨h, -⟩
    · refine ok_bde h (ok_ite.mpr ⟨fun _ => ok_some.mpr trivial, fun _ => ?_⟩)
      rcases m_isIn σ p3.toInt64 0 5 with ⟨h, c1, c2⟩ | ⟨h, -⟩
      · refine ok_bde h (ok_ite.mpr ⟨fun _ => ok_some.mpr trivial, fun _ => ?_⟩)
        have l20 : (20 : Int32).toInt = 20 := by decide
        have l60 : (60 : Int32).toInt = 60 := by decide
        have f1 : (20 * p1).toInt = 20 * p1.toInt := imulc (by decide) (by omega) (by omega)
        have f2 : (60 + 20 * p1).toInt = 60 + (20 * p1).toInt := by rw [iadd_toInt] <;> omega
        have f3 : (60 + 20 * p1 + p2).toInt = (60 + 20 * p1).toInt + p2.toInt := by rw [iadd_toInt] <;> omega
        refine ok_gd.mpr ⟨gb_of (by omega) (by omega), ok_nm.mpr (ok_nm.mpr (ok_nm.mpr (ok_nm.mpr ?_)))⟩
        exact w9_letter70 σ _ (by omega)
      · exact ok_bde h (ok_ite.mpr ⟨fun _ => ok_some.mpr trivial, fun z => absurd rfl z⟩)
    · exact ok_bde h (ok_ite.mpr ⟨fun _ => ok_some.mpr trivial, fun z => absurd rfl z⟩)
  · exact ok_bde h (ok_ite.mpr ⟨fun _ => ok_some.mpr trivial, fun z => absurd rfl z⟩)
set_option maxRecDepth 20000 in
set_option maxHeartbeats 2000000 in
theorem o_fX10_isPicture {σ : gS} (hIσ : JM σ) {p1 : Int32}  : Ok (fX10_isPicture σ p1) (fun out => 0 ≤ out.toInt ∧ out.toInt ≤ 1) := by
  unfold fX10_isPicture
  refine ok_bd.mpr ?_
  try unfold fX10_pictures
  have f1 : (7 : Int32).toInt = 7 := by decide
  refine ok_gd.mpr ⟨gb_of (by omega) (by omega), ?_⟩
  refine ok_nm2 (fun v1_1 ev1_1 => ?_)
  have f2 : 0 ≤ (σ.1 15 7).toInt ∧ (σ.1 15 7).toInt ≤ 12 := hIσ 15 7
  have qv1_1 : v1_1.toInt = (σ.1 15 7).toInt := congrArg Int32.toInt ev1_1
  refine ok_some.mpr ?_
  refine ok_bd.mpr ?_
  try unfold fX10_isIn
  refine ok_ite.mpr ⟨fun h_3 => ?_, fun h_3 => ?_⟩
  · have f4 : p1.toInt64.toInt = p1.toInt := Int32.toInt_toInt64 _
    have f5 : (0 : Int64).toInt = 0 := by decide
    have g6 : p1.toInt64.toInt < (0 : Int64).toInt := Int64.lt_iff_toInt_lt.mp h_3
    refine ok_some.mpr ?_
    refine ok_some.mpr ?_
    have f7 : (vp_nar .boolean 0).toInt = 0 := by decide
    exact ⟨(show 0 ≤ (vp_nar .boolean 0).toInt by omega), (show (vp_nar .boolean 0).toInt ≤ 1 by omega)⟩
  · have f8 : p1.toInt64.toInt = p1.toInt := Int32.toInt_toInt64 _
    have f9 : (0 : Int64).toInt = 0 := by decide
    have g10 : ¬ p1.toInt64.toInt < (0 : Int64).toInt := fun z => h_3 (Int64.lt_iff_toInt_lt.mpr z)
    refine ok_ite.mpr ⟨fun h_11 => ?_, fun h_11 => ?_⟩
    · have f12 : (1 : Int32).toInt = 1 := by decide
      have f13 : (v1_1 - (1 : Int32)).toInt = v1_1.toInt - (1 : Int32).toInt := isub_toInt (by omega) (by omega)
      have f14 : (v1_1 - 1).toInt64.toInt = (v1_1 - 1).toInt := Int32.toInt_toInt64 _
      have g15 : (v1_1 - 1).toInt64.toInt < p1.toInt64.toInt := Int64.lt_iff_toInt_lt.mp h_11
      refine ok_some.mpr ?_
      refine ok_some.mpr ?_
      have f16 : (vp_nar .boolean 0).toInt = 0 := by decide
      exact ⟨(show 0 ≤ (vp_nar .boolean 0).toInt by omega), (show (vp_nar .boolean 0).toInt ≤ 1 by omega)⟩
    · have f17 : (1 : Int32).toInt = 1 := by decide
      have f18 : (v1_1 - (1 : Int32)).toInt = v1_1.toInt - (1 : Int32).toInt := isub_toInt (by omega) (by omega)
      have f19 : (v1_1 - 1).toInt64.toInt = (v1_1 - 1).toInt := Int32.toInt_toInt64 _
      have g20 : ¬ (v1_1 - 1).toInt64.toInt < p1.toInt64.toInt := fun z => h_11 (Int64.lt_iff_toInt_lt.mpr z)
      refine ok_some.mpr ?_
      refine ok_some.mpr ?_
      have f21 : (vp_nar .boolean 1).toInt = 1 := by decide
      exact ⟨(show 0 ≤ (vp_nar .boolean 1).toInt by omega), (show (vp_nar .boolean 1).toInt ≤ 1 by omega)⟩
set_option maxRecDepth 20000 in
set_option maxHeartbeats 2000000 in
theorem o_fX10_strip {σ : gS} (hIσ : JM σ) {p1 : Int32} (h0p1 : 0 ≤ p1.toInt) (h1p1 : p1.toInt ≤ 11) : Ok (fX10_strip σ p1) (fun out => 0 ≤ out.toInt ∧ out.toInt ≤ 5) := by
  unfold fX10_strip
  have f1 : (12 : Int32).toInt = 12 := by decide
  have f2 : ((12 : Int32) + p1).toInt = (12 : Int32).toInt + p1.toInt := iadd_toInt (by omega) (by omega)
  refine ok_gd.mpr ⟨gb_of (by omega) (by omega), ?_⟩
  refine ok_nm2 (fun v1 ev1 => ?_)
  have f3 : 0 ≤ (σ.1 16 (12 + p1).toNatClampNeg).toInt ∧ (σ.1 16 (12 + p1).toNatClampNeg).toInt ≤ 5 := hIσ 16 _
  have qv1 : v1.toInt = (σ.1 16 (12 + p1).toNatClampNeg).toInt := congrArg Int32.toInt ev1
  refine ok_some.mpr ?_
  exact ⟨(show 0 ≤ v1.toInt by omega), (show v1.toInt ≤ 5 by omega)⟩
set_option maxRecDepth 20000 in
set_option maxHeartbeats 2000000 in
theorem o_fX10_rowsOf {σ : gS} (hIσ : JM σ) {p1 : Int32} {p2 : Int32}  : Ok (fX10_rowsOf σ p1 p2) (fun _ => True) := by
  unfold fX10_rowsOf
  refine ok_nm2 (fun x1 ex1 => ?_)
  have f1 : (0 : Int32).toInt = 0 := by decide
  have qx1 : x1.toInt = 0 := by rw [ex1]; decide
  refine ok_nm2 (fun x2 ex2 => ?_)
  have qx2 : x2.toInt = 0 := by rw [ex2]; decide
  refine ok_lpc (I := fun n s => n = (60 + 1 - s.2.toInt).toNat ∧ 0 ≤ s.2.toInt ∧ s.2.toInt ≤ 60) (fun rec5_1r n_1 s_1 hs_1 hrec_1 => ?_) K9 ((60 + 1 - x2.toInt).toNat) (x1, x2) ⟨rfl, (show 0 ≤ x2.toInt by omega), (show x2.toInt ≤ 60 by omega)⟩ (by unfold K9; omega)
  obtain ⟨a3_1, a4_1⟩ := s_1
  obtain ⟨hn_1, b0a4_1, b1a4_1⟩ := hs_1
  dsimp only at hn_1 b0a4_1 b1a4_1
  unfold bX10_rowsOf_5
  try dsimp only
  refine ok_bd.mpr ?_
  try unfold fX10_rows
  have f2 : (9 : Int32).toInt = 9 := by decide
  refine ok_gd.mpr ⟨gb_of (by omega) (by omega), ?_⟩
  refine ok_nm2 (fun v1_117 ev1_117 => ?_)
  have f3 : 0 ≤ (σ.1 15 9).toInt ∧ (σ.1 15 9).toInt ≤ 60 := hIσ 15 9
  have qv1_117 : v1_117.toInt = (σ.1 15 9).toInt := congrArg Int32.toInt ev1_117
  refine ok_some.mpr ?_
  refine ok_ite.mpr ⟨fun h_4 => ?_, fun h_4 => ?_⟩
  · have g5 : v1_117.toInt ≤ a4_1.toInt := Int32.le_iff_toInt_le.mp h_4
    refine ok_some.mpr ?_
    exact trivial
  · have g6 : ¬ v1_117.toInt ≤ a4_1.toInt := fun z => h_4 (Int32.le_iff_toInt_le.mpr z)
    refine ok_gd.mpr ⟨gb_of (by omega) (by omega), ?_⟩
    refine ok_nm2 (fun v6_114_118 ev6_114_118 => ?_)
    have qv6_114_118 : v6_114_118.toInt = (σ.1 26 a4_1.toNatClampNeg).toInt := congrArg Int32.toInt ev6_114_118
    refine ok_ite.mpr ⟨fun h_7 => ?_, fun h_7 => ?_⟩
    · have g8 : v6_114_118.toInt = (0 : Int32).toInt := by rw [h_7]
      refine ok_ite.mpr ⟨fun h_9 => ?_, fun h_9 => ?_⟩
      · have f10 : (-1 : Int32).toInt = -1 := by decide
        have g11 : p1.toInt = (-1 : Int32).toInt := by rw [h_9]
        try unfold jX10_rowsOf_39
        refine ok_ite.mpr ⟨fun h_12 => ?_, fun h_12 => ?_⟩
        · have g13 : p2.toInt = (-1 : Int32).toInt := by rw [h_12]
          refine ok_nm2 (fun x11_119 ex11_119 => ?_)
          have f14 : (1 : Int32).toInt = 1 := by decide
          have qx11_119 : x11_119.toInt = (a3_1 + 1).toInt := congrArg Int32.toInt ex11_119
          refine ok_nm2 (fun x12_119 ex12_119 => ?_)
          have f15 : (a4_1 + (1 : Int32)).toInt = a4_1.toInt + (1 : Int32).toInt := iadd_toInt (by omega) (by omega)
          have qx12_119 : x12_119.toInt = (a4_1 + 1).toInt := congrArg Int32.toInt ex12_119
          exact hrec_1 _ (x11_119, x12_119) (show (60 + 1 - x12_119.toInt).toNat < n_1 by omega) ⟨rfl, (show 0 ≤ x12_119.toInt by omega), (show x12_119.toInt ≤ 60 by omega)⟩
        · have g16 : p2.toInt ≠ (-1 : Int32).toInt := fun z => h_12 (Int32.toInt_inj.mp z)
          refine ok_bd.mpr ?_
          try unfold fX10_pointOf
          have f17 : (60 : Int32).toInt = 60 := by decide
          have f18 : ((60 : Int32) + a4_1).toInt = (60 : Int32).toInt + a4_1.toInt := iadd_toInt (by omega) (by omega)
          refine ok_gd.mpr ⟨gb_of (by omega) (by omega), ?_⟩
          refine ok_nm2 (fun v1_120 ev1_120 => ?_)
          have f19 : 0 ≤ (σ.1 23 (60 + a4_1).toNatClampNeg).toInt ∧ (σ.1 23 (60 + a4_1).toNatClampNeg).toInt ≤ 19 := hIσ 23 _
          have qv1_120 : v1_120.toInt = (σ.1 23 (60 + a4_1).toNatClampNeg).toInt := congrArg Int32.toInt ev1_120
          refine ok_some.mpr ?_
          refine ok_ite.mpr ⟨fun h_20 => ?_, fun h_20 => ?_⟩
          · have g21 : v1_120.toInt = p2.toInt := by rw [h_20]
            refine ok_nm2 (fun x17_119_121 ex17_119_121 => ?_)
            have f22 : (1 : Int32).toInt = 1 := by decide
            have qx17_119_121 : x17_119_121.toInt = (a3_1 + 1).toInt := congrArg Int32.toInt ex17_119_121
            refine ok_nm2 (fun x18_119_121 ex18_119_121 => ?_)
            have f23 : (a4_1 + (1 : Int32)).toInt = a4_1.toInt + (1 : Int32).toInt := iadd_toInt (by omega) (by omega)
            have qx18_119_121 : x18_119_121.toInt = (a4_1 + 1).toInt := congrArg Int32.toInt ex18_119_121
            exact hrec_1 _ (x17_119_121, x18_119_121) (show (60 + 1 - x18_119_121.toInt).toNat < n_1 by omega) ⟨rfl, (show 0 ≤ x18_119_121.toInt by omega), (show x18_119_121.toInt ≤ 60 by omega)⟩
          · have g24 : v1_120.toInt ≠ p2.toInt := fun z => h_20 (Int32.toInt_inj.mp z)
            refine ok_nm2 (fun x16_119_121 ex16_119_121 => ?_)
            have f25 : (1 : Int32).toInt = 1 := by decide
            have f26 : (a4_1 + (1 : Int32)).toInt = a4_1.toInt + (1 : Int32).toInt := iadd_toInt (by omega) (by omega)
            have qx16_119_121 : x16_119_121.toInt = (a4_1 + 1).toInt := congrArg Int32.toInt ex16_119_121
            exact hrec_1 _ (a3_1, x16_119_121) (show (60 + 1 - x16_119_121.toInt).toNat < n_1 by omega) ⟨rfl, (show 0 ≤ x16_119_121.toInt by omega), (show x16_119_121.toInt ≤ 60 by omega)⟩
      · have f27 : (-1 : Int32).toInt = -1 := by decide
        have g28 : p1.toInt ≠ (-1 : Int32).toInt := fun z => h_9 (Int32.toInt_inj.mp z)
        refine ok_bd.mpr ?_
        try unfold fX10_pictureOf
        have f29 : (60 : Int32).toInt = 60 := by decide
        have f30 : ((60 : Int32) + a4_1).toInt = (60 : Int32).toInt + a4_1.toInt := iadd_toInt (by omega) (by omega)
        refine ok_gd.mpr ⟨gb_of (by omega) (by omega), ?_⟩
        refine ok_nm2 (fun v1_122 ev1_122 => ?_)
        have f31 : 0 ≤ (σ.1 22 (60 + a4_1).toNatClampNeg).toInt ∧ (σ.1 22 (60 + a4_1).toNatClampNeg).toInt ≤ 11 := hIσ 22 _
        have qv1_122 : v1_122.toInt = (σ.1 22 (60 + a4_1).toNatClampNeg).toInt := congrArg Int32.toInt ev1_122
        refine ok_some.mpr ?_
        refine ok_ite.mpr ⟨fun h_32 => ?_, fun h_32 => ?_⟩
        · have g33 : v1_122.toInt = p1.toInt := by rw [h_32]
          try unfold jX10_rowsOf_39
          refine ok_ite.mpr ⟨fun h_34 => ?_, fun h_34 => ?_⟩
          · have g35 : p2.toInt = (-1 : Int32).toInt := by rw [h_34]
            refine ok_nm2 (fun x11_124 ex11_124 => ?_)
            have f36 : (1 : Int32).toInt = 1 := by decide
            have qx11_124 : x11_124.toInt = (a3_1 + 1).toInt := congrArg Int32.toInt ex11_124
            refine ok_nm2 (fun x12_124 ex12_124 => ?_)
            have f37 : (a4_1 + (1 : Int32)).toInt = a4_1.toInt + (1 : Int32).toInt := iadd_toInt (by omega) (by omega)
            have qx12_124 : x12_124.toInt = (a4_1 + 1).toInt := congrArg Int32.toInt ex12_124
            exact hrec_1 _ (x11_124, x12_124) (show (60 + 1 - x12_124.toInt).toNat < n_1 by omega) ⟨rfl, (show 0 ≤ x12_124.toInt by omega), (show x12_124.toInt ≤ 60 by omega)⟩
          · have g38 : p2.toInt ≠ (-1 : Int32).toInt := fun z => h_34 (Int32.toInt_inj.mp z)
            refine ok_bd.mpr ?_
            try unfold fX10_pointOf
            refine ok_gd.mpr ⟨gb_of (by omega) (by omega), ?_⟩
            refine ok_nm2 (fun v1_125 ev1_125 => ?_)
            have f39 : 0 ≤ (σ.1 23 (60 + a4_1).toNatClampNeg).toInt ∧ (σ.1 23 (60 + a4_1).toNatClampNeg).toInt ≤ 19 := hIσ 23 _
            have qv1_125 : v1_125.toInt = (σ.1 23 (60 + a4_1).toNatClampNeg).toInt := congrArg Int32.toInt ev1_125
            refine ok_some.mpr ?_
            refine ok_ite.mpr ⟨fun h_40 => ?_, fun h_40 => ?_⟩
            · have g41 : v1_125.toInt = p2.toInt := by rw [h_40]
              refine ok_nm2 (fun x17_124_126 ex17_124_126 => ?_)
              have f42 : (1 : Int32).toInt = 1 := by decide
              have qx17_124_126 : x17_124_126.toInt = (a3_1 + 1).toInt := congrArg Int32.toInt ex17_124_126
              refine ok_nm2 (fun x18_124_126 ex18_124_126 => ?_)
              have f43 : (a4_1 + (1 : Int32)).toInt = a4_1.toInt + (1 : Int32).toInt := iadd_toInt (by omega) (by omega)
              have qx18_124_126 : x18_124_126.toInt = (a4_1 + 1).toInt := congrArg Int32.toInt ex18_124_126
              exact hrec_1 _ (x17_124_126, x18_124_126) (show (60 + 1 - x18_124_126.toInt).toNat < n_1 by omega) ⟨rfl, (show 0 ≤ x18_124_126.toInt by omega), (show x18_124_126.toInt ≤ 60 by omega)⟩
            · have g44 : v1_125.toInt ≠ p2.toInt := fun z => h_40 (Int32.toInt_inj.mp z)
              refine ok_nm2 (fun x16_124_126 ex16_124_126 => ?_)
              have f45 : (1 : Int32).toInt = 1 := by decide
              have f46 : (a4_1 + (1 : Int32)).toInt = a4_1.toInt + (1 : Int32).toInt := iadd_toInt (by omega) (by omega)
              have qx16_124_126 : x16_124_126.toInt = (a4_1 + 1).toInt := congrArg Int32.toInt ex16_124_126
              exact hrec_1 _ (a3_1, x16_124_126) (show (60 + 1 - x16_124_126.toInt).toNat < n_1 by omega) ⟨rfl, (show 0 ≤ x16_124_126.toInt by omega), (show x16_124_126.toInt ≤ 60 by omega)⟩
        · have g47 : v1_122.toInt ≠ p1.toInt := fun z => h_32 (Int32.toInt_inj.mp z)
          refine ok_nm2 (fun x22_114_118_123 ex22_114_118_123 => ?_)
          have f48 : (1 : Int32).toInt = 1 := by decide
          have f49 : (a4_1 + (1 : Int32)).toInt = a4_1.toInt + (1 : Int32).toInt := iadd_toInt (by omega) (by omega)
          have qx22_114_118_123 : x22_114_118_123.toInt = (a4_1 + 1).toInt := congrArg Int32.toInt ex22_114_118_123
          exact hrec_1 _ (a3_1, x22_114_118_123) (show (60 + 1 - x22_114_118_123.toInt).toNat < n_1 by omega) ⟨rfl, (show 0 ≤ x22_114_118_123.toInt by omega), (show x22_114_118_123.toInt ≤ 60 by omega)⟩
    · have g50 : v6_114_118.toInt ≠ (0 : Int32).toInt := fun z => h_7 (Int32.toInt_inj.mp z)
      refine ok_nm2 (fun x8_114_118 ex8_114_118 => ?_)
      have f51 : (1 : Int32).toInt = 1 := by decide
      have f52 : (a4_1 + (1 : Int32)).toInt = a4_1.toInt + (1 : Int32).toInt := iadd_toInt (by omega) (by omega)
      have qx8_114_118 : x8_114_118.toInt = (a4_1 + 1).toInt := congrArg Int32.toInt ex8_114_118
      exact hrec_1 _ (a3_1, x8_114_118) (show (60 + 1 - x8_114_118.toInt).toNat < n_1 by omega) ⟨rfl, (show 0 ≤ x8_114_118.toInt by omega), (show x8_114_118.toInt ≤ 60 by omega)⟩
set_option maxRecDepth 20000 in
set_option maxHeartbeats 2000000 in
theorem o_fX10_centreOf {σ : gS} (hIσ : JM σ) {p1 : Int32} (h0p1 : 0 ≤ p1.toInt) (h1p1 : p1.toInt ≤ 11) : Ok (fX10_centreOf σ p1) (fun out => 0 ≤ out.toInt ∧ out.toInt ≤ 9999) := by
  unfold fX10_centreOf
  have f1 : (12 : Int32).toInt = 12 := by decide
  have f2 : ((12 : Int32) + p1).toInt = (12 : Int32).toInt + p1.toInt := iadd_toInt (by omega) (by omega)
  refine ok_gd.mpr ⟨gb_of (by omega) (by omega), ?_⟩
  refine ok_nm2 (fun v1 ev1 => ?_)
  have f3 : 0 ≤ (σ.1 18 (12 + p1).toNatClampNeg).toInt ∧ (σ.1 18 (12 + p1).toNatClampNeg).toInt ≤ 9999 := hIσ 18 _
  have qv1 : v1.toInt = (σ.1 18 (12 + p1).toNatClampNeg).toInt := congrArg Int32.toInt ev1
  refine ok_some.mpr ?_
  exact ⟨(show 0 ≤ v1.toInt by omega), (show v1.toInt ≤ 9999 by omega)⟩
set_option maxRecDepth 20000 in
set_option maxHeartbeats 2000000 in
theorem o_fX10_joins {σ : gS} (hIσ : JM σ) {p1 : Int32} {p2 : Int32} (h0p1 : 0 ≤ p1.toInt) (h1p1 : p1.toInt ≤ 31) (h0p2 : 0 ≤ p2.toInt) (h1p2 : p2.toInt ≤ 31) : Ok (fX10_joins σ p1 p2) (fun out => JM out.2 ∧ Fr fr_fX10_joins σ out.2 ∧ 0 ≤ out.1.toInt ∧ out.1.toInt ≤ 1) := by
  unfold fX10_joins
  have hfσ : Fr fr_fX10_joins σ σ := Fr_r
  refine ok_gd.mpr ⟨gb_of (by omega) (by omega), ?_⟩
  refine ok_nm2 (fun v1 ev1 => ?_)
  have qv1 : v1.toInt = (σ.1 32 p1.toNatClampNeg).toInt := congrArg Int32.toInt ev1
  refine ok_nm.mpr ?_
  refine ok_gd.mpr ⟨gb_of (by omega) (by omega), ?_⟩
  refine ok_nm2 (fun v3_1 ev3_1 => ?_)
  have qv3_1 : v3_1.toInt = (σ.1 32 p2.toNatClampNeg).toInt := congrArg Int32.toInt ev3_1
  refine ok_nm.mpr ?_
  refine ok_ite.mpr ⟨fun h_1 => ?_, fun h_1 => ?_⟩
  · have g2 : v1.toInt = v3_1.toInt := by rw [h_1]
    refine ok_some.mpr ?_
    have f3 : (0 : Int32).toInt = 0 := by decide
    exact ⟨hIσ, hfσ, (show 0 ≤ (0 : Int32).toInt by omega), (show (0 : Int32).toInt ≤ 1 by omega)⟩
  · have g4 : v1.toInt ≠ v3_1.toInt := fun z => h_1 (Int32.toInt_inj.mp z)
    refine ok_nm2 (fun x6_1_2 ex6_1_2 => ?_)
    have f5 : (0 : Int32).toInt = 0 := by decide
    have qx6_1_2 : x6_1_2.toInt = 0 := by rw [ex6_1_2]; decide
    refine ok_lpc (I := fun n s => n = (32 + 1 - s.1.toInt).toNat ∧ JM s.2 ∧ Fr fr_fX10_joins σ s.2 ∧ 0 ≤ s.1.toInt ∧ s.1.toInt ≤ 32) (fun rec26_3r n_3 s_3 hs_3 hrec_3 => ?_) K9 ((32 + 1 - x6_1_2.toInt).toNat) (x6_1_2, σ) ⟨rfl, hIσ, hfσ, (show 0 ≤ x6_1_2.toInt by omega), (show x6_1_2.toInt ≤ 32 by omega)⟩ (by unfold K9; omega)
    obtain ⟨a5_3, σ1_3⟩ := s_3
    obtain ⟨hn_3, hIσ1_3, hfσ1_3, b0a5_3, b1a5_3⟩ := hs_3
    dsimp only at hn_3 hIσ1_3 hfσ1_3 b0a5_3 b1a5_3
    unfold bX10_joins_26
    try dsimp only
    refine ok_ite.mpr ⟨fun h_6 => ?_, fun h_6 => ?_⟩
    · have f7 : (32 : Int32).toInt = 32 := by decide
      have g8 : (32 : Int32).toInt ≤ a5_3.toInt := Int32.le_iff_toInt_le.mp h_6
      refine ok_some.mpr ?_
      have f9 : (1 : Int32).toInt = 1 := by decide
      exact ⟨hIσ1_3, hfσ1_3, (show 0 ≤ (1 : Int32).toInt by omega), (show (1 : Int32).toInt ≤ 1 by omega)⟩
    · have f10 : (32 : Int32).toInt = 32 := by decide
      have g11 : ¬ (32 : Int32).toInt ≤ a5_3.toInt := fun z => h_6 (Int32.le_iff_toInt_le.mpr z)
      refine ok_gd.mpr ⟨gb_of (by omega) (by omega), ?_⟩
      refine ok_nm2 (fun v8_4 ev8_4 => ?_)
      have qv8_4 : v8_4.toInt = (σ1_3.1 32 a5_3.toNatClampNeg).toInt := congrArg Int32.toInt ev8_4
      refine ok_ite.mpr ⟨fun h_12 => ?_, fun h_12 => ?_⟩
      · have g13 : v8_4.toInt = v3_1.toInt := by rw [h_12]
        refine ok_gd.mpr ⟨gb_of (by omega) (by omega), ?_⟩
        refine ok_nm2 (fun σ11_4 eσ11_4 => ?_)
        have hIσ11_4 : JM σ11_4 := by rw [eσ11_4]; exact JM_w hIσ1_3 (Int32.le_toInt _) (Int32.toInt_le _)
        have hfσ11_4 : Fr fr_fX10_joins σ σ11_4 := by rw [eσ11_4]; exact Fr_w0 hfσ1_3 (by decide)
        refine ok_nm2 (fun x12_4 ex12_4 => ?_)
        have f14 : (1 : Int32).toInt = 1 := by decide
        have f15 : (a5_3 + (1 : Int32)).toInt = a5_3.toInt + (1 : Int32).toInt := iadd_toInt (by omega) (by omega)
        have qx12_4 : x12_4.toInt = (a5_3 + 1).toInt := congrArg Int32.toInt ex12_4
        exact hrec_3 _ (x12_4, σ11_4) (show (32 + 1 - x12_4.toInt).toNat < n_3 by omega) ⟨rfl, hIσ11_4, hfσ11_4, (show 0 ≤ x12_4.toInt by omega), (show x12_4.toInt ≤ 32 by omega)⟩
      · have g16 : v8_4.toInt ≠ v3_1.toInt := fun z => h_12 (Int32.toInt_inj.mp z)
        refine ok_nm2 (fun x10_4 ex10_4 => ?_)
        have f17 : (1 : Int32).toInt = 1 := by decide
        have f18 : (a5_3 + (1 : Int32)).toInt = a5_3.toInt + (1 : Int32).toInt := iadd_toInt (by omega) (by omega)
        have qx10_4 : x10_4.toInt = (a5_3 + 1).toInt := congrArg Int32.toInt ex10_4
        exact hrec_3 _ (x10_4, σ1_3) (show (32 + 1 - x10_4.toInt).toNat < n_3 by omega) ⟨rfl, hIσ1_3, hfσ1_3, (show 0 ≤ x10_4.toInt by omega), (show x10_4.toInt ≤ 32 by omega)⟩
set_option maxRecDepth 20000 in
set_option maxHeartbeats 2000000 in
theorem o_fX10_hangs {σ : gS} (hIσ : JM σ)   : Ok (fX10_hangs σ ) (fun out => JM out ∧ Fr fr_fX10_hangs σ out) := by
  unfold fX10_hangs
  have hfσ : Fr fr_fX10_hangs σ σ := Fr_r
  refine ok_nm2 (fun x1 ex1 => ?_)
  have f1 : (0 : Int32).toInt = 0 := by decide
  have qx1 : x1.toInt = 0 := by rw [ex1]; decide
  refine ok_lpc (I := fun n s => n = (32 + 1 - s.1.toInt).toNat ∧ JM s.2 ∧ Fr fr_fX10_hangs σ s.2 ∧ 0 ≤ s.1.toInt ∧ s.1.toInt ≤ 32) (fun rec2_1r n_1 s_1 hs_1 hrec_1 => ?_) K9 ((32 + 1 - x1.toInt).toNat) (x1, σ) ⟨rfl, hIσ, hfσ, (show 0 ≤ x1.toInt by omega), (show x1.toInt ≤ 32 by omega)⟩ (by unfold K9; omega)
  obtain ⟨a1_1, σ1_1⟩ := s_1
  obtain ⟨hn_1, hIσ1_1, hfσ1_1, b0a1_1, b1a1_1⟩ := hs_1
  dsimp only at hn_1 hIσ1_1 hfσ1_1 b0a1_1 b1a1_1
  unfold bX10_hangs_2
  try dsimp only
  refine ok_ite.mpr ⟨fun h_2 => ?_, fun h_2 => ?_⟩
  · have f3 : (32 : Int32).toInt = 32 := by decide
    have g4 : (32 : Int32).toInt ≤ a1_1.toInt := Int32.le_iff_toInt_le.mp h_2
    refine ok_nm2 (fun x3_261 ex3_261 => ?_)
    have qx3_261 : x3_261.toInt = 0 := by rw [ex3_261]; decide
    refine ok_nm2 (fun x4_261 ex4_261 => ?_)
    have qx4_261 : x4_261.toInt = 0 := by rw [ex4_261]; decide
    refine ok_lpc (I := fun n s => n = (60 + 1 - s.1.toInt).toNat ∧ JM s.2 ∧ Fr fr_fX10_hangs σ s.2 ∧ 0 ≤ s.1.toInt ∧ s.1.toInt ≤ 60) (fun rec25_262r n_262 s_262 hs_262 hrec_262 => ?_) K9 ((60 + 1 - x4_261.toInt).toNat) (x4_261, σ1_1) ⟨rfl, hIσ1_1, hfσ1_1, (show 0 ≤ x4_261.toInt by omega), (show x4_261.toInt ≤ 60 by omega)⟩ (by unfold K9; omega)
    obtain ⟨a2_262, σ1_262⟩ := s_262
    obtain ⟨hn_262, hIσ1_262, hfσ1_262, b0a2_262, b1a2_262⟩ := hs_262
    dsimp only at hn_262 hIσ1_262 hfσ1_262 b0a2_262 b1a2_262
    unfold bX10_hangs_25
    try dsimp only
    refine ok_bd.mpr ?_
    try unfold fX10_rows
    have f5 : (9 : Int32).toInt = 9 := by decide
    refine ok_gd.mpr ⟨gb_of (by omega) (by omega), ?_⟩
    refine ok_nm2 (fun v1_523 ev1_523 => ?_)
    have f6 : 0 ≤ (σ1_262.1 15 9).toInt ∧ (σ1_262.1 15 9).toInt ≤ 60 := hIσ1_262 15 9
    have qv1_523 : v1_523.toInt = (σ1_262.1 15 9).toInt := congrArg Int32.toInt ev1_523
    refine ok_some.mpr ?_
    refine ok_ite.mpr ⟨fun h_7 => ?_, fun h_7 => ?_⟩
    · have g8 : v1_523.toInt ≤ a2_262.toInt := Int32.le_iff_toInt_le.mp h_7
      refine ok_nm2 (fun x8_522_524 ex8_522_524 => ?_)
      have qx8_522_524 : x8_522_524.toInt = 0 := by rw [ex8_522_524]; decide
      refine ok_lpc (I := fun n s => n = (12 + 1 - s.1.toInt).toNat ∧ JM s.2 ∧ Fr fr_fX10_hangs σ s.2 ∧ 0 ≤ s.1.toInt ∧ s.1.toInt ≤ 12) (fun rec72_525r n_525 s_525 hs_525 hrec_525 => ?_) K9 ((12 + 1 - x8_522_524.toInt).toNat) (x8_522_524, σ1_262) ⟨rfl, hIσ1_262, hfσ1_262, (show 0 ≤ x8_522_524.toInt by omega), (show x8_522_524.toInt ≤ 12 by omega)⟩ (by unfold K9; omega)
      obtain ⟨a2_525, σ1_525⟩ := s_525
      obtain ⟨hn_525, hIσ1_525, hfσ1_525, b0a2_525, b1a2_525⟩ := hs_525
      dsimp only at hn_525 hIσ1_525 hfσ1_525 b0a2_525 b1a2_525
      unfold bX10_hangs_72
      try dsimp only
      refine ok_bd.mpr ?_
      try unfold fX10_pictures
      have f9 : (7 : Int32).toInt = 7 := by decide
      refine ok_gd.mpr ⟨gb_of (by omega) (by omega), ?_⟩
      refine ok_nm2 (fun v1_734 ev1_734 => ?_)
      have f10 : 0 ≤ (σ1_525.1 15 7).toInt ∧ (σ1_525.1 15 7).toInt ≤ 12 := hIσ1_525 15 7
      have qv1_734 : v1_734.toInt = (σ1_525.1 15 7).toInt := congrArg Int32.toInt ev1_734
      refine ok_some.mpr ?_
      refine ok_ite.mpr ⟨fun h_11 => ?_, fun h_11 => ?_⟩
      · have g12 : v1_734.toInt ≤ a2_525.toInt := Int32.le_iff_toInt_le.mp h_11
        refine ok_some.mpr ?_
        exact ⟨hIσ1_525, hfσ1_525⟩
      · have g13 : ¬ v1_734.toInt ≤ a2_525.toInt := fun z => h_11 (Int32.le_iff_toInt_le.mpr z)
        refine ok_nm2 (fun x12_731_735 ex12_731_735 => ?_)
        have qx12_731_735 : x12_731_735.toInt = 0 := by rw [ex12_731_735]; decide
        refine ok_lpc (I := fun n s => n = (11 + 1 - s.1.toInt).toNat ∧ JM s.2 ∧ Fr fr_fX10_hangs σ s.2 ∧ 0 ≤ s.1.toInt ∧ s.1.toInt ≤ 11) (fun rec82_736r n_736 s_736 hs_736 hrec_736 => ?_) K9 ((11 + 1 - x12_731_735.toInt).toNat) (x12_731_735, σ1_525) ⟨rfl, hIσ1_525, hfσ1_525, (show 0 ≤ x12_731_735.toInt by omega), (show x12_731_735.toInt ≤ 11 by omega)⟩ (by unfold K9; omega)
        obtain ⟨a3_736, σ1_736⟩ := s_736
        obtain ⟨hn_736, hIσ1_736, hfσ1_736, b0a3_736, b1a3_736⟩ := hs_736
        dsimp only at hn_736 hIσ1_736 hfσ1_736 b0a3_736 b1a3_736
        unfold bX10_hangs_82
        try dsimp only
        refine ok_ite.mpr ⟨fun h_14 => ?_, fun h_14 => ?_⟩
        · have g15 : a2_525.toInt ≤ a3_736.toInt := Int32.le_iff_toInt_le.mp h_14
          refine ok_nm2 (fun x14_769 ex14_769 => ?_)
          have f16 : (1 : Int32).toInt = 1 := by decide
          have f17 : (a2_525 + (1 : Int32)).toInt = a2_525.toInt + (1 : Int32).toInt := iadd_toInt (by omega) (by omega)
          have qx14_769 : x14_769.toInt = (a2_525 + 1).toInt := congrArg Int32.toInt ex14_769
          exact hrec_525 _ (x14_769, σ1_736) (show (12 + 1 - x14_769.toInt).toNat < n_525 by omega) ⟨rfl, hIσ1_736, hfσ1_736, (show 0 ≤ x14_769.toInt by omega), (show x14_769.toInt ≤ 12 by omega)⟩
        · have g18 : ¬ a2_525.toInt ≤ a3_736.toInt := fun z => h_14 (Int32.le_iff_toInt_le.mpr z)
          refine ok_bd.mpr ?_
          try unfold fX10_centreOf
          have f19 : (12 : Int32).toInt = 12 := by decide
          have f20 : ((12 : Int32) + a2_525).toInt = (12 : Int32).toInt + a2_525.toInt := iadd_toInt (by omega) (by omega)
          refine ok_gd.mpr ⟨gb_of (by omega) (by omega), ?_⟩
          refine ok_nm2 (fun v1_770 ev1_770 => ?_)
          have f21 : 0 ≤ (σ1_736.1 18 (12 + a2_525).toNatClampNeg).toInt ∧ (σ1_736.1 18 (12 + a2_525).toNatClampNeg).toInt ≤ 9999 := hIσ1_736 18 _
          have qv1_770 : v1_770.toInt = (σ1_736.1 18 (12 + a2_525).toNatClampNeg).toInt := congrArg Int32.toInt ev1_770
          refine ok_some.mpr ?_
          refine ok_ite.mpr ⟨fun h_22 => ?_, fun h_22 => ?_⟩
          · have g23 : v1_770.toInt ≤ (0 : Int32).toInt := Int32.le_iff_toInt_le.mp h_22
            refine ok_nm2 (fun x18_769_771 ex18_769_771 => ?_)
            have f24 : (1 : Int32).toInt = 1 := by decide
            have f25 : (a3_736 + (1 : Int32)).toInt = a3_736.toInt + (1 : Int32).toInt := iadd_toInt (by omega) (by omega)
            have qx18_769_771 : x18_769_771.toInt = (a3_736 + 1).toInt := congrArg Int32.toInt ex18_769_771
            exact hrec_736 _ (x18_769_771, σ1_736) (show (11 + 1 - x18_769_771.toInt).toNat < n_736 by omega) ⟨rfl, hIσ1_736, hfσ1_736, (show 0 ≤ x18_769_771.toInt by omega), (show x18_769_771.toInt ≤ 11 by omega)⟩
          · have g26 : ¬ v1_770.toInt ≤ (0 : Int32).toInt := fun z => h_22 (Int32.le_iff_toInt_le.mpr z)
            refine ok_bd.mpr ?_
            try unfold fX10_centreOf
            have f27 : ((12 : Int32) + a3_736).toInt = (12 : Int32).toInt + a3_736.toInt := iadd_toInt (by omega) (by omega)
            refine ok_gd.mpr ⟨gb_of (by omega) (by omega), ?_⟩
            refine ok_nm2 (fun v1_772 ev1_772 => ?_)
            have f28 : 0 ≤ (σ1_736.1 18 (12 + a3_736).toNatClampNeg).toInt ∧ (σ1_736.1 18 (12 + a3_736).toNatClampNeg).toInt ≤ 9999 := hIσ1_736 18 _
            have qv1_772 : v1_772.toInt = (σ1_736.1 18 (12 + a3_736).toNatClampNeg).toInt := congrArg Int32.toInt ev1_772
            refine ok_some.mpr ?_
            refine ok_ite.mpr ⟨fun h_29 => ?_, fun h_29 => ?_⟩
            · have g30 : v1_772.toInt ≤ (0 : Int32).toInt := Int32.le_iff_toInt_le.mp h_29
              refine ok_nm2 (fun x22_769_771_773 ex22_769_771_773 => ?_)
              have f31 : (1 : Int32).toInt = 1 := by decide
              have f32 : (a3_736 + (1 : Int32)).toInt = a3_736.toInt + (1 : Int32).toInt := iadd_toInt (by omega) (by omega)
              have qx22_769_771_773 : x22_769_771_773.toInt = (a3_736 + 1).toInt := congrArg Int32.toInt ex22_769_771_773
              exact hrec_736 _ (x22_769_771_773, σ1_736) (show (11 + 1 - x22_769_771_773.toInt).toNat < n_736 by omega) ⟨rfl, hIσ1_736, hfσ1_736, (show 0 ≤ x22_769_771_773.toInt by omega), (show x22_769_771_773.toInt ≤ 11 by omega)⟩
            · have g33 : ¬ v1_772.toInt ≤ (0 : Int32).toInt := fun z => h_29 (Int32.le_iff_toInt_le.mpr z)
              refine ok_bd.mpr ?_
              try unfold fX10_strip
              refine ok_gd.mpr ⟨gb_of (by omega) (by omega), ?_⟩
              refine ok_nm2 (fun v1_774 ev1_774 => ?_)
              have f34 : 0 ≤ (σ1_736.1 16 (12 + a2_525).toNatClampNeg).toInt ∧ (σ1_736.1 16 (12 + a2_525).toNatClampNeg).toInt ≤ 5 := hIσ1_736 16 _
              have qv1_774 : v1_774.toInt = (σ1_736.1 16 (12 + a2_525).toNatClampNeg).toInt := congrArg Int32.toInt ev1_774
              refine ok_some.mpr ?_
              refine ok_bd.mpr ?_
              try unfold fX10_strip
              refine ok_gd.mpr ⟨gb_of (by omega) (by omega), ?_⟩
              refine ok_nm2 (fun v1_776 ev1_776 => ?_)
              have f35 : 0 ≤ (σ1_736.1 16 (12 + a3_736).toNatClampNeg).toInt ∧ (σ1_736.1 16 (12 + a3_736).toNatClampNeg).toInt ≤ 5 := hIσ1_736 16 _
              have qv1_776 : v1_776.toInt = (σ1_736.1 16 (12 + a3_736).toNatClampNeg).toInt := congrArg Int32.toInt ev1_776
              refine ok_some.mpr ?_
              refine ok_ite.mpr ⟨fun h_36 => ?_, fun h_36 => ?_⟩
              · have g37 : v1_774.toInt = v1_776.toInt := by rw [h_36]
                refine ok_bd2.mpr ((o_fX10_joins hIσ1_736 (p1 := a2_525) (p2 := a3_736) (by omega) (by omega) (by omega) (by omega)).mono (fun o_38 ho_39 => ?_))
                obtain ⟨r30_769_771_773_775_777, σ31_769_771_773_775_777⟩ := o_38
                obtain ⟨hIσ31_769_771_773_775_777, hcσ31_769_771_773_775_777, r0r30_769_771_773_775_777, r1r30_769_771_773_775_777⟩ := ho_39
                dsimp only at hIσ31_769_771_773_775_777 hcσ31_769_771_773_775_777 r0r30_769_771_773_775_777 r1r30_769_771_773_775_777 ⊢
                have hfσ31_769_771_773_775_777 : Fr fr_fX10_hangs σ σ31_769_771_773_775_777 := Fr_c hfσ1_736 hcσ31_769_771_773_775_777 (by decide)
                refine ok_ite.mpr ⟨fun h_40 => ?_, fun h_40 => ?_⟩
                · have g41 : r30_769_771_773_775_777.toInt = (0 : Int32).toInt := by rw [h_40]
                  refine ok_nm2 (fun x33_769_771_773_775_777 ex33_769_771_773_775_777 => ?_)
                  have f42 : (1 : Int32).toInt = 1 := by decide
                  have f43 : (a3_736 + (1 : Int32)).toInt = a3_736.toInt + (1 : Int32).toInt := iadd_toInt (by omega) (by omega)
                  have qx33_769_771_773_775_777 : x33_769_771_773_775_777.toInt = (a3_736 + 1).toInt := congrArg Int32.toInt ex33_769_771_773_775_777
                  exact hrec_736 _ (x33_769_771_773_775_777, σ31_769_771_773_775_777) (show (11 + 1 - x33_769_771_773_775_777.toInt).toNat < n_736 by omega) ⟨rfl, hIσ31_769_771_773_775_777, hfσ31_769_771_773_775_777, (show 0 ≤ x33_769_771_773_775_777.toInt by omega), (show x33_769_771_773_775_777.toInt ≤ 11 by omega)⟩
                · have g44 : r30_769_771_773_775_777.toInt ≠ (0 : Int32).toInt := fun z => h_40 (Int32.toInt_inj.mp z)
                  refine ok_nm2 (fun x34_769_771_773_775_777 ex34_769_771_773_775_777 => ?_)
                  have f45 : (1 : Int32).toInt = 1 := by decide
                  have qx34_769_771_773_775_777 : x34_769_771_773_775_777.toInt = 1 := by rw [ex34_769_771_773_775_777]; decide
                  refine ok_nm2 (fun x35_769_771_773_775_777 ex35_769_771_773_775_777 => ?_)
                  have f46 : (a3_736 + (1 : Int32)).toInt = a3_736.toInt + (1 : Int32).toInt := iadd_toInt (by omega) (by omega)
                  have qx35_769_771_773_775_777 : x35_769_771_773_775_777.toInt = (a3_736 + 1).toInt := congrArg Int32.toInt ex35_769_771_773_775_777
                  exact hrec_736 _ (x35_769_771_773_775_777, σ31_769_771_773_775_777) (show (11 + 1 - x35_769_771_773_775_777.toInt).toNat < n_736 by omega) ⟨rfl, hIσ31_769_771_773_775_777, hfσ31_769_771_773_775_777, (show 0 ≤ x35_769_771_773_775_777.toInt by omega), (show x35_769_771_773_775_777.toInt ≤ 11 by omega)⟩
              · have g47 : v1_774.toInt ≠ v1_776.toInt := fun z => h_36 (Int32.toInt_inj.mp z)
                refine ok_nm2 (fun x28_769_771_773_775_777 ex28_769_771_773_775_777 => ?_)
                have f48 : (1 : Int32).toInt = 1 := by decide
                have f49 : (a3_736 + (1 : Int32)).toInt = a3_736.toInt + (1 : Int32).toInt := iadd_toInt (by omega) (by omega)
                have qx28_769_771_773_775_777 : x28_769_771_773_775_777.toInt = (a3_736 + 1).toInt := congrArg Int32.toInt ex28_769_771_773_775_777
                exact hrec_736 _ (x28_769_771_773_775_777, σ1_736) (show (11 + 1 - x28_769_771_773_775_777.toInt).toNat < n_736 by omega) ⟨rfl, hIσ1_736, hfσ1_736, (show 0 ≤ x28_769_771_773_775_777.toInt by omega), (show x28_769_771_773_775_777.toInt ≤ 11 by omega)⟩
    · have g50 : ¬ v1_523.toInt ≤ a2_262.toInt := fun z => h_7 (Int32.le_iff_toInt_le.mpr z)
      refine ok_gd.mpr ⟨gb_of (by omega) (by omega), ?_⟩
      refine ok_nm2 (fun v36_522_524 ev36_522_524 => ?_)
      have qv36_522_524 : v36_522_524.toInt = (σ1_262.1 26 a2_262.toNatClampNeg).toInt := congrArg Int32.toInt ev36_522_524
      refine ok_ite.mpr ⟨fun h_51 => ?_, fun h_51 => ?_⟩
      · have g52 : v36_522_524.toInt = (0 : Int32).toInt := by rw [h_51]
        refine ok_bd.mpr ?_
        try unfold fX10_pictureOf
        have f53 : (60 : Int32).toInt = 60 := by decide
        have f54 : ((60 : Int32) + a2_262).toInt = (60 : Int32).toInt + a2_262.toInt := iadd_toInt (by omega) (by omega)
        refine ok_gd.mpr ⟨gb_of (by omega) (by omega), ?_⟩
        refine ok_nm2 (fun v1_778 ev1_778 => ?_)
        have f55 : 0 ≤ (σ1_262.1 22 (60 + a2_262).toNatClampNeg).toInt ∧ (σ1_262.1 22 (60 + a2_262).toNatClampNeg).toInt ≤ 11 := hIσ1_262 22 _
        have qv1_778 : v1_778.toInt = (σ1_262.1 22 (60 + a2_262).toNatClampNeg).toInt := congrArg Int32.toInt ev1_778
        refine ok_some.mpr ?_
        refine ok_bd.mpr ?_
        try unfold fX10_pointOf
        refine ok_gd.mpr ⟨gb_of (by omega) (by omega), ?_⟩
        refine ok_nm2 (fun v1_780 ev1_780 => ?_)
        have f56 : 0 ≤ (σ1_262.1 23 (60 + a2_262).toNatClampNeg).toInt ∧ (σ1_262.1 23 (60 + a2_262).toNatClampNeg).toInt ≤ 19 := hIσ1_262 23 _
        have qv1_780 : v1_780.toInt = (σ1_262.1 23 (60 + a2_262).toNatClampNeg).toInt := congrArg Int32.toInt ev1_780
        refine ok_some.mpr ?_
        have f57 : (12 : Int32).toInt = 12 := by decide
        have f58 : ((12 : Int32) + v1_780).toInt = (12 : Int32).toInt + v1_780.toInt := iadd_toInt (by omega) (by omega)
        refine ok_bd2.mpr ((o_fX10_joins hIσ1_262 (p1 := v1_778) (p2 := (12 + v1_780)) (by omega) (by omega) (by omega) (by omega)).mono (fun o_59 ho_60 => ?_))
        obtain ⟨r44_522_524_779_781, σ45_522_524_779_781⟩ := o_59
        obtain ⟨hIσ45_522_524_779_781, hcσ45_522_524_779_781, r0r44_522_524_779_781, r1r44_522_524_779_781⟩ := ho_60
        dsimp only at hIσ45_522_524_779_781 hcσ45_522_524_779_781 r0r44_522_524_779_781 r1r44_522_524_779_781 ⊢
        have hfσ45_522_524_779_781 : Fr fr_fX10_hangs σ σ45_522_524_779_781 := Fr_c hfσ1_262 hcσ45_522_524_779_781 (by decide)
        refine ok_ite.mpr ⟨fun h_61 => ?_, fun h_61 => ?_⟩
        · have g62 : r44_522_524_779_781.toInt = (0 : Int32).toInt := by rw [h_61]
          refine ok_nm2 (fun x47_522_524_779_781 ex47_522_524_779_781 => ?_)
          have f63 : (1 : Int32).toInt = 1 := by decide
          have f64 : (a2_262 + (1 : Int32)).toInt = a2_262.toInt + (1 : Int32).toInt := iadd_toInt (by omega) (by omega)
          have qx47_522_524_779_781 : x47_522_524_779_781.toInt = (a2_262 + 1).toInt := congrArg Int32.toInt ex47_522_524_779_781
          exact hrec_262 _ (x47_522_524_779_781, σ45_522_524_779_781) (show (60 + 1 - x47_522_524_779_781.toInt).toNat < n_262 by omega) ⟨rfl, hIσ45_522_524_779_781, hfσ45_522_524_779_781, (show 0 ≤ x47_522_524_779_781.toInt by omega), (show x47_522_524_779_781.toInt ≤ 60 by omega)⟩
        · have g65 : r44_522_524_779_781.toInt ≠ (0 : Int32).toInt := fun z => h_61 (Int32.toInt_inj.mp z)
          refine ok_nm2 (fun x48_522_524_779_781 ex48_522_524_779_781 => ?_)
          have f66 : (1 : Int32).toInt = 1 := by decide
          have qx48_522_524_779_781 : x48_522_524_779_781.toInt = 1 := by rw [ex48_522_524_779_781]; decide
          refine ok_nm2 (fun x49_522_524_779_781 ex49_522_524_779_781 => ?_)
          have f67 : (a2_262 + (1 : Int32)).toInt = a2_262.toInt + (1 : Int32).toInt := iadd_toInt (by omega) (by omega)
          have qx49_522_524_779_781 : x49_522_524_779_781.toInt = (a2_262 + 1).toInt := congrArg Int32.toInt ex49_522_524_779_781
          exact hrec_262 _ (x49_522_524_779_781, σ45_522_524_779_781) (show (60 + 1 - x49_522_524_779_781.toInt).toNat < n_262 by omega) ⟨rfl, hIσ45_522_524_779_781, hfσ45_522_524_779_781, (show 0 ≤ x49_522_524_779_781.toInt by omega), (show x49_522_524_779_781.toInt ≤ 60 by omega)⟩
      · have g68 : v36_522_524.toInt ≠ (0 : Int32).toInt := fun z => h_51 (Int32.toInt_inj.mp z)
        refine ok_nm2 (fun x38_522_524 ex38_522_524 => ?_)
        have f69 : (1 : Int32).toInt = 1 := by decide
        have f70 : (a2_262 + (1 : Int32)).toInt = a2_262.toInt + (1 : Int32).toInt := iadd_toInt (by omega) (by omega)
        have qx38_522_524 : x38_522_524.toInt = (a2_262 + 1).toInt := congrArg Int32.toInt ex38_522_524
        exact hrec_262 _ (x38_522_524, σ1_262) (show (60 + 1 - x38_522_524.toInt).toNat < n_262 by omega) ⟨rfl, hIσ1_262, hfσ1_262, (show 0 ≤ x38_522_524.toInt by omega), (show x38_522_524.toInt ≤ 60 by omega)⟩
  · have f71 : (32 : Int32).toInt = 32 := by decide
    have g72 : ¬ (32 : Int32).toInt ≤ a1_1.toInt := fun z => h_2 (Int32.le_iff_toInt_le.mpr z)
    refine ok_gd.mpr ⟨gb_of (by omega) (by omega), ?_⟩
    refine ok_nm2 (fun σ50_261 eσ50_261 => ?_)
    have hIσ50_261 : JM σ50_261 := by rw [eσ50_261]; exact JM_w hIσ1_1 (Int32.le_toInt _) (Int32.toInt_le _)
    have hfσ50_261 : Fr fr_fX10_hangs σ σ50_261 := by rw [eσ50_261]; exact Fr_w0 hfσ1_1 (by decide)
    refine ok_nm2 (fun x51_261 ex51_261 => ?_)
    have f73 : (1 : Int32).toInt = 1 := by decide
    have f74 : (a1_1 + (1 : Int32)).toInt = a1_1.toInt + (1 : Int32).toInt := iadd_toInt (by omega) (by omega)
    have qx51_261 : x51_261.toInt = (a1_1 + 1).toInt := congrArg Int32.toInt ex51_261
    exact hrec_1 _ (x51_261, σ50_261) (show (32 + 1 - x51_261.toInt).toNat < n_1 by omega) ⟨rfl, hIσ50_261, hfσ50_261, (show 0 ≤ x51_261.toInt by omega), (show x51_261.toInt ≤ 32 by omega)⟩
set_option maxRecDepth 20000 in
set_option maxHeartbeats 2000000 in
theorem o_fX10_isLoose {σ : gS} (hIσ : JM σ) {p1 : Int32} (h0p1 : 0 ≤ p1.toInt) (h1p1 : p1.toInt ≤ 31) : Ok (fX10_isLoose σ p1) (fun out => 0 ≤ out.toInt ∧ out.toInt ≤ 1) := by
  unfold fX10_isLoose
  refine ok_nm2 (fun x1 ex1 => ?_)
  have f1 : (0 : Int32).toInt = 0 := by decide
  have qx1 : x1.toInt = 0 := by rw [ex1]; decide
  refine ok_lpc (I := fun n s => n = (20 + 1 - s.toInt).toNat ∧ 0 ≤ s.toInt ∧ s.toInt ≤ 20) (fun rec2_1r n_1 s_1 hs_1 hrec_1 => ?_) K9 ((20 + 1 - x1.toInt).toNat) x1 ⟨rfl, (show 0 ≤ x1.toInt by omega), (show x1.toInt ≤ 20 by omega)⟩ (by unfold K9; omega)
  obtain ⟨a2_1, hq_1⟩ : ∃ y, y = s_1 := ⟨_, rfl⟩
  subst hq_1
  obtain ⟨hn_1, b0a2_1, b1a2_1⟩ := hs_1
  skip
  unfold bX10_isLoose_2
  try dsimp only
  refine ok_bd.mpr ?_
  try unfold fX10_points
  have f2 : (8 : Int32).toInt = 8 := by decide
  refine ok_gd.mpr ⟨gb_of (by omega) (by omega), ?_⟩
  refine ok_nm2 (fun v1_25 ev1_25 => ?_)
  have f3 : 0 ≤ (σ.1 15 8).toInt ∧ (σ.1 15 8).toInt ≤ 20 := hIσ 15 8
  have qv1_25 : v1_25.toInt = (σ.1 15 8).toInt := congrArg Int32.toInt ev1_25
  refine ok_some.mpr ?_
  refine ok_ite.mpr ⟨fun h_4 => ?_, fun h_4 => ?_⟩
  · have g5 : v1_25.toInt ≤ a2_1.toInt := Int32.le_iff_toInt_le.mp h_4
    refine ok_some.mpr ?_
    have f6 : (1 : Int32).toInt = 1 := by decide
    exact ⟨(show 0 ≤ (1 : Int32).toInt by omega), (show (1 : Int32).toInt ≤ 1 by omega)⟩
  · have g7 : ¬ v1_25.toInt ≤ a2_1.toInt := fun z => h_4 (Int32.le_iff_toInt_le.mpr z)
    refine ok_bd.mpr ?_
    try unfold fX10_isControl
    have f8 : (20 : Int32).toInt = 20 := by decide
    have f9 : ((20 : Int32) + a2_1).toInt = (20 : Int32).toInt + a2_1.toInt := iadd_toInt (by omega) (by omega)
    refine ok_gd.mpr ⟨gb_of (by omega) (by omega), ?_⟩
    refine ok_nm2 (fun v1_27 ev1_27 => ?_)
    have qv1_27 : v1_27.toInt = (σ.1 20 (20 + a2_1).toNatClampNeg).toInt := congrArg Int32.toInt ev1_27
    refine ok_nm.mpr ?_
    refine ok_ite.mpr ⟨fun h_10 => ?_, fun h_10 => ?_⟩
    · have g11 : v1_27.toInt = (0 : Int32).toInt := by rw [h_10]
      refine ok_some.mpr ?_
      refine ok_ite.mpr ⟨fun h_12 => ?_, fun h_12 => ?_⟩
      · have g13 : (0 : Int32).toInt = (0 : Int32).toInt := by rw [h_12]
        refine ok_nm2 (fun x8_24_26_28_29 ex8_24_26_28_29 => ?_)
        have f14 : (1 : Int32).toInt = 1 := by decide
        have f15 : (a2_1 + (1 : Int32)).toInt = a2_1.toInt + (1 : Int32).toInt := iadd_toInt (by omega) (by omega)
        have qx8_24_26_28_29 : x8_24_26_28_29.toInt = (a2_1 + 1).toInt := congrArg Int32.toInt ex8_24_26_28_29
        exact hrec_1 _ x8_24_26_28_29 (show (20 + 1 - x8_24_26_28_29.toInt).toNat < n_1 by omega) ⟨rfl, (show 0 ≤ x8_24_26_28_29.toInt by omega), (show x8_24_26_28_29.toInt ≤ 20 by omega)⟩
      · have g16 : (0 : Int32).toInt ≠ (0 : Int32).toInt := fun z => h_12 (Int32.toInt_inj.mp z)
        exfalso
        omega
    · have g17 : v1_27.toInt ≠ (0 : Int32).toInt := fun z => h_10 (Int32.toInt_inj.mp z)
      refine ok_ite.mpr ⟨fun h_18 => ?_, fun h_18 => ?_⟩
      · have f19 : 0 ≤ (((σ.1 0 36) >>> ((v1_27 - 1) &&& 31)) &&& 1).toInt ∧ (((σ.1 0 36) >>> ((v1_27 - 1) &&& 31)) &&& 1).toInt ≤ 1 := iand_toInt (by decide) (by decide)
        have f20 : (1 : Int32).toInt = 1 := by decide
        have g21 : (((σ.1 0 36) >>> ((v1_27 - 1) &&& 31)) &&& 1).toInt = (1 : Int32).toInt := by rw [h_18]
        refine ok_some.mpr ?_
        refine ok_ite.mpr ⟨fun h_22 => ?_, fun h_22 => ?_⟩
        · have g23 : (1 : Int32).toInt = (0 : Int32).toInt := by rw [h_22]
          exfalso
          omega
        · have g24 : (1 : Int32).toInt ≠ (0 : Int32).toInt := fun z => h_22 (Int32.toInt_inj.mp z)
          have f25 : (12 : Int32).toInt = 12 := by decide
          have f26 : ((12 : Int32) + a2_1).toInt = (12 : Int32).toInt + a2_1.toInt := iadd_toInt (by omega) (by omega)
          refine ok_gd.mpr ⟨gb_of (by omega) (by omega), ?_⟩
          refine ok_nm2 (fun v9_24_26_28_30 ev9_24_26_28_30 => ?_)
          have qv9_24_26_28_30 : v9_24_26_28_30.toInt = (σ.1 32 (12 + a2_1).toNatClampNeg).toInt := congrArg Int32.toInt ev9_24_26_28_30
          refine ok_gd.mpr ⟨gb_of (by omega) (by omega), ?_⟩
          refine ok_nm2 (fun v10_24_26_28_30 ev10_24_26_28_30 => ?_)
          have qv10_24_26_28_30 : v10_24_26_28_30.toInt = (σ.1 32 p1.toNatClampNeg).toInt := congrArg Int32.toInt ev10_24_26_28_30
          refine ok_ite.mpr ⟨fun h_27 => ?_, fun h_27 => ?_⟩
          · have g28 : v9_24_26_28_30.toInt = v10_24_26_28_30.toInt := by rw [h_27]
            refine ok_some.mpr ?_
            exact ⟨(show 0 ≤ (0 : Int32).toInt by omega), (show (0 : Int32).toInt ≤ 1 by omega)⟩
          · have g29 : v9_24_26_28_30.toInt ≠ v10_24_26_28_30.toInt := fun z => h_27 (Int32.toInt_inj.mp z)
            refine ok_nm2 (fun x12_24_26_28_30 ex12_24_26_28_30 => ?_)
            have f30 : (a2_1 + (1 : Int32)).toInt = a2_1.toInt + (1 : Int32).toInt := iadd_toInt (by omega) (by omega)
            have qx12_24_26_28_30 : x12_24_26_28_30.toInt = (a2_1 + 1).toInt := congrArg Int32.toInt ex12_24_26_28_30
            exact hrec_1 _ x12_24_26_28_30 (show (20 + 1 - x12_24_26_28_30.toInt).toNat < n_1 by omega) ⟨rfl, (show 0 ≤ x12_24_26_28_30.toInt by omega), (show x12_24_26_28_30.toInt ≤ 20 by omega)⟩
      · have f31 : 0 ≤ (((σ.1 0 36) >>> ((v1_27 - 1) &&& 31)) &&& 1).toInt ∧ (((σ.1 0 36) >>> ((v1_27 - 1) &&& 31)) &&& 1).toInt ≤ 1 := iand_toInt (by decide) (by decide)
        have f32 : (1 : Int32).toInt = 1 := by decide
        have g33 : (((σ.1 0 36) >>> ((v1_27 - 1) &&& 31)) &&& 1).toInt ≠ (1 : Int32).toInt := fun z => h_18 (Int32.toInt_inj.mp z)
        refine ok_some.mpr ?_
        refine ok_ite.mpr ⟨fun h_34 => ?_, fun h_34 => ?_⟩
        · have g35 : (0 : Int32).toInt = (0 : Int32).toInt := by rw [h_34]
          refine ok_nm2 (fun x8_24_26_28_31 ex8_24_26_28_31 => ?_)
          have f36 : (a2_1 + (1 : Int32)).toInt = a2_1.toInt + (1 : Int32).toInt := iadd_toInt (by omega) (by omega)
          have qx8_24_26_28_31 : x8_24_26_28_31.toInt = (a2_1 + 1).toInt := congrArg Int32.toInt ex8_24_26_28_31
          exact hrec_1 _ x8_24_26_28_31 (show (20 + 1 - x8_24_26_28_31.toInt).toNat < n_1 by omega) ⟨rfl, (show 0 ≤ x8_24_26_28_31.toInt by omega), (show x8_24_26_28_31.toInt ≤ 20 by omega)⟩
        · have g37 : (0 : Int32).toInt ≠ (0 : Int32).toInt := fun z => h_34 (Int32.toInt_inj.mp z)
          exfalso
          omega
set_option maxRecDepth 20000 in
set_option maxHeartbeats 2000000 in
theorem o_fX10_picture {σ : gS} (hIσ : JM σ) {p1 : Int32} {p2 : Int32}  : Ok (fX10_picture σ p1 p2) (fun out => JM out.2 ∧ Fr fr_fX10_picture σ out.2) := by
  unfold fX10_picture
  have hfσ : Fr fr_fX10_picture σ σ := Fr_r
  refine ok_bd.mpr ?_
  try unfold fX10_isPicture
  refine ok_bd.mpr ?_
  try unfold fX10_pictures
  have f1 : (7 : Int32).toInt = 7 := by decide
  refine ok_gd.mpr ⟨gb_of (by omega) (by omega), ?_⟩
  refine ok_nm2 (fun v1_2 ev1_2 => ?_)
  have f2 : 0 ≤ (σ.1 15 7).toInt ∧ (σ.1 15 7).toInt ≤ 12 := hIσ 15 7
  have qv1_2 : v1_2.toInt = (σ.1 15 7).toInt := congrArg Int32.toInt ev1_2
  refine ok_some.mpr ?_
  refine ok_bd.mpr ?_
  try unfold fX10_isIn
  refine ok_ite.mpr ⟨fun h_3 => ?_, fun h_3 => ?_⟩
  · have f4 : p1.toInt64.toInt = p1.toInt := Int32.toInt_toInt64 _
    have f5 : (0 : Int64).toInt = 0 := by decide
    have g6 : p1.toInt64.toInt < (0 : Int64).toInt := Int64.lt_iff_toInt_lt.mp h_3
    refine ok_some.mpr ?_
    refine ok_some.mpr ?_
    refine ok_ite.mpr ⟨fun h_7 => ?_, fun h_7 => ?_⟩
    · have f8 : (vp_nar .boolean 0).toInt = 0 := by decide
      have f9 : (0 : Int32).toInt = 0 := by decide
      have g10 : (vp_nar .boolean 0).toInt = (0 : Int32).toInt := by rw [h_7]
      refine ok_some.mpr ?_
      have f11 : (-1000000000 : Int32).toInt = -1000000000 := by decide
      exact ⟨hIσ, hfσ⟩
    · have f12 : (vp_nar .boolean 0).toInt = 0 := by decide
      have f13 : (0 : Int32).toInt = 0 := by decide
      have g14 : (vp_nar .boolean 0).toInt ≠ (0 : Int32).toInt := fun z => h_7 (Int32.toInt_inj.mp z)
      exfalso
      omega
  · have f15 : p1.toInt64.toInt = p1.toInt := Int32.toInt_toInt64 _
    have f16 : (0 : Int64).toInt = 0 := by decide
    have g17 : ¬ p1.toInt64.toInt < (0 : Int64).toInt := fun z => h_3 (Int64.lt_iff_toInt_lt.mpr z)
    refine ok_ite.mpr ⟨fun h_18 => ?_, fun h_18 => ?_⟩
    · have f19 : (1 : Int32).toInt = 1 := by decide
      have f20 : (v1_2 - (1 : Int32)).toInt = v1_2.toInt - (1 : Int32).toInt := isub_toInt (by omega) (by omega)
      have f21 : (v1_2 - 1).toInt64.toInt = (v1_2 - 1).toInt := Int32.toInt_toInt64 _
      have g22 : (v1_2 - 1).toInt64.toInt < p1.toInt64.toInt := Int64.lt_iff_toInt_lt.mp h_18
      refine ok_some.mpr ?_
      refine ok_some.mpr ?_
      refine ok_ite.mpr ⟨fun h_23 => ?_, fun h_23 => ?_⟩
      · have f24 : (vp_nar .boolean 0).toInt = 0 := by decide
        have f25 : (0 : Int32).toInt = 0 := by decide
        have g26 : (vp_nar .boolean 0).toInt = (0 : Int32).toInt := by rw [h_23]
        refine ok_some.mpr ?_
        have f27 : (-1000000000 : Int32).toInt = -1000000000 := by decide
        exact ⟨hIσ, hfσ⟩
      · have f28 : (vp_nar .boolean 0).toInt = 0 := by decide
        have f29 : (0 : Int32).toInt = 0 := by decide
        have g30 : (vp_nar .boolean 0).toInt ≠ (0 : Int32).toInt := fun z => h_23 (Int32.toInt_inj.mp z)
        exfalso
        omega
    · have f31 : (1 : Int32).toInt = 1 := by decide
      have f32 : (v1_2 - (1 : Int32)).toInt = v1_2.toInt - (1 : Int32).toInt := isub_toInt (by omega) (by omega)
      have f33 : (v1_2 - 1).toInt64.toInt = (v1_2 - 1).toInt := Int32.toInt_toInt64 _
      have g34 : ¬ (v1_2 - 1).toInt64.toInt < p1.toInt64.toInt := fun z => h_18 (Int64.lt_iff_toInt_lt.mpr z)
      refine ok_some.mpr ?_
      refine ok_some.mpr ?_
      refine ok_ite.mpr ⟨fun h_35 => ?_, fun h_35 => ?_⟩
      · have f36 : (vp_nar .boolean 1).toInt = 1 := by decide
        have f37 : (0 : Int32).toInt = 0 := by decide
        have g38 : (vp_nar .boolean 1).toInt = (0 : Int32).toInt := by rw [h_35]
        exfalso
        omega
      · have f39 : (vp_nar .boolean 1).toInt = 1 := by decide
        have f40 : (0 : Int32).toInt = 0 := by decide
        have g41 : (vp_nar .boolean 1).toInt ≠ (0 : Int32).toInt := fun z => h_35 (Int32.toInt_inj.mp z)
        refine ok_ite.mpr ⟨fun h_42 => ?_, fun h_42 => ?_⟩
        · have g43 : p2.toInt = (0 : Int32).toInt := by rw [h_42]
          refine ok_bd.mpr ?_
          try unfold fX10_strip
          have f44 : (12 : Int32).toInt = 12 := by decide
          have f45 : ((12 : Int32) + p1).toInt = (12 : Int32).toInt + p1.toInt := iadd_toInt (by omega) (by omega)
          refine ok_gd.mpr ⟨gb_of (by omega) (by omega), ?_⟩
          refine ok_nm2 (fun v1_11 ev1_11 => ?_)
          have f46 : 0 ≤ (σ.1 16 (12 + p1).toNatClampNeg).toInt ∧ (σ.1 16 (12 + p1).toNatClampNeg).toInt ≤ 5 := hIσ 16 _
          have qv1_11 : v1_11.toInt = (σ.1 16 (12 + p1).toNatClampNeg).toInt := congrArg Int32.toInt ev1_11
          refine ok_some.mpr ?_
          refine ok_some.mpr ?_
          exact ⟨hIσ, hfσ⟩
        · have g47 : p2.toInt ≠ (0 : Int32).toInt := fun z => h_42 (Int32.toInt_inj.mp z)
          refine ok_ite.mpr ⟨fun h_48 => ?_, fun h_48 => ?_⟩
          · have g49 : p2.toInt = (1 : Int32).toInt := by rw [h_48]
            refine ok_gd.mpr ⟨gb_of (by omega) (by omega), ?_⟩
            refine ok_nm2 (fun v7_3_9_10 ev7_3_9_10 => ?_)
            have qv7_3_9_10 : v7_3_9_10.toInt = (σ.1 27 p1.toNatClampNeg).toInt := congrArg Int32.toInt ev7_3_9_10
            refine ok_some.mpr ?_
            exact ⟨hIσ, hfσ⟩
          · have g50 : p2.toInt ≠ (1 : Int32).toInt := fun z => h_48 (Int32.toInt_inj.mp z)
            refine ok_ite.mpr ⟨fun h_51 => ?_, fun h_51 => ?_⟩
            · have f52 : (2 : Int32).toInt = 2 := by decide
              have g53 : p2.toInt = (2 : Int32).toInt := by rw [h_51]
              have f54 : (12 : Int32).toInt = 12 := by decide
              have f55 : ((12 : Int32) + p1).toInt = (12 : Int32).toInt + p1.toInt := iadd_toInt (by omega) (by omega)
              refine ok_gd.mpr ⟨gb_of (by omega) (by omega), ?_⟩
              refine ok_nm2 (fun v9_3_9_10 ev9_3_9_10 => ?_)
              have qv9_3_9_10 : v9_3_9_10.toInt = (σ.1 17 (12 + p1).toNatClampNeg).toInt := congrArg Int32.toInt ev9_3_9_10
              refine ok_ite.mpr ⟨fun h_56 => ?_, fun h_56 => ?_⟩
              · have f57 : (4 : Int32).toInt = 4 := by decide
                have g58 : v9_3_9_10.toInt = (4 : Int32).toInt := by rw [h_56]
                refine ok_some.mpr ?_
                exact ⟨hIσ, hfσ⟩
              · have f59 : (4 : Int32).toInt = 4 := by decide
                have g60 : v9_3_9_10.toInt ≠ (4 : Int32).toInt := fun z => h_56 (Int32.toInt_inj.mp z)
                refine ok_some.mpr ?_
                exact ⟨hIσ, hfσ⟩
            · have f61 : (2 : Int32).toInt = 2 := by decide
              have g62 : p2.toInt ≠ (2 : Int32).toInt := fun z => h_51 (Int32.toInt_inj.mp z)
              refine ok_ite.mpr ⟨fun h_63 => ?_, fun h_63 => ?_⟩
              · have f64 : (3 : Int32).toInt = 3 := by decide
                have g65 : p2.toInt = (3 : Int32).toInt := by rw [h_63]
                refine ok_gd.mpr ⟨gb_of (by omega) (by omega), ?_⟩
                refine ok_nm2 (fun v12_3_9_10 ev12_3_9_10 => ?_)
                have qv12_3_9_10 : v12_3_9_10.toInt = (σ.1 28 p1.toNatClampNeg).toInt := congrArg Int32.toInt ev12_3_9_10
                refine ok_some.mpr ?_
                exact ⟨hIσ, hfσ⟩
              · have f66 : (3 : Int32).toInt = 3 := by decide
                have g67 : p2.toInt ≠ (3 : Int32).toInt := fun z => h_63 (Int32.toInt_inj.mp z)
                refine ok_ite.mpr ⟨fun h_68 => ?_, fun h_68 => ?_⟩
                · have f69 : (4 : Int32).toInt = 4 := by decide
                  have g70 : p2.toInt = (4 : Int32).toInt := by rw [h_68]
                  have f71 : (38 : Int32).toInt = 38 := by decide
                  have f72 : ((38 : Int32) + p1).toInt = (38 : Int32).toInt + p1.toInt := iadd_toInt (by omega) (by omega)
                  refine ok_gd.mpr ⟨gb_of (by omega) (by omega), ?_⟩
                  refine ok_nm2 (fun v14_3_9_10 ev14_3_9_10 => ?_)
                  have qv14_3_9_10 : v14_3_9_10.toInt = (σ.1 28 (38 + p1).toNatClampNeg).toInt := congrArg Int32.toInt ev14_3_9_10
                  refine ok_some.mpr ?_
                  exact ⟨hIσ, hfσ⟩
                · have f73 : (4 : Int32).toInt = 4 := by decide
                  have g74 : p2.toInt ≠ (4 : Int32).toInt := fun z => h_68 (Int32.toInt_inj.mp z)
                  refine ok_ite.mpr ⟨fun h_75 => ?_, fun h_75 => ?_⟩
                  · have f76 : (5 : Int32).toInt = 5 := by decide
                    have g77 : p2.toInt = (5 : Int32).toInt := by rw [h_75]
                    have f78 : (-1 : Int32).toInt = -1 := by decide
                    refine ok_bd.mpr ((o_fX10_rowsOf hIσ (p1 := p1) (p2 := (-1 : Int32)) ).mono (fun r17_3_9_10 ho_80 => ?_))
                    refine ok_some.mpr ?_
                    exact ⟨hIσ, hfσ⟩
                  · have f81 : (5 : Int32).toInt = 5 := by decide
                    have g82 : p2.toInt ≠ (5 : Int32).toInt := fun z => h_75 (Int32.toInt_inj.mp z)
                    refine ok_ite.mpr ⟨fun h_83 => ?_, fun h_83 => ?_⟩
                    · have f84 : (6 : Int32).toInt = 6 := by decide
                      have g85 : p2.toInt = (6 : Int32).toInt := by rw [h_83]
                      refine ok_bd.mpr ((o_fX10_hangs hIσ  ).mono (fun σ20_3_9_10 ho_87 => ?_))
                      obtain ⟨hIσ20_3_9_10, hcσ20_3_9_10⟩ := ho_87
                      have hfσ20_3_9_10 : Fr fr_fX10_picture σ σ20_3_9_10 := Fr_c hfσ hcσ20_3_9_10 (by decide)
                      refine ok_bd.mpr ((o_fX10_isLoose hIσ20_3_9_10 (p1 := p1) (by omega) (by omega)).mono (fun r22_3_9_10 ho_89 => ?_))
                      obtain ⟨r0r22_3_9_10, r1r22_3_9_10⟩ := ho_89
                      refine ok_ite.mpr ⟨fun h_90 => ?_, fun h_90 => ?_⟩
                      · have g91 : r22_3_9_10.toInt = (0 : Int32).toInt := by rw [h_90]
                        refine ok_some.mpr ?_
                        exact ⟨hIσ20_3_9_10, hfσ20_3_9_10⟩
                      · have g92 : r22_3_9_10.toInt ≠ (0 : Int32).toInt := fun z => h_90 (Int32.toInt_inj.mp z)
                        refine ok_some.mpr ?_
                        exact ⟨hIσ20_3_9_10, hfσ20_3_9_10⟩
                    · have f93 : (6 : Int32).toInt = 6 := by decide
                      have g94 : p2.toInt ≠ (6 : Int32).toInt := fun z => h_83 (Int32.toInt_inj.mp z)
                      refine ok_ite.mpr ⟨fun h_95 => ?_, fun h_95 => ?_⟩
                      · have g96 : p2.toInt = (7 : Int32).toInt := by rw [h_95]
                        refine ok_bd.mpr ?_
                        try unfold fX10_centreOf
                        have f97 : (12 : Int32).toInt = 12 := by decide
                        have f98 : ((12 : Int32) + p1).toInt = (12 : Int32).toInt + p1.toInt := iadd_toInt (by omega) (by omega)
                        refine ok_gd.mpr ⟨gb_of (by omega) (by omega), ?_⟩
                        refine ok_nm2 (fun v1_13 ev1_13 => ?_)
                        have f99 : 0 ≤ (σ.1 18 (12 + p1).toNatClampNeg).toInt ∧ (σ.1 18 (12 + p1).toNatClampNeg).toInt ≤ 9999 := hIσ 18 _
                        have qv1_13 : v1_13.toInt = (σ.1 18 (12 + p1).toNatClampNeg).toInt := congrArg Int32.toInt ev1_13
                        refine ok_some.mpr ?_
                        refine ok_ite.mpr ⟨fun h_100 => ?_, fun h_100 => ?_⟩
                        · have g101 : v1_13.toInt ≤ (0 : Int32).toInt := Int32.le_iff_toInt_le.mp h_100
                          refine ok_some.mpr ?_
                          exact ⟨hIσ, hfσ⟩
                        · have g102 : ¬ v1_13.toInt ≤ (0 : Int32).toInt := fun z => h_100 (Int32.le_iff_toInt_le.mpr z)
                          refine ok_some.mpr ?_
                          exact ⟨hIσ, hfσ⟩
                      · have g103 : p2.toInt ≠ (7 : Int32).toInt := fun z => h_95 (Int32.toInt_inj.mp z)
                        refine ok_some.mpr ?_
                        have f104 : (-1000000000 : Int32).toInt = -1000000000 := by decide
                        exact ⟨hIσ, hfσ⟩
set_option maxRecDepth 20000 in
set_option maxHeartbeats 2000000 in
theorem o_fX10_isPoint {σ : gS} (hIσ : JM σ) {p1 : Int32}  : Ok (fX10_isPoint σ p1) (fun out => 0 ≤ out.toInt ∧ out.toInt ≤ 1) := by
  unfold fX10_isPoint
  refine ok_bd.mpr ?_
  try unfold fX10_points
  have f1 : (8 : Int32).toInt = 8 := by decide
  refine ok_gd.mpr ⟨gb_of (by omega) (by omega), ?_⟩
  refine ok_nm2 (fun v1_1 ev1_1 => ?_)
  have f2 : 0 ≤ (σ.1 15 8).toInt ∧ (σ.1 15 8).toInt ≤ 20 := hIσ 15 8
  have qv1_1 : v1_1.toInt = (σ.1 15 8).toInt := congrArg Int32.toInt ev1_1
  refine ok_some.mpr ?_
  refine ok_bd.mpr ?_
  try unfold fX10_isIn
  refine ok_ite.mpr ⟨fun h_3 => ?_, fun h_3 => ?_⟩
  · have f4 : p1.toInt64.toInt = p1.toInt := Int32.toInt_toInt64 _
    have f5 : (0 : Int64).toInt = 0 := by decide
    have g6 : p1.toInt64.toInt < (0 : Int64).toInt := Int64.lt_iff_toInt_lt.mp h_3
    refine ok_some.mpr ?_
    refine ok_some.mpr ?_
    have f7 : (vp_nar .boolean 0).toInt = 0 := by decide
    exact ⟨(show 0 ≤ (vp_nar .boolean 0).toInt by omega), (show (vp_nar .boolean 0).toInt ≤ 1 by omega)⟩
  · have f8 : p1.toInt64.toInt = p1.toInt := Int32.toInt_toInt64 _
    have f9 : (0 : Int64).toInt = 0 := by decide
    have g10 : ¬ p1.toInt64.toInt < (0 : Int64).toInt := fun z => h_3 (Int64.lt_iff_toInt_lt.mpr z)
    refine ok_ite.mpr ⟨fun h_11 => ?_, fun h_11 => ?_⟩
    · have f12 : (1 : Int32).toInt = 1 := by decide
      have f13 : (v1_1 - (1 : Int32)).toInt = v1_1.toInt - (1 : Int32).toInt := isub_toInt (by omega) (by omega)
      have f14 : (v1_1 - 1).toInt64.toInt = (v1_1 - 1).toInt := Int32.toInt_toInt64 _
      have g15 : (v1_1 - 1).toInt64.toInt < p1.toInt64.toInt := Int64.lt_iff_toInt_lt.mp h_11
      refine ok_some.mpr ?_
      refine ok_some.mpr ?_
      have f16 : (vp_nar .boolean 0).toInt = 0 := by decide
      exact ⟨(show 0 ≤ (vp_nar .boolean 0).toInt by omega), (show (vp_nar .boolean 0).toInt ≤ 1 by omega)⟩
    · have f17 : (1 : Int32).toInt = 1 := by decide
      have f18 : (v1_1 - (1 : Int32)).toInt = v1_1.toInt - (1 : Int32).toInt := isub_toInt (by omega) (by omega)
      have f19 : (v1_1 - 1).toInt64.toInt = (v1_1 - 1).toInt := Int32.toInt_toInt64 _
      have g20 : ¬ (v1_1 - 1).toInt64.toInt < p1.toInt64.toInt := fun z => h_11 (Int64.lt_iff_toInt_lt.mpr z)
      refine ok_some.mpr ?_
      refine ok_some.mpr ?_
      have f21 : (vp_nar .boolean 1).toInt = 1 := by decide
      exact ⟨(show 0 ≤ (vp_nar .boolean 1).toInt by omega), (show (vp_nar .boolean 1).toInt ≤ 1 by omega)⟩
set_option maxRecDepth 20000 in
set_option maxHeartbeats 2000000 in
theorem o_fX10_point {σ : gS} (hIσ : JM σ) {p1 : Int32} {p2 : Int32}  : Ok (fX10_point σ p1 p2) (fun out => JM out.2 ∧ Fr fr_fX10_point σ out.2) := by
  unfold fX10_point
  have hfσ : Fr fr_fX10_point σ σ := Fr_r
  refine ok_bd.mpr ?_
  try unfold fX10_isPoint
  refine ok_bd.mpr ?_
  try unfold fX10_points
  have f1 : (8 : Int32).toInt = 8 := by decide
  refine ok_gd.mpr ⟨gb_of (by omega) (by omega), ?_⟩
  refine ok_nm2 (fun v1_2 ev1_2 => ?_)
  have f2 : 0 ≤ (σ.1 15 8).toInt ∧ (σ.1 15 8).toInt ≤ 20 := hIσ 15 8
  have qv1_2 : v1_2.toInt = (σ.1 15 8).toInt := congrArg Int32.toInt ev1_2
  refine ok_some.mpr ?_
  refine ok_bd.mpr ?_
  try unfold fX10_isIn
  refine ok_ite.mpr ⟨fun h_3 => ?_, fun h_3 => ?_⟩
  · have f4 : p1.toInt64.toInt = p1.toInt := Int32.toInt_toInt64 _
    have f5 : (0 : Int64).toInt = 0 := by decide
    have g6 : p1.toInt64.toInt < (0 : Int64).toInt := Int64.lt_iff_toInt_lt.mp h_3
    refine ok_some.mpr ?_
    refine ok_some.mpr ?_
    refine ok_ite.mpr ⟨fun h_7 => ?_, fun h_7 => ?_⟩
    · have f8 : (vp_nar .boolean 0).toInt = 0 := by decide
      have f9 : (0 : Int32).toInt = 0 := by decide
      have g10 : (vp_nar .boolean 0).toInt = (0 : Int32).toInt := by rw [h_7]
      refine ok_some.mpr ?_
      have f11 : (-1000000000 : Int32).toInt = -1000000000 := by decide
      exact ⟨hIσ, hfσ⟩
    · have f12 : (vp_nar .boolean 0).toInt = 0 := by decide
      have f13 : (0 : Int32).toInt = 0 := by decide
      have g14 : (vp_nar .boolean 0).toInt ≠ (0 : Int32).toInt := fun z => h_7 (Int32.toInt_inj.mp z)
      exfalso
      omega
  · have f15 : p1.toInt64.toInt = p1.toInt := Int32.toInt_toInt64 _
    have f16 : (0 : Int64).toInt = 0 := by decide
    have g17 : ¬ p1.toInt64.toInt < (0 : Int64).toInt := fun z => h_3 (Int64.lt_iff_toInt_lt.mpr z)
    refine ok_ite.mpr ⟨fun h_18 => ?_, fun h_18 => ?_⟩
    · have f19 : (1 : Int32).toInt = 1 := by decide
      have f20 : (v1_2 - (1 : Int32)).toInt = v1_2.toInt - (1 : Int32).toInt := isub_toInt (by omega) (by omega)
      have f21 : (v1_2 - 1).toInt64.toInt = (v1_2 - 1).toInt := Int32.toInt_toInt64 _
      have g22 : (v1_2 - 1).toInt64.toInt < p1.toInt64.toInt := Int64.lt_iff_toInt_lt.mp h_18
      refine ok_some.mpr ?_
      refine ok_some.mpr ?_
      refine ok_ite.mpr ⟨fun h_23 => ?_, fun h_23 => ?_⟩
      · have f24 : (vp_nar .boolean 0).toInt = 0 := by decide
        have f25 : (0 : Int32).toInt = 0 := by decide
        have g26 : (vp_nar .boolean 0).toInt = (0 : Int32).toInt := by rw [h_23]
        refine ok_some.mpr ?_
        have f27 : (-1000000000 : Int32).toInt = -1000000000 := by decide
        exact ⟨hIσ, hfσ⟩
      · have f28 : (vp_nar .boolean 0).toInt = 0 := by decide
        have f29 : (0 : Int32).toInt = 0 := by decide
        have g30 : (vp_nar .boolean 0).toInt ≠ (0 : Int32).toInt := fun z => h_23 (Int32.toInt_inj.mp z)
        exfalso
        omega
    · have f31 : (1 : Int32).toInt = 1 := by decide
      have f32 : (v1_2 - (1 : Int32)).toInt = v1_2.toInt - (1 : Int32).toInt := isub_toInt (by omega) (by omega)
      have f33 : (v1_2 - 1).toInt64.toInt = (v1_2 - 1).toInt := Int32.toInt_toInt64 _
      have g34 : ¬ (v1_2 - 1).toInt64.toInt < p1.toInt64.toInt := fun z => h_18 (Int64.lt_iff_toInt_lt.mpr z)
      refine ok_some.mpr ?_
      refine ok_some.mpr ?_
      refine ok_ite.mpr ⟨fun h_35 => ?_, fun h_35 => ?_⟩
      · have f36 : (vp_nar .boolean 1).toInt = 1 := by decide
        have f37 : (0 : Int32).toInt = 0 := by decide
        have g38 : (vp_nar .boolean 1).toInt = (0 : Int32).toInt := by rw [h_35]
        exfalso
        omega
      · have f39 : (vp_nar .boolean 1).toInt = 1 := by decide
        have f40 : (0 : Int32).toInt = 0 := by decide
        have g41 : (vp_nar .boolean 1).toInt ≠ (0 : Int32).toInt := fun z => h_35 (Int32.toInt_inj.mp z)
        refine ok_ite.mpr ⟨fun h_42 => ?_, fun h_42 => ?_⟩
        · have g43 : p2.toInt = (0 : Int32).toInt := by rw [h_42]
          have f44 : (12 : Int32).toInt = 12 := by decide
          have f45 : ((12 : Int32) + p1).toInt = (12 : Int32).toInt + p1.toInt := iadd_toInt (by omega) (by omega)
          refine ok_gd.mpr ⟨gb_of (by omega) (by omega), ?_⟩
          refine ok_nm2 (fun v4_3_9_10 ev4_3_9_10 => ?_)
          have qv4_3_9_10 : v4_3_9_10.toInt = (σ.1 28 (12 + p1).toNatClampNeg).toInt := congrArg Int32.toInt ev4_3_9_10
          refine ok_some.mpr ?_
          exact ⟨hIσ, hfσ⟩
        · have g46 : p2.toInt ≠ (0 : Int32).toInt := fun z => h_42 (Int32.toInt_inj.mp z)
          refine ok_ite.mpr ⟨fun h_47 => ?_, fun h_47 => ?_⟩
          · have g48 : p2.toInt = (1 : Int32).toInt := by rw [h_47]
            have f49 : (50 : Int32).toInt = 50 := by decide
            have f50 : ((50 : Int32) + p1).toInt = (50 : Int32).toInt + p1.toInt := iadd_toInt (by omega) (by omega)
            refine ok_gd.mpr ⟨gb_of (by omega) (by omega), ?_⟩
            refine ok_nm2 (fun v6_3_9_10 ev6_3_9_10 => ?_)
            have qv6_3_9_10 : v6_3_9_10.toInt = (σ.1 28 (50 + p1).toNatClampNeg).toInt := congrArg Int32.toInt ev6_3_9_10
            refine ok_some.mpr ?_
            exact ⟨hIσ, hfσ⟩
          · have g51 : p2.toInt ≠ (1 : Int32).toInt := fun z => h_47 (Int32.toInt_inj.mp z)
            refine ok_ite.mpr ⟨fun h_52 => ?_, fun h_52 => ?_⟩
            · have f53 : (2 : Int32).toInt = 2 := by decide
              have g54 : p2.toInt = (2 : Int32).toInt := by rw [h_52]
              have f55 : (-1 : Int32).toInt = -1 := by decide
              refine ok_bd.mpr ((o_fX10_rowsOf hIσ (p1 := (-1 : Int32)) (p2 := p1) ).mono (fun r9_3_9_10 ho_57 => ?_))
              refine ok_some.mpr ?_
              exact ⟨hIσ, hfσ⟩
            · have f58 : (2 : Int32).toInt = 2 := by decide
              have g59 : p2.toInt ≠ (2 : Int32).toInt := fun z => h_52 (Int32.toInt_inj.mp z)
              refine ok_ite.mpr ⟨fun h_60 => ?_, fun h_60 => ?_⟩
              · have f61 : (3 : Int32).toInt = 3 := by decide
                have g62 : p2.toInt = (3 : Int32).toInt := by rw [h_60]
                have f63 : (20 : Int32).toInt = 20 := by decide
                have f64 : ((20 : Int32) + p1).toInt = (20 : Int32).toInt + p1.toInt := iadd_toInt (by omega) (by omega)
                refine ok_gd.mpr ⟨gb_of (by omega) (by omega), ?_⟩
                refine ok_nm2 (fun v11_3_9_10 ev11_3_9_10 => ?_)
                have qv11_3_9_10 : v11_3_9_10.toInt = (σ.1 20 (20 + p1).toNatClampNeg).toInt := congrArg Int32.toInt ev11_3_9_10
                refine ok_ite.mpr ⟨fun h_65 => ?_, fun h_65 => ?_⟩
                · have g66 : v11_3_9_10.toInt = (0 : Int32).toInt := by rw [h_65]
                  refine ok_some.mpr ?_
                  exact ⟨hIσ, hfσ⟩
                · have g67 : v11_3_9_10.toInt ≠ (0 : Int32).toInt := fun z => h_65 (Int32.toInt_inj.mp z)
                  refine ok_some.mpr ?_
                  exact ⟨hIσ, hfσ⟩
              · have f68 : (3 : Int32).toInt = 3 := by decide
                have g69 : p2.toInt ≠ (3 : Int32).toInt := fun z => h_60 (Int32.toInt_inj.mp z)
                refine ok_ite.mpr ⟨fun h_70 => ?_, fun h_70 => ?_⟩
                · have f71 : (4 : Int32).toInt = 4 := by decide
                  have g72 : p2.toInt = (4 : Int32).toInt := by rw [h_70]
                  refine ok_bd.mpr ?_
                  try unfold fX10_isControl
                  have f73 : (20 : Int32).toInt = 20 := by decide
                  have f74 : ((20 : Int32) + p1).toInt = (20 : Int32).toInt + p1.toInt := iadd_toInt (by omega) (by omega)
                  refine ok_gd.mpr ⟨gb_of (by omega) (by omega), ?_⟩
                  refine ok_nm2 (fun v1_11 ev1_11 => ?_)
                  have qv1_11 : v1_11.toInt = (σ.1 20 (20 + p1).toNatClampNeg).toInt := congrArg Int32.toInt ev1_11
                  refine ok_nm.mpr ?_
                  refine ok_ite.mpr ⟨fun h_75 => ?_, fun h_75 => ?_⟩
                  · have g76 : v1_11.toInt = (0 : Int32).toInt := by rw [h_75]
                    refine ok_some.mpr ?_
                    refine ok_ite.mpr ⟨fun h_77 => ?_, fun h_77 => ?_⟩
                    · have g78 : (0 : Int32).toInt = (0 : Int32).toInt := by rw [h_77]
                      refine ok_some.mpr ?_
                      exact ⟨hIσ, hfσ⟩
                    · have g79 : (0 : Int32).toInt ≠ (0 : Int32).toInt := fun z => h_77 (Int32.toInt_inj.mp z)
                      exfalso
                      omega
                  · have g80 : v1_11.toInt ≠ (0 : Int32).toInt := fun z => h_75 (Int32.toInt_inj.mp z)
                    refine ok_ite.mpr ⟨fun h_81 => ?_, fun h_81 => ?_⟩
                    · have f82 : 0 ≤ (((σ.1 0 36) >>> ((v1_11 - 1) &&& 31)) &&& 1).toInt ∧ (((σ.1 0 36) >>> ((v1_11 - 1) &&& 31)) &&& 1).toInt ≤ 1 := iand_toInt (by decide) (by decide)
                      have g83 : (((σ.1 0 36) >>> ((v1_11 - 1) &&& 31)) &&& 1).toInt = (1 : Int32).toInt := by rw [h_81]
                      refine ok_some.mpr ?_
                      refine ok_ite.mpr ⟨fun h_84 => ?_, fun h_84 => ?_⟩
                      · have g85 : (1 : Int32).toInt = (0 : Int32).toInt := by rw [h_84]
                        exfalso
                        omega
                      · have g86 : (1 : Int32).toInt ≠ (0 : Int32).toInt := fun z => h_84 (Int32.toInt_inj.mp z)
                        refine ok_some.mpr ?_
                        exact ⟨hIσ, hfσ⟩
                    · have f87 : 0 ≤ (((σ.1 0 36) >>> ((v1_11 - 1) &&& 31)) &&& 1).toInt ∧ (((σ.1 0 36) >>> ((v1_11 - 1) &&& 31)) &&& 1).toInt ≤ 1 := iand_toInt (by decide) (by decide)
                      have g88 : (((σ.1 0 36) >>> ((v1_11 - 1) &&& 31)) &&& 1).toInt ≠ (1 : Int32).toInt := fun z => h_81 (Int32.toInt_inj.mp z)
                      refine ok_some.mpr ?_
                      refine ok_ite.mpr ⟨fun h_89 => ?_, fun h_89 => ?_⟩
                      · have g90 : (0 : Int32).toInt = (0 : Int32).toInt := by rw [h_89]
                        refine ok_some.mpr ?_
                        exact ⟨hIσ, hfσ⟩
                      · have g91 : (0 : Int32).toInt ≠ (0 : Int32).toInt := fun z => h_89 (Int32.toInt_inj.mp z)
                        exfalso
                        omega
                · have f92 : (4 : Int32).toInt = 4 := by decide
                  have g93 : p2.toInt ≠ (4 : Int32).toInt := fun z => h_70 (Int32.toInt_inj.mp z)
                  refine ok_ite.mpr ⟨fun h_94 => ?_, fun h_94 => ?_⟩
                  · have f95 : (5 : Int32).toInt = 5 := by decide
                    have g96 : p2.toInt = (5 : Int32).toInt := by rw [h_94]
                    refine ok_bd.mpr ((o_fX10_hangs hIσ  ).mono (fun σ19_3_9_10 ho_98 => ?_))
                    obtain ⟨hIσ19_3_9_10, hcσ19_3_9_10⟩ := ho_98
                    have hfσ19_3_9_10 : Fr fr_fX10_point σ σ19_3_9_10 := Fr_c hfσ hcσ19_3_9_10 (by decide)
                    have f99 : (12 : Int32).toInt = 12 := by decide
                    have f100 : ((12 : Int32) + p1).toInt = (12 : Int32).toInt + p1.toInt := iadd_toInt (by omega) (by omega)
                    refine ok_bd.mpr ((o_fX10_isLoose hIσ19_3_9_10 (p1 := (12 + p1)) (by omega) (by omega)).mono (fun r21_3_9_10 ho_102 => ?_))
                    obtain ⟨r0r21_3_9_10, r1r21_3_9_10⟩ := ho_102
                    refine ok_ite.mpr ⟨fun h_103 => ?_, fun h_103 => ?_⟩
                    · have g104 : r21_3_9_10.toInt = (0 : Int32).toInt := by rw [h_103]
                      refine ok_some.mpr ?_
                      exact ⟨hIσ19_3_9_10, hfσ19_3_9_10⟩
                    · have g105 : r21_3_9_10.toInt ≠ (0 : Int32).toInt := fun z => h_103 (Int32.toInt_inj.mp z)
                      refine ok_some.mpr ?_
                      exact ⟨hIσ19_3_9_10, hfσ19_3_9_10⟩
                  · have f106 : (5 : Int32).toInt = 5 := by decide
                    have g107 : p2.toInt ≠ (5 : Int32).toInt := fun z => h_94 (Int32.toInt_inj.mp z)
                    refine ok_some.mpr ?_
                    have f108 : (-1000000000 : Int32).toInt = -1000000000 := by decide
                    exact ⟨hIσ, hfσ⟩
set_option maxRecDepth 20000 in
set_option maxHeartbeats 2000000 in
theorem o_fX10_isRow {σ : gS} (hIσ : JM σ) {p1 : Int32}  : Ok (fX10_isRow σ p1) (fun out => 0 ≤ out.toInt ∧ out.toInt ≤ 1) := by
  unfold fX10_isRow
  refine ok_bd.mpr ?_
  try unfold fX10_rows
  have f1 : (9 : Int32).toInt = 9 := by decide
  refine ok_gd.mpr ⟨gb_of (by omega) (by omega), ?_⟩
  refine ok_nm2 (fun v1_1 ev1_1 => ?_)
  have f2 : 0 ≤ (σ.1 15 9).toInt ∧ (σ.1 15 9).toInt ≤ 60 := hIσ 15 9
  have qv1_1 : v1_1.toInt = (σ.1 15 9).toInt := congrArg Int32.toInt ev1_1
  refine ok_some.mpr ?_
  refine ok_bd.mpr ?_
  try unfold fX10_isIn
  refine ok_ite.mpr ⟨fun h_3 => ?_, fun h_3 => ?_⟩
  · have f4 : p1.toInt64.toInt = p1.toInt := Int32.toInt_toInt64 _
    have f5 : (0 : Int64).toInt = 0 := by decide
    have g6 : p1.toInt64.toInt < (0 : Int64).toInt := Int64.lt_iff_toInt_lt.mp h_3
    refine ok_some.mpr ?_
    refine ok_some.mpr ?_
    have f7 : (vp_nar .boolean 0).toInt = 0 := by decide
    exact ⟨(show 0 ≤ (vp_nar .boolean 0).toInt by omega), (show (vp_nar .boolean 0).toInt ≤ 1 by omega)⟩
  · have f8 : p1.toInt64.toInt = p1.toInt := Int32.toInt_toInt64 _
    have f9 : (0 : Int64).toInt = 0 := by decide
    have g10 : ¬ p1.toInt64.toInt < (0 : Int64).toInt := fun z => h_3 (Int64.lt_iff_toInt_lt.mpr z)
    refine ok_ite.mpr ⟨fun h_11 => ?_, fun h_11 => ?_⟩
    · have f12 : (1 : Int32).toInt = 1 := by decide
      have f13 : (v1_1 - (1 : Int32)).toInt = v1_1.toInt - (1 : Int32).toInt := isub_toInt (by omega) (by omega)
      have f14 : (v1_1 - 1).toInt64.toInt = (v1_1 - 1).toInt := Int32.toInt_toInt64 _
      have g15 : (v1_1 - 1).toInt64.toInt < p1.toInt64.toInt := Int64.lt_iff_toInt_lt.mp h_11
      refine ok_some.mpr ?_
      refine ok_some.mpr ?_
      have f16 : (vp_nar .boolean 0).toInt = 0 := by decide
      exact ⟨(show 0 ≤ (vp_nar .boolean 0).toInt by omega), (show (vp_nar .boolean 0).toInt ≤ 1 by omega)⟩
    · have f17 : (1 : Int32).toInt = 1 := by decide
      have f18 : (v1_1 - (1 : Int32)).toInt = v1_1.toInt - (1 : Int32).toInt := isub_toInt (by omega) (by omega)
      have f19 : (v1_1 - 1).toInt64.toInt = (v1_1 - 1).toInt := Int32.toInt_toInt64 _
      have g20 : ¬ (v1_1 - 1).toInt64.toInt < p1.toInt64.toInt := fun z => h_11 (Int64.lt_iff_toInt_lt.mpr z)
      refine ok_some.mpr ?_
      refine ok_some.mpr ?_
      have f21 : (vp_nar .boolean 1).toInt = 1 := by decide
      exact ⟨(show 0 ≤ (vp_nar .boolean 1).toInt by omega), (show (vp_nar .boolean 1).toInt ≤ 1 by omega)⟩
