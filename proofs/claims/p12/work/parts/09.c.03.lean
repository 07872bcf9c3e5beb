/-! comes through, m 3 -/
set_option maxRecDepth 20000 in
set_option maxHeartbeats 2000000 in
theorem o_fX10_centreTold {σ : gS} (hIσ : JM σ)   : Ok (fX10_centreTold σ ) (fun out => JM out ∧ Fr fr_fX10_centreTold σ out) := by
  unfold fX10_centreTold
  have hfσ : Fr fr_fX10_centreTold σ σ := Fr_r
  have f1 : (1 : Int32).toInt = 1 := by decide
  refine ok_bd2.mpr ((o_fX10_oneOf hIσ (p1 := (1 : Int32)) (by omega) (by omega)).mono (fun o_2 ho_3 => ?_))
  obtain ⟨r2, σ3⟩ := o_2
  obtain ⟨hIσ3, hcσ3, r0r2, r1r2, hp_4⟩ := ho_3
  dsimp only at hIσ3 hcσ3 r0r2 r1r2 hp_4 ⊢
  have hfσ3 : Fr fr_fX10_centreTold σ σ3 := Fr_c hfσ hcσ3 (by decide)
  refine ok_nm.mpr ?_
  refine ok_ite.mpr ⟨fun h_5 => ?_, fun h_5 => ?_⟩
  · have f6 : (0 : Int32).toInt = 0 := by decide
    have g7 : (σ3.1 0 5).toInt = (0 : Int32).toInt := by rw [h_5]
    refine ok_gd.mpr ⟨gb_of (by omega) (by omega), ?_⟩
    refine ok_nm2 (fun v28_1 ev28_1 => ?_)
    have f8 : 0 ≤ (σ3.1 18 r2.toNatClampNeg).toInt ∧ (σ3.1 18 r2.toNatClampNeg).toInt ≤ 9999 := hIσ3 18 _
    have qv28_1 : v28_1.toInt = (σ3.1 18 r2.toNatClampNeg).toInt := congrArg Int32.toInt ev28_1
    refine ok_ite.mpr ⟨fun h_9 => ?_, fun h_9 => ?_⟩
    · have g10 : v28_1.toInt = (0 : Int32).toInt := by rw [h_9]
      try unfold jX10_centreTold_31
      refine ok_bd.mpr ((o_fX10_asks hIσ3 (p1 := 9) (by decide) (by decide)).mono (fun σ7_2 ho_12 => ?_))
      obtain ⟨hIσ7_2, hcσ7_2⟩ := ho_12
      have hfσ7_2 : Fr fr_fX10_centreTold σ σ7_2 := Fr_c hfσ3 hcσ7_2 (by decide)
      have sσ7_2_0_21 : (σ7_2.1 0 21).toInt = (σ3.1 0 21).toInt := by rw [(hcσ7_2 0 21 (by decide) (by decide)).1]
      have f13 : (9999 : Int32).toInt = 9999 := by decide
      refine ok_bd2.mpr ((o_fX10_number hIσ7_2 (p1 := (0 : Int32)) (p2 := (9999 : Int32)) (by omega) (by omega) (by omega) (by omega)).mono (fun o_14 ho_15 => ?_))
      obtain ⟨r9_2, σ10_2⟩ := o_14
      obtain ⟨hIσ10_2, hcσ10_2, r0r9_2, r1r9_2⟩ := ho_15
      dsimp only at hIσ10_2 hcσ10_2 r0r9_2 r1r9_2 ⊢
      have hfσ10_2 : Fr fr_fX10_centreTold σ σ10_2 := Fr_c hfσ7_2 hcσ10_2 (by decide)
      have sσ10_2_0_21 : (σ10_2.1 0 21).toInt = (σ7_2.1 0 21).toInt := by rw [(hcσ10_2 0 21 (by decide) (by decide)).1]
      refine ok_nm.mpr ?_
      refine ok_bd2.mpr ((o_fX10_number hIσ10_2 (p1 := (0 : Int32)) (p2 := (9999 : Int32)) (by omega) (by omega) (by omega) (by omega)).mono (fun o_16 ho_17 => ?_))
      obtain ⟨r13_2_3, σ14_2_3⟩ := o_16
      obtain ⟨hIσ14_2_3, hcσ14_2_3, r0r13_2_3, r1r13_2_3⟩ := ho_17
      dsimp only at hIσ14_2_3 hcσ14_2_3 r0r13_2_3 r1r13_2_3 ⊢
      have hfσ14_2_3 : Fr fr_fX10_centreTold σ σ14_2_3 := Fr_c hfσ10_2 hcσ14_2_3 (by decide)
      have sσ14_2_3_0_21 : (σ14_2_3.1 0 21).toInt = (σ10_2.1 0 21).toInt := by rw [(hcσ14_2_3 0 21 (by decide) (by decide)).1]
      refine ok_nm.mpr ?_
      refine ok_bd.mpr ((o_fX10_asks hIσ14_2_3 (p1 := 10) (by decide) (by decide)).mono (fun σ17_2_3_4 ho_19 => ?_))
      obtain ⟨hIσ17_2_3_4, hcσ17_2_3_4⟩ := ho_19
      have hfσ17_2_3_4 : Fr fr_fX10_centreTold σ σ17_2_3_4 := Fr_c hfσ14_2_3 hcσ17_2_3_4 (by decide)
      have sσ17_2_3_4_0_21 : (σ17_2_3_4.1 0 21).toInt = (σ14_2_3.1 0 21).toInt := by rw [(hcσ17_2_3_4 0 21 (by decide) (by decide)).1]
      have f20 : (9 : Int32).toInt = 9 := by decide
      refine ok_bd2.mpr ((o_fX10_number hIσ17_2_3_4 (p1 := (1 : Int32)) (p2 := (9 : Int32)) (by omega) (by omega) (by omega) (by omega)).mono (fun o_21 ho_22 => ?_))
      obtain ⟨r19_2_3_4, σ20_2_3_4⟩ := o_21
      obtain ⟨hIσ20_2_3_4, hcσ20_2_3_4, r0r19_2_3_4, r1r19_2_3_4⟩ := ho_22
      dsimp only at hIσ20_2_3_4 hcσ20_2_3_4 r0r19_2_3_4 r1r19_2_3_4 ⊢
      have hfσ20_2_3_4 : Fr fr_fX10_centreTold σ σ20_2_3_4 := Fr_c hfσ17_2_3_4 hcσ20_2_3_4 (by decide)
      have sσ20_2_3_4_0_21 : (σ20_2_3_4.1 0 21).toInt = (σ17_2_3_4.1 0 21).toInt := by rw [(hcσ20_2_3_4 0 21 (by decide) (by decide)).1]
      refine ok_nm.mpr ?_
      refine ok_ite.mpr ⟨fun h_23 => ?_, fun h_23 => ?_⟩
      · have g24 : (σ20_2_3_4.1 0 5).toInt = (0 : Int32).toInt := by rw [h_23]
        have f25 : (2 : Int32).toInt = 2 := by decide
        have f26 : ((2 : Int32) * r2).toInt = 2 * r2.toInt := imulc (by decide) (by omega) (by omega)
        refine ok_gd.mpr ⟨gb_of (by omega) (by omega), ?_⟩
        refine ok_nm2 (fun σ23_2_3_4_5 eσ23_2_3_4_5 => ?_)
        have hIσ23_2_3_4_5 : JM σ23_2_3_4_5 := by rw [eσ23_2_3_4_5]; exact JM_w hIσ20_2_3_4 (Int32.le_toInt _) (Int32.toInt_le _)
        have hfσ23_2_3_4_5 : Fr fr_fX10_centreTold σ σ23_2_3_4_5 := by rw [eσ23_2_3_4_5]; exact Fr_w0 hfσ20_2_3_4 (by decide)
        have sσ23_2_3_4_5_0_5 : (σ23_2_3_4_5.1 0 5).toInt = (σ20_2_3_4.1 0 5).toInt := by rw [eσ23_2_3_4_5]; rfl
        have sσ23_2_3_4_5_0_21 : (σ23_2_3_4_5.1 0 21).toInt = (σ20_2_3_4.1 0 21).toInt := by rw [eσ23_2_3_4_5]; rfl
        have f27 : ((2 * r2) + (1 : Int32)).toInt = (2 * r2).toInt + (1 : Int32).toInt := iadd_toInt (by omega) (by omega)
        refine ok_gd.mpr ⟨gb_of (by omega) (by omega), ?_⟩
        refine ok_nm2 (fun σ24_2_3_4_5 eσ24_2_3_4_5 => ?_)
        have hIσ24_2_3_4_5 : JM σ24_2_3_4_5 := by rw [eσ24_2_3_4_5]; exact JM_w hIσ23_2_3_4_5 (Int32.le_toInt _) (Int32.toInt_le _)
        have hfσ24_2_3_4_5 : Fr fr_fX10_centreTold σ σ24_2_3_4_5 := by rw [eσ24_2_3_4_5]; exact Fr_w0 hfσ23_2_3_4_5 (by decide)
        have sσ24_2_3_4_5_0_5 : (σ24_2_3_4_5.1 0 5).toInt = (σ23_2_3_4_5.1 0 5).toInt := by rw [eσ24_2_3_4_5]; rfl
        have sσ24_2_3_4_5_0_21 : (σ24_2_3_4_5.1 0 21).toInt = (σ23_2_3_4_5.1 0 21).toInt := by rw [eσ24_2_3_4_5]; rfl
        refine ok_gd.mpr ⟨gb_of (by omega) (by omega), ?_⟩
        refine ok_nm2 (fun σ25_2_3_4_5 eσ25_2_3_4_5 => ?_)
        have hIσ25_2_3_4_5 : JM σ25_2_3_4_5 := by rw [eσ25_2_3_4_5]; exact JM_w hIσ24_2_3_4_5 (show 0 ≤ _ by omega) (show _ ≤ 9999 by omega)
        have hfσ25_2_3_4_5 : Fr fr_fX10_centreTold σ σ25_2_3_4_5 := by rw [eσ25_2_3_4_5]; exact Fr_w0 hfσ24_2_3_4_5 (by decide)
        have sσ25_2_3_4_5_0_5 : (σ25_2_3_4_5.1 0 5).toInt = (σ24_2_3_4_5.1 0 5).toInt := by rw [eσ25_2_3_4_5]; rfl
        have sσ25_2_3_4_5_0_21 : (σ25_2_3_4_5.1 0 21).toInt = (σ24_2_3_4_5.1 0 21).toInt := by rw [eσ25_2_3_4_5]; rfl
        have f28 : (5 : Int32).toInt = 5 := by decide
        refine ok_gd.mpr ⟨gb_of (by omega) (by omega), ?_⟩
        refine ok_nm2 (fun v26_2_3_4_5 ev26_2_3_4_5 => ?_)
        have qv26_2_3_4_5 : v26_2_3_4_5.toInt = (σ25_2_3_4_5.1 15 5).toInt := congrArg Int32.toInt ev26_2_3_4_5
        refine ok_gd.mpr ⟨gb_of (by omega) (by omega), ?_⟩
        refine ok_nm2 (fun σ27_2_3_4_5 eσ27_2_3_4_5 => ?_)
        have hIσ27_2_3_4_5 : JM σ27_2_3_4_5 := by rw [eσ27_2_3_4_5]; exact JM_w hIσ25_2_3_4_5 (Int32.le_toInt _) (Int32.toInt_le _)
        have hfσ27_2_3_4_5 : Fr fr_fX10_centreTold σ σ27_2_3_4_5 := by rw [eσ27_2_3_4_5]; exact Fr_w0 hfσ25_2_3_4_5 (by decide)
        have sσ27_2_3_4_5_0_5 : (σ27_2_3_4_5.1 0 5).toInt = (σ25_2_3_4_5.1 0 5).toInt := by rw [eσ27_2_3_4_5]; rfl
        have sσ27_2_3_4_5_0_21 : (σ27_2_3_4_5.1 0 21).toInt = (σ25_2_3_4_5.1 0 21).toInt := by rw [eσ27_2_3_4_5]; rfl
        refine ok_some.mpr ?_
        exact ⟨hIσ27_2_3_4_5, hfσ27_2_3_4_5⟩
      · have g29 : (σ20_2_3_4.1 0 5).toInt ≠ (0 : Int32).toInt := fun z => h_23 (Int32.toInt_inj.mp z)
        refine ok_some.mpr ?_
        exact ⟨hIσ20_2_3_4, hfσ20_2_3_4⟩
    · have g30 : v28_1.toInt ≠ (0 : Int32).toInt := fun z => h_9 (Int32.toInt_inj.mp z)
      have f31 : (3 : Int32).toInt = 3 := by decide
      refine ok_bd.mpr ((o_fX10_fail hIσ3 (p1 := (3 : Int32)) (p2 := (σ3.1 0 21)) (by omega) (by omega)).mono (fun σ31_1 ho_33 => ?_))
      obtain ⟨hIσ31_1, hcσ31_1, hp_34⟩ := ho_33
      have hfσ31_1 : Fr fr_fX10_centreTold σ σ31_1 := Fr_c hfσ3 hcσ31_1 (by decide)
      have sσ31_1_0_21 : (σ31_1.1 0 21).toInt = (σ3.1 0 21).toInt := by rw [(hcσ31_1 0 21 (by decide) (by decide)).1]
      try unfold jX10_centreTold_31
      refine ok_bd.mpr ((o_fX10_asks hIσ31_1 (p1 := 9) (by decide) (by decide)).mono (fun σ7_6 ho_36 => ?_))
      obtain ⟨hIσ7_6, hcσ7_6⟩ := ho_36
      have hfσ7_6 : Fr fr_fX10_centreTold σ σ7_6 := Fr_c hfσ31_1 hcσ7_6 (by decide)
      have sσ7_6_0_21 : (σ7_6.1 0 21).toInt = (σ31_1.1 0 21).toInt := by rw [(hcσ7_6 0 21 (by decide) (by decide)).1]
      have f37 : (9999 : Int32).toInt = 9999 := by decide
      refine ok_bd2.mpr ((o_fX10_number hIσ7_6 (p1 := (0 : Int32)) (p2 := (9999 : Int32)) (by omega) (by omega) (by omega) (by omega)).mono (fun o_38 ho_39 => ?_))
      obtain ⟨r9_6, σ10_6⟩ := o_38
      obtain ⟨hIσ10_6, hcσ10_6, r0r9_6, r1r9_6⟩ := ho_39
      dsimp only at hIσ10_6 hcσ10_6 r0r9_6 r1r9_6 ⊢
      have hfσ10_6 : Fr fr_fX10_centreTold σ σ10_6 := Fr_c hfσ7_6 hcσ10_6 (by decide)
      have sσ10_6_0_21 : (σ10_6.1 0 21).toInt = (σ7_6.1 0 21).toInt := by rw [(hcσ10_6 0 21 (by decide) (by decide)).1]
      refine ok_nm.mpr ?_
      refine ok_bd2.mpr ((o_fX10_number hIσ10_6 (p1 := (0 : Int32)) (p2 := (9999 : Int32)) (by omega) (by omega) (by omega) (by omega)).mono (fun o_40 ho_41 => ?_))
      obtain ⟨r13_6_7, σ14_6_7⟩ := o_40
      obtain ⟨hIσ14_6_7, hcσ14_6_7, r0r13_6_7, r1r13_6_7⟩ := ho_41
      dsimp only at hIσ14_6_7 hcσ14_6_7 r0r13_6_7 r1r13_6_7 ⊢
      have hfσ14_6_7 : Fr fr_fX10_centreTold σ σ14_6_7 := Fr_c hfσ10_6 hcσ14_6_7 (by decide)
      have sσ14_6_7_0_21 : (σ14_6_7.1 0 21).toInt = (σ10_6.1 0 21).toInt := by rw [(hcσ14_6_7 0 21 (by decide) (by decide)).1]
      refine ok_nm.mpr ?_
      refine ok_bd.mpr ((o_fX10_asks hIσ14_6_7 (p1 := 10) (by decide) (by decide)).mono (fun σ17_6_7_8 ho_43 => ?_))
      obtain ⟨hIσ17_6_7_8, hcσ17_6_7_8⟩ := ho_43
      have hfσ17_6_7_8 : Fr fr_fX10_centreTold σ σ17_6_7_8 := Fr_c hfσ14_6_7 hcσ17_6_7_8 (by decide)
      have sσ17_6_7_8_0_21 : (σ17_6_7_8.1 0 21).toInt = (σ14_6_7.1 0 21).toInt := by rw [(hcσ17_6_7_8 0 21 (by decide) (by decide)).1]
      have f44 : (9 : Int32).toInt = 9 := by decide
      refine ok_bd2.mpr ((o_fX10_number hIσ17_6_7_8 (p1 := (1 : Int32)) (p2 := (9 : Int32)) (by omega) (by omega) (by omega) (by omega)).mono (fun o_45 ho_46 => ?_))
      obtain ⟨r19_6_7_8, σ20_6_7_8⟩ := o_45
      obtain ⟨hIσ20_6_7_8, hcσ20_6_7_8, r0r19_6_7_8, r1r19_6_7_8⟩ := ho_46
      dsimp only at hIσ20_6_7_8 hcσ20_6_7_8 r0r19_6_7_8 r1r19_6_7_8 ⊢
      have hfσ20_6_7_8 : Fr fr_fX10_centreTold σ σ20_6_7_8 := Fr_c hfσ17_6_7_8 hcσ20_6_7_8 (by decide)
      have sσ20_6_7_8_0_21 : (σ20_6_7_8.1 0 21).toInt = (σ17_6_7_8.1 0 21).toInt := by rw [(hcσ20_6_7_8 0 21 (by decide) (by decide)).1]
      refine ok_nm.mpr ?_
      refine ok_ite.mpr ⟨fun h_47 => ?_, fun h_47 => ?_⟩
      · have g48 : (σ20_6_7_8.1 0 5).toInt = (0 : Int32).toInt := by rw [h_47]
        have f49 : (2 : Int32).toInt = 2 := by decide
        have f50 : ((2 : Int32) * r2).toInt = 2 * r2.toInt := imulc (by decide) (by omega) (by omega)
        refine ok_gd.mpr ⟨gb_of (by omega) (by omega), ?_⟩
        refine ok_nm2 (fun σ23_6_7_8_9 eσ23_6_7_8_9 => ?_)
        have hIσ23_6_7_8_9 : JM σ23_6_7_8_9 := by rw [eσ23_6_7_8_9]; exact JM_w hIσ20_6_7_8 (Int32.le_toInt _) (Int32.toInt_le _)
        have hfσ23_6_7_8_9 : Fr fr_fX10_centreTold σ σ23_6_7_8_9 := by rw [eσ23_6_7_8_9]; exact Fr_w0 hfσ20_6_7_8 (by decide)
        have sσ23_6_7_8_9_0_5 : (σ23_6_7_8_9.1 0 5).toInt = (σ20_6_7_8.1 0 5).toInt := by rw [eσ23_6_7_8_9]; rfl
        have sσ23_6_7_8_9_0_21 : (σ23_6_7_8_9.1 0 21).toInt = (σ20_6_7_8.1 0 21).toInt := by rw [eσ23_6_7_8_9]; rfl
        have f51 : ((2 * r2) + (1 : Int32)).toInt = (2 * r2).toInt + (1 : Int32).toInt := iadd_toInt (by omega) (by omega)
        refine ok_gd.mpr ⟨gb_of (by omega) (by omega), ?_⟩
        refine ok_nm2 (fun σ24_6_7_8_9 eσ24_6_7_8_9 => ?_)
        have hIσ24_6_7_8_9 : JM σ24_6_7_8_9 := by rw [eσ24_6_7_8_9]; exact JM_w hIσ23_6_7_8_9 (Int32.le_toInt _) (Int32.toInt_le _)
        have hfσ24_6_7_8_9 : Fr fr_fX10_centreTold σ σ24_6_7_8_9 := by rw [eσ24_6_7_8_9]; exact Fr_w0 hfσ23_6_7_8_9 (by decide)
        have sσ24_6_7_8_9_0_5 : (σ24_6_7_8_9.1 0 5).toInt = (σ23_6_7_8_9.1 0 5).toInt := by rw [eσ24_6_7_8_9]; rfl
        have sσ24_6_7_8_9_0_21 : (σ24_6_7_8_9.1 0 21).toInt = (σ23_6_7_8_9.1 0 21).toInt := by rw [eσ24_6_7_8_9]; rfl
        refine ok_gd.mpr ⟨gb_of (by omega) (by omega), ?_⟩
        refine ok_nm2 (fun σ25_6_7_8_9 eσ25_6_7_8_9 => ?_)
        have hIσ25_6_7_8_9 : JM σ25_6_7_8_9 := by rw [eσ25_6_7_8_9]; exact JM_w hIσ24_6_7_8_9 (show 0 ≤ _ by omega) (show _ ≤ 9999 by omega)
        have hfσ25_6_7_8_9 : Fr fr_fX10_centreTold σ σ25_6_7_8_9 := by rw [eσ25_6_7_8_9]; exact Fr_w0 hfσ24_6_7_8_9 (by decide)
        have sσ25_6_7_8_9_0_5 : (σ25_6_7_8_9.1 0 5).toInt = (σ24_6_7_8_9.1 0 5).toInt := by rw [eσ25_6_7_8_9]; rfl
        have sσ25_6_7_8_9_0_21 : (σ25_6_7_8_9.1 0 21).toInt = (σ24_6_7_8_9.1 0 21).toInt := by rw [eσ25_6_7_8_9]; rfl
        have f52 : (5 : Int32).toInt = 5 := by decide
        refine ok_gd.mpr ⟨gb_of (by omega) (by omega), ?_⟩
        refine ok_nm2 (fun v26_6_7_8_9 ev26_6_7_8_9 => ?_)
        have qv26_6_7_8_9 : v26_6_7_8_9.toInt = (σ25_6_7_8_9.1 15 5).toInt := congrArg Int32.toInt ev26_6_7_8_9
        refine ok_gd.mpr ⟨gb_of (by omega) (by omega), ?_⟩
        refine ok_nm2 (fun σ27_6_7_8_9 eσ27_6_7_8_9 => ?_)
        have hIσ27_6_7_8_9 : JM σ27_6_7_8_9 := by rw [eσ27_6_7_8_9]; exact JM_w hIσ25_6_7_8_9 (Int32.le_toInt _) (Int32.toInt_le _)
        have hfσ27_6_7_8_9 : Fr fr_fX10_centreTold σ σ27_6_7_8_9 := by rw [eσ27_6_7_8_9]; exact Fr_w0 hfσ25_6_7_8_9 (by decide)
        have sσ27_6_7_8_9_0_5 : (σ27_6_7_8_9.1 0 5).toInt = (σ25_6_7_8_9.1 0 5).toInt := by rw [eσ27_6_7_8_9]; rfl
        have sσ27_6_7_8_9_0_21 : (σ27_6_7_8_9.1 0 21).toInt = (σ25_6_7_8_9.1 0 21).toInt := by rw [eσ27_6_7_8_9]; rfl
        refine ok_some.mpr ?_
        exact ⟨hIσ27_6_7_8_9, hfσ27_6_7_8_9⟩
      · have g53 : (σ20_6_7_8.1 0 5).toInt ≠ (0 : Int32).toInt := fun z => h_47 (Int32.toInt_inj.mp z)
        refine ok_some.mpr ?_
        exact ⟨hIσ20_6_7_8, hfσ20_6_7_8⟩
  · have f54 : (0 : Int32).toInt = 0 := by decide
    have g55 : (σ3.1 0 5).toInt ≠ (0 : Int32).toInt := fun z => h_5 (Int32.toInt_inj.mp z)
    try unfold jX10_centreTold_31
    refine ok_bd.mpr ((o_fX10_asks hIσ3 (p1 := 9) (by decide) (by decide)).mono (fun σ7_10 ho_57 => ?_))
    obtain ⟨hIσ7_10, hcσ7_10⟩ := ho_57
    have hfσ7_10 : Fr fr_fX10_centreTold σ σ7_10 := Fr_c hfσ3 hcσ7_10 (by decide)
    have sσ7_10_0_21 : (σ7_10.1 0 21).toInt = (σ3.1 0 21).toInt := by rw [(hcσ7_10 0 21 (by decide) (by decide)).1]
    have f58 : (9999 : Int32).toInt = 9999 := by decide
    refine ok_bd2.mpr ((o_fX10_number hIσ7_10 (p1 := (0 : Int32)) (p2 := (9999 : Int32)) (by omega) (by omega) (by omega) (by omega)).mono (fun o_59 ho_60 => ?_))
    obtain ⟨r9_10, σ10_10⟩ := o_59
    obtain ⟨hIσ10_10, hcσ10_10, r0r9_10, r1r9_10⟩ := ho_60
    dsimp only at hIσ10_10 hcσ10_10 r0r9_10 r1r9_10 ⊢
    have hfσ10_10 : Fr fr_fX10_centreTold σ σ10_10 := Fr_c hfσ7_10 hcσ10_10 (by decide)
    have sσ10_10_0_21 : (σ10_10.1 0 21).toInt = (σ7_10.1 0 21).toInt := by rw [(hcσ10_10 0 21 (by decide) (by decide)).1]
    refine ok_nm.mpr ?_
    refine ok_bd2.mpr ((o_fX10_number hIσ10_10 (p1 := (0 : Int32)) (p2 := (9999 : Int32)) (by omega) (by omega) (by omega) (by omega)).mono (fun o_61 ho_62 => ?_))
    obtain ⟨r13_10_11, σ14_10_11⟩ := o_61
    obtain ⟨hIσ14_10_11, hcσ14_10_11, r0r13_10_11, r1r13_10_11⟩ := ho_62
    dsimp only at hIσ14_10_11 hcσ14_10_11 r0r13_10_11 r1r13_10_11 ⊢
    have hfσ14_10_11 : Fr fr_fX10_centreTold σ σ14_10_11 := Fr_c hfσ10_10 hcσ14_10_11 (by decide)
    have sσ14_10_11_0_21 : (σ14_10_11.1 0 21).toInt = (σ10_10.1 0 21).toInt := by rw [(hcσ14_10_11 0 21 (by decide) (by decide)).1]
    refine ok_nm.mpr ?_
    refine ok_bd.mpr ((o_fX10_asks hIσ14_10_11 (p1 := 10) (by decide) (by decide)).mono (fun σ17_10_11_12 ho_64 => ?_))
    obtain ⟨hIσ17_10_11_12, hcσ17_10_11_12⟩ := ho_64
    have hfσ17_10_11_12 : Fr fr_fX10_centreTold σ σ17_10_11_12 := Fr_c hfσ14_10_11 hcσ17_10_11_12 (by decide)
    have sσ17_10_11_12_0_21 : (σ17_10_11_12.1 0 21).toInt = (σ14_10_11.1 0 21).toInt := by rw [(hcσ17_10_11_12 0 21 (by decide) (by decide)).1]
    have f65 : (9 : Int32).toInt = 9 := by decide
    refine ok_bd2.mpr ((o_fX10_number hIσ17_10_11_12 (p1 := (1 : Int32)) (p2 := (9 : Int32)) (by omega) (by omega) (by omega) (by omega)).mono (fun o_66 ho_67 => ?_))
    obtain ⟨r19_10_11_12, σ20_10_11_12⟩ := o_66
    obtain ⟨hIσ20_10_11_12, hcσ20_10_11_12, r0r19_10_11_12, r1r19_10_11_12⟩ := ho_67
    dsimp only at hIσ20_10_11_12 hcσ20_10_11_12 r0r19_10_11_12 r1r19_10_11_12 ⊢
    have hfσ20_10_11_12 : Fr fr_fX10_centreTold σ σ20_10_11_12 := Fr_c hfσ17_10_11_12 hcσ20_10_11_12 (by decide)
    have sσ20_10_11_12_0_21 : (σ20_10_11_12.1 0 21).toInt = (σ17_10_11_12.1 0 21).toInt := by rw [(hcσ20_10_11_12 0 21 (by decide) (by decide)).1]
    refine ok_nm.mpr ?_
    refine ok_ite.mpr ⟨fun h_68 => ?_, fun h_68 => ?_⟩
    · have g69 : (σ20_10_11_12.1 0 5).toInt = (0 : Int32).toInt := by rw [h_68]
      have f70 : (2 : Int32).toInt = 2 := by decide
      have f71 : ((2 : Int32) * r2).toInt = 2 * r2.toInt := imulc (by decide) (by omega) (by omega)
      refine ok_gd.mpr ⟨gb_of (by omega) (by omega), ?_⟩
      refine ok_nm2 (fun σ23_10_11_12_13 eσ23_10_11_12_13 => ?_)
      have hIσ23_10_11_12_13 : JM σ23_10_11_12_13 := by rw [eσ23_10_11_12_13]; exact JM_w hIσ20_10_11_12 (Int32.le_toInt _) (Int32.toInt_le _)
      have hfσ23_10_11_12_13 : Fr fr_fX10_centreTold σ σ23_10_11_12_13 := by rw [eσ23_10_11_12_13]; exact Fr_w0 hfσ20_10_11_12 (by decide)
      have sσ23_10_11_12_13_0_5 : (σ23_10_11_12_13.1 0 5).toInt = (σ20_10_11_12.1 0 5).toInt := by rw [eσ23_10_11_12_13]; rfl
      have sσ23_10_11_12_13_0_21 : (σ23_10_11_12_13.1 0 21).toInt = (σ20_10_11_12.1 0 21).toInt := by rw [eσ23_10_11_12_13]; rfl
      have f72 : ((2 * r2) + (1 : Int32)).toInt = (2 * r2).toInt + (1 : Int32).toInt := iadd_toInt (by omega) (by omega)
      refine ok_gd.mpr ⟨gb_of (by omega) (by omega), ?_⟩
      refine ok_nm2 (fun σ24_10_11_12_13 eσ24_10_11_12_13 => ?_)
      have hIσ24_10_11_12_13 : JM σ24_10_11_12_13 := by rw [eσ24_10_11_12_13]; exact JM_w hIσ23_10_11_12_13 (Int32.le_toInt _) (Int32.toInt_le _)
      have hfσ24_10_11_12_13 : Fr fr_fX10_centreTold σ σ24_10_11_12_13 := by rw [eσ24_10_11_12_13]; exact Fr_w0 hfσ23_10_11_12_13 (by decide)
      have sσ24_10_11_12_13_0_5 : (σ24_10_11_12_13.1 0 5).toInt = (σ23_10_11_12_13.1 0 5).toInt := by rw [eσ24_10_11_12_13]; rfl
      have sσ24_10_11_12_13_0_21 : (σ24_10_11_12_13.1 0 21).toInt = (σ23_10_11_12_13.1 0 21).toInt := by rw [eσ24_10_11_12_13]; rfl
      refine ok_gd.mpr ⟨gb_of (by omega) (by omega), ?_⟩
      refine ok_nm2 (fun σ25_10_11_12_13 eσ25_10_11_12_13 => ?_)
      have hIσ25_10_11_12_13 : JM σ25_10_11_12_13 := by rw [eσ25_10_11_12_13]; exact JM_w hIσ24_10_11_12_13 (show 0 ≤ _ by omega) (show _ ≤ 9999 by omega)
      have hfσ25_10_11_12_13 : Fr fr_fX10_centreTold σ σ25_10_11_12_13 := by rw [eσ25_10_11_12_13]; exact Fr_w0 hfσ24_10_11_12_13 (by decide)
      have sσ25_10_11_12_13_0_5 : (σ25_10_11_12_13.1 0 5).toInt = (σ24_10_11_12_13.1 0 5).toInt := by rw [eσ25_10_11_12_13]; rfl
      have sσ25_10_11_12_13_0_21 : (σ25_10_11_12_13.1 0 21).toInt = (σ24_10_11_12_13.1 0 21).toInt := by rw [eσ25_10_11_12_13]; rfl
      have f73 : (5 : Int32).toInt = 5 := by decide
      refine ok_gd.mpr ⟨gb_of (by omega) (by omega), ?_⟩
      refine ok_nm2 (fun v26_10_11_12_13 ev26_10_11_12_13 => ?_)
      have qv26_10_11_12_13 : v26_10_11_12_13.toInt = (σ25_10_11_12_13.1 15 5).toInt := congrArg Int32.toInt ev26_10_11_12_13
      refine ok_gd.mpr ⟨gb_of (by omega) (by omega), ?_⟩
      refine ok_nm2 (fun σ27_10_11_12_13 eσ27_10_11_12_13 => ?_)
      have hIσ27_10_11_12_13 : JM σ27_10_11_12_13 := by rw [eσ27_10_11_12_13]; exact JM_w hIσ25_10_11_12_13 (Int32.le_toInt _) (Int32.toInt_le _)
      have hfσ27_10_11_12_13 : Fr fr_fX10_centreTold σ σ27_10_11_12_13 := by rw [eσ27_10_11_12_13]; exact Fr_w0 hfσ25_10_11_12_13 (by decide)
      have sσ27_10_11_12_13_0_5 : (σ27_10_11_12_13.1 0 5).toInt = (σ25_10_11_12_13.1 0 5).toInt := by rw [eσ27_10_11_12_13]; rfl
      have sσ27_10_11_12_13_0_21 : (σ27_10_11_12_13.1 0 21).toInt = (σ25_10_11_12_13.1 0 21).toInt := by rw [eσ27_10_11_12_13]; rfl
      refine ok_some.mpr ?_
      exact ⟨hIσ27_10_11_12_13, hfσ27_10_11_12_13⟩
    · have g74 : (σ20_10_11_12.1 0 5).toInt ≠ (0 : Int32).toInt := fun z => h_68 (Int32.toInt_inj.mp z)
      refine ok_some.mpr ?_
      exact ⟨hIσ20_10_11_12, hfσ20_10_11_12⟩
theorem JM_m5 {σ : gS} {k : Int32} (h0 : 0 ≤ k.toInt) (h1 : k.toInt ≤ 4) : (k.toInt = 0 → (σ.1 15 k.toNatClampNeg) = σ.1 15 0) ∧ (k.toInt = 1 → (σ.1 15 k.toNatClampNeg) = σ.1 15 1) ∧ (k.toInt = 2 → (σ.1 15 k.toNatClampNeg) = σ.1 15 2) ∧ (k.toInt = 3 → (σ.1 15 k.toNatClampNeg) = σ.1 15 3) := by
  rw [n_toInt]
  have hj : k.toInt = 0 ∨ k.toInt = 1 ∨ k.toInt = 2 ∨ k.toInt = 3 ∨ k.toInt = 4 := by omega
  rcases hj with hj | hj | hj | hj | hj <;> rw [hj] <;> refine ⟨fun z => ?_, fun z => ?_, fun z => ?_, fun z => ?_⟩ <;> first | rfl | exact absurd z (by decide)
theorem o_fX10_isFull {σ : gS} (hIσ : JM σ) {p1 : Int32} {p2 : Int32} {p3 : Int32} (h0p1 : 0 ≤ p1.toInt) (h1p1 : p1.toInt ≤ 4) (h0p2 : 6 ≤ p2.toInt) (h1p2 : p2.toInt ≤ 60) : Ok (fX10_isFull σ p1 p2 p3) (fun out => JM out.2 ∧ Fr fr_fX10_isFull σ out.2 ∧ 0 ≤ out.1.toInt ∧ out.1.toInt ≤ 1 ∧ (out.1.toInt = 0 → (out.2.1 0 5).toInt = 0 ∧ (p1.toInt = 0 → (out.2.1 15 0).toInt ≠ p2.toInt) ∧ (p1.toInt = 1 → (out.2.1 15 1).toInt ≠ p2.toInt) ∧ (p1.toInt = 2 → (out.2.1 15 2).toInt ≠ p2.toInt) ∧ (p1.toInt = 3 → (out.2.1 15 3).toInt ≠ p2.toInt))) := by
  have hm := JM_m5 (σ := σ) h0p1 h1p1
  have l0 : (0 : Int32).toInt = 0 := by decide
  unfold fX10_isFull
  have full : ∀ τ, JM τ → Fr fr_fX10_isFull σ τ → (τ.1 0 5).toInt ≠ 0 → Ok (jX10_isFull_23 τ) (fun out => JM out.2 ∧ Fr fr_fX10_isFull σ out.2 ∧ 0 ≤ out.1.toInt ∧ out.1.toInt ≤ 1 ∧ (out.1.toInt = 0 → (out.2.1 0 5).toInt = 0 ∧ (p1.toInt = 0 → (out.2.1 15 0).toInt ≠ p2.toInt) ∧ (p1.toInt = 1 → (out.2.1 15 1).toInt ≠ p2.toInt) ∧ (p1.toInt = 2 → (out.2.1 15 2).toInt ≠ p2.toInt) ∧ (p1.toInt = 3 → (out.2.1 15 3).toInt ≠ p2.toInt))) := fun τ h1 h2 h3 => by
    unfold jX10_isFull_23
    refine ok_ite.mpr ⟨fun z => absurd (by rw [z]; exact l0) h3, fun _ => ok_some.mpr ⟨h1, h2, show 0 ≤ (1 : Int32).toInt by decide, show (1 : Int32).toInt ≤ 1 by decide, fun z => absurd (show (1 : Int32).toInt = 0 from z) (by decide)⟩⟩
  refine ok_ite.mpr ⟨fun h => ?_, fun h => full σ hIσ Fr_r (fun z => h (q_of 0 (z.trans l0.symm)))⟩
  refine ok_gd.mpr ⟨gb_of h0p1 (by omega), ok_nm.mpr (ok_ite.mpr ⟨fun c => ?_, fun c => ?_⟩)⟩
  · refine ok_bd.mpr ((o_fX10_fail hIσ (p1 := 4) (p2 := p3) (by decide) (by decide)).mono (fun τ ht => ?_))
    exact full τ ht.1 (Fr_c Fr_r ht.2.1 (by decide)) ht.2.2
  · unfold jX10_isFull_23
    refine ok_ite.mpr ⟨fun _ => ok_some.mpr ⟨hIσ, Fr_r, show 0 ≤ (0 : Int32).toInt by decide, show (0 : Int32).toInt ≤ 1 by decide, fun _ => ⟨by dsimp only; rw [h]; exact l0, fun z => ?_, fun z => ?_, fun z => ?_, fun z => ?_⟩⟩, fun z => absurd h z⟩
    · exact fun y => c (Int32.toInt_inj.mp (by rw [hm.1 z]; exact y))
    · exact fun y => c (Int32.toInt_inj.mp (by rw [hm.2.1 z]; exact y))
    · exact fun y => c (Int32.toInt_inj.mp (by rw [hm.2.2.1 z]; exact y))
    · exact fun y => c (Int32.toInt_inj.mp (by rw [hm.2.2.2 z]; exact y))
set_option maxRecDepth 20000 in
set_option maxHeartbeats 2000000 in
theorem o_fX10_controlTold {σ : gS} (hIσ : JM σ) {p1 : Int32}  : Ok (fX10_controlTold σ p1) (fun out => JM out ∧ Fr fr_fX10_controlTold σ out) := by
  unfold fX10_controlTold
  have hfσ : Fr fr_fX10_controlTold σ σ := Fr_r
  have f1 : 0 ≤ (σ.1 15 0).toInt ∧ (σ.1 15 0).toInt ≤ 6 := hIσ 15 0
  have f2 : 0 ≤ (σ.1 15 1).toInt ∧ (σ.1 15 1).toInt ≤ 12 := hIσ 15 1
  have f3 : 0 ≤ (σ.1 15 2).toInt ∧ (σ.1 15 2).toInt ≤ 20 := hIσ 15 2
  have f4 : 0 ≤ (σ.1 15 3).toInt ∧ (σ.1 15 3).toInt ≤ 60 := hIσ 15 3
  have f5 : (4 : Int32).toInt = 4 := by decide
  have f6 : (10 : Int32).toInt = 10 := by decide
  refine ok_bd2.mpr ((o_fX10_isFull hIσ (p1 := (4 : Int32)) (p2 := (10 : Int32)) (p3 := p1) (by omega) (by omega) (by omega) (by omega)).mono (fun o_7 ho_8 => ?_))
  obtain ⟨r2, σ3⟩ := o_7
  obtain ⟨hIσ3, hcσ3, r0r2, r1r2, hp_9⟩ := ho_8
  dsimp only at hIσ3 hcσ3 r0r2 r1r2 hp_9 ⊢
  have hfσ3 : Fr fr_fX10_controlTold σ σ3 := Fr_c hfσ hcσ3 (by decide)
  have sσ3_0_21 : (σ3.1 0 21).toInt = (σ.1 0 21).toInt := by rw [(hcσ3 0 21 (by decide) (by decide)).1]
  have sσ3_15_0 : (σ3.1 15 0).toInt = (σ.1 15 0).toInt := by rw [(hcσ3 15 0 (by decide) (by decide)).1]
  have sσ3_15_1 : (σ3.1 15 1).toInt = (σ.1 15 1).toInt := by rw [(hcσ3 15 1 (by decide) (by decide)).1]
  have sσ3_15_2 : (σ3.1 15 2).toInt = (σ.1 15 2).toInt := by rw [(hcσ3 15 2 (by decide) (by decide)).1]
  have sσ3_15_3 : (σ3.1 15 3).toInt = (σ.1 15 3).toInt := by rw [(hcσ3 15 3 (by decide) (by decide)).1]
  refine ok_ite.mpr ⟨fun h_10 => ?_, fun h_10 => ?_⟩
  · have f11 : (0 : Int32).toInt = 0 := by decide
    have g12 : r2.toInt = (0 : Int32).toInt := by rw [h_10]
    have f13 : (2 : Int32).toInt = 2 := by decide
    refine ok_bd2.mpr ((o_fX10_oneOf hIσ3 (p1 := (2 : Int32)) (by omega) (by omega)).mono (fun o_14 ho_15 => ?_))
    obtain ⟨r6, σ7⟩ := o_14
    obtain ⟨hIσ7, hcσ7, r0r6, r1r6, hp_16⟩ := ho_15
    dsimp only at hIσ7 hcσ7 r0r6 r1r6 hp_16 ⊢
    have hfσ7 : Fr fr_fX10_controlTold σ σ7 := Fr_c hfσ3 hcσ7 (by decide)
    have sσ7_15_0 : (σ7.1 15 0).toInt = (σ3.1 15 0).toInt := by rw [(hcσ7 15 0 (by decide) (by decide)).1]
    have sσ7_15_1 : (σ7.1 15 1).toInt = (σ3.1 15 1).toInt := by rw [(hcσ7 15 1 (by decide) (by decide)).1]
    have sσ7_15_2 : (σ7.1 15 2).toInt = (σ3.1 15 2).toInt := by rw [(hcσ7 15 2 (by decide) (by decide)).1]
    have sσ7_15_3 : (σ7.1 15 3).toInt = (σ3.1 15 3).toInt := by rw [(hcσ7 15 3 (by decide) (by decide)).1]
    refine ok_nm.mpr ?_
    refine ok_ite.mpr ⟨fun h_17 => ?_, fun h_17 => ?_⟩
    · have g18 : (σ7.1 0 5).toInt = (0 : Int32).toInt := by rw [h_17]
      refine ok_gd.mpr ⟨gb_of (by omega) (by omega), ?_⟩
      refine ok_nm2 (fun v32_1 ev32_1 => ?_)
      have qv32_1 : v32_1.toInt = (σ7.1 20 r6.toNatClampNeg).toInt := congrArg Int32.toInt ev32_1
      refine ok_ite.mpr ⟨fun h_19 => ?_, fun h_19 => ?_⟩
      · have g20 : v32_1.toInt = (0 : Int32).toInt := by rw [h_19]
        try unfold jX10_controlTold_43
        refine ok_bd.mpr ((o_fX10_asks hIσ7 (p1 := 9) (by decide) (by decide)).mono (fun σ11_2 ho_22 => ?_))
        obtain ⟨hIσ11_2, hcσ11_2⟩ := ho_22
        have hfσ11_2 : Fr fr_fX10_controlTold σ σ11_2 := Fr_c hfσ7 hcσ11_2 (by decide)
        have sσ11_2_0_21 : (σ11_2.1 0 21).toInt = (σ7.1 0 21).toInt := by rw [(hcσ11_2 0 21 (by decide) (by decide)).1]
        have sσ11_2_15_0 : (σ11_2.1 15 0).toInt = (σ7.1 15 0).toInt := by rw [(hcσ11_2 15 0 (by decide) (by decide)).1]
        have sσ11_2_15_1 : (σ11_2.1 15 1).toInt = (σ7.1 15 1).toInt := by rw [(hcσ11_2 15 1 (by decide) (by decide)).1]
        have sσ11_2_15_2 : (σ11_2.1 15 2).toInt = (σ7.1 15 2).toInt := by rw [(hcσ11_2 15 2 (by decide) (by decide)).1]
        have sσ11_2_15_3 : (σ11_2.1 15 3).toInt = (σ7.1 15 3).toInt := by rw [(hcσ11_2 15 3 (by decide) (by decide)).1]
        have f23 : (9999 : Int32).toInt = 9999 := by decide
        refine ok_bd2.mpr ((o_fX10_number hIσ11_2 (p1 := (0 : Int32)) (p2 := (9999 : Int32)) (by omega) (by omega) (by omega) (by omega)).mono (fun o_24 ho_25 => ?_))
        obtain ⟨r13_2, σ14_2⟩ := o_24
        obtain ⟨hIσ14_2, hcσ14_2, r0r13_2, r1r13_2⟩ := ho_25
        dsimp only at hIσ14_2 hcσ14_2 r0r13_2 r1r13_2 ⊢
        have hfσ14_2 : Fr fr_fX10_controlTold σ σ14_2 := Fr_c hfσ11_2 hcσ14_2 (by decide)
        have sσ14_2_0_21 : (σ14_2.1 0 21).toInt = (σ11_2.1 0 21).toInt := by rw [(hcσ14_2 0 21 (by decide) (by decide)).1]
        have sσ14_2_15_0 : (σ14_2.1 15 0).toInt = (σ11_2.1 15 0).toInt := by rw [(hcσ14_2 15 0 (by decide) (by decide)).1]
        have sσ14_2_15_1 : (σ14_2.1 15 1).toInt = (σ11_2.1 15 1).toInt := by rw [(hcσ14_2 15 1 (by decide) (by decide)).1]
        have sσ14_2_15_2 : (σ14_2.1 15 2).toInt = (σ11_2.1 15 2).toInt := by rw [(hcσ14_2 15 2 (by decide) (by decide)).1]
        have sσ14_2_15_3 : (σ14_2.1 15 3).toInt = (σ11_2.1 15 3).toInt := by rw [(hcσ14_2 15 3 (by decide) (by decide)).1]
        refine ok_nm.mpr ?_
        refine ok_bd2.mpr ((o_fX10_number hIσ14_2 (p1 := (0 : Int32)) (p2 := (9999 : Int32)) (by omega) (by omega) (by omega) (by omega)).mono (fun o_26 ho_27 => ?_))
        obtain ⟨r17_2_3, σ18_2_3⟩ := o_26
        obtain ⟨hIσ18_2_3, hcσ18_2_3, r0r17_2_3, r1r17_2_3⟩ := ho_27
        dsimp only at hIσ18_2_3 hcσ18_2_3 r0r17_2_3 r1r17_2_3 ⊢
        have hfσ18_2_3 : Fr fr_fX10_controlTold σ σ18_2_3 := Fr_c hfσ14_2 hcσ18_2_3 (by decide)
        have sσ18_2_3_0_21 : (σ18_2_3.1 0 21).toInt = (σ14_2.1 0 21).toInt := by rw [(hcσ18_2_3 0 21 (by decide) (by decide)).1]
        have sσ18_2_3_15_0 : (σ18_2_3.1 15 0).toInt = (σ14_2.1 15 0).toInt := by rw [(hcσ18_2_3 15 0 (by decide) (by decide)).1]
        have sσ18_2_3_15_1 : (σ18_2_3.1 15 1).toInt = (σ14_2.1 15 1).toInt := by rw [(hcσ18_2_3 15 1 (by decide) (by decide)).1]
        have sσ18_2_3_15_2 : (σ18_2_3.1 15 2).toInt = (σ14_2.1 15 2).toInt := by rw [(hcσ18_2_3 15 2 (by decide) (by decide)).1]
        have sσ18_2_3_15_3 : (σ18_2_3.1 15 3).toInt = (σ14_2.1 15 3).toInt := by rw [(hcσ18_2_3 15 3 (by decide) (by decide)).1]
        refine ok_nm.mpr ?_
        refine ok_bd.mpr ((o_fX10_asks hIσ18_2_3 (p1 := 12) (by decide) (by decide)).mono (fun σ21_2_3_4 ho_29 => ?_))
        obtain ⟨hIσ21_2_3_4, hcσ21_2_3_4⟩ := ho_29
        have hfσ21_2_3_4 : Fr fr_fX10_controlTold σ σ21_2_3_4 := Fr_c hfσ18_2_3 hcσ21_2_3_4 (by decide)
        have sσ21_2_3_4_0_21 : (σ21_2_3_4.1 0 21).toInt = (σ18_2_3.1 0 21).toInt := by rw [(hcσ21_2_3_4 0 21 (by decide) (by decide)).1]
        have sσ21_2_3_4_15_0 : (σ21_2_3_4.1 15 0).toInt = (σ18_2_3.1 15 0).toInt := by rw [(hcσ21_2_3_4 15 0 (by decide) (by decide)).1]
        have sσ21_2_3_4_15_1 : (σ21_2_3_4.1 15 1).toInt = (σ18_2_3.1 15 1).toInt := by rw [(hcσ21_2_3_4 15 1 (by decide) (by decide)).1]
        have sσ21_2_3_4_15_2 : (σ21_2_3_4.1 15 2).toInt = (σ18_2_3.1 15 2).toInt := by rw [(hcσ21_2_3_4 15 2 (by decide) (by decide)).1]
        have sσ21_2_3_4_15_3 : (σ21_2_3_4.1 15 3).toInt = (σ18_2_3.1 15 3).toInt := by rw [(hcσ21_2_3_4 15 3 (by decide) (by decide)).1]
        have f30 : (1 : Int32).toInt = 1 := by decide
        refine ok_bd2.mpr ((o_fX10_number hIσ21_2_3_4 (p1 := (1 : Int32)) (p2 := (2 : Int32)) (by omega) (by omega) (by omega) (by omega)).mono (fun o_31 ho_32 => ?_))
        obtain ⟨r23_2_3_4, σ24_2_3_4⟩ := o_31
        obtain ⟨hIσ24_2_3_4, hcσ24_2_3_4, r0r23_2_3_4, r1r23_2_3_4⟩ := ho_32
        dsimp only at hIσ24_2_3_4 hcσ24_2_3_4 r0r23_2_3_4 r1r23_2_3_4 ⊢
        have hfσ24_2_3_4 : Fr fr_fX10_controlTold σ σ24_2_3_4 := Fr_c hfσ21_2_3_4 hcσ24_2_3_4 (by decide)
        have sσ24_2_3_4_0_21 : (σ24_2_3_4.1 0 21).toInt = (σ21_2_3_4.1 0 21).toInt := by rw [(hcσ24_2_3_4 0 21 (by decide) (by decide)).1]
        have sσ24_2_3_4_15_0 : (σ24_2_3_4.1 15 0).toInt = (σ21_2_3_4.1 15 0).toInt := by rw [(hcσ24_2_3_4 15 0 (by decide) (by decide)).1]
        have sσ24_2_3_4_15_1 : (σ24_2_3_4.1 15 1).toInt = (σ21_2_3_4.1 15 1).toInt := by rw [(hcσ24_2_3_4 15 1 (by decide) (by decide)).1]
        have sσ24_2_3_4_15_2 : (σ24_2_3_4.1 15 2).toInt = (σ21_2_3_4.1 15 2).toInt := by rw [(hcσ24_2_3_4 15 2 (by decide) (by decide)).1]
        have sσ24_2_3_4_15_3 : (σ24_2_3_4.1 15 3).toInt = (σ21_2_3_4.1 15 3).toInt := by rw [(hcσ24_2_3_4 15 3 (by decide) (by decide)).1]
        refine ok_nm.mpr ?_
        refine ok_ite.mpr ⟨fun h_33 => ?_, fun h_33 => ?_⟩
        · have g34 : (σ24_2_3_4.1 0 5).toInt = (0 : Int32).toInt := by rw [h_33]
          have f35 : ((2 : Int32) * r6).toInt = 2 * r6.toInt := imulc (by decide) (by omega) (by omega)
          refine ok_gd.mpr ⟨gb_of (by omega) (by omega), ?_⟩
          refine ok_nm2 (fun σ27_2_3_4_5 eσ27_2_3_4_5 => ?_)
          have hIσ27_2_3_4_5 : JM σ27_2_3_4_5 := by rw [eσ27_2_3_4_5]; exact JM_w hIσ24_2_3_4 (Int32.le_toInt _) (Int32.toInt_le _)
          have hfσ27_2_3_4_5 : Fr fr_fX10_controlTold σ σ27_2_3_4_5 := by rw [eσ27_2_3_4_5]; exact Fr_w0 hfσ24_2_3_4 (by decide)
          have sσ27_2_3_4_5_0_5 : (σ27_2_3_4_5.1 0 5).toInt = (σ24_2_3_4.1 0 5).toInt := by rw [eσ27_2_3_4_5]; rfl
          have sσ27_2_3_4_5_0_21 : (σ27_2_3_4_5.1 0 21).toInt = (σ24_2_3_4.1 0 21).toInt := by rw [eσ27_2_3_4_5]; rfl
          have sσ27_2_3_4_5_15_0 : (σ27_2_3_4_5.1 15 0).toInt = (σ24_2_3_4.1 15 0).toInt := by rw [eσ27_2_3_4_5]; rfl
          have sσ27_2_3_4_5_15_1 : (σ27_2_3_4_5.1 15 1).toInt = (σ24_2_3_4.1 15 1).toInt := by rw [eσ27_2_3_4_5]; rfl
          have sσ27_2_3_4_5_15_2 : (σ27_2_3_4_5.1 15 2).toInt = (σ24_2_3_4.1 15 2).toInt := by rw [eσ27_2_3_4_5]; rfl
          have sσ27_2_3_4_5_15_3 : (σ27_2_3_4_5.1 15 3).toInt = (σ24_2_3_4.1 15 3).toInt := by rw [eσ27_2_3_4_5]; rfl
          have f36 : ((2 * r6) + (1 : Int32)).toInt = (2 * r6).toInt + (1 : Int32).toInt := iadd_toInt (by omega) (by omega)
          refine ok_gd.mpr ⟨gb_of (by omega) (by omega), ?_⟩
          refine ok_nm2 (fun σ28_2_3_4_5 eσ28_2_3_4_5 => ?_)
          have hIσ28_2_3_4_5 : JM σ28_2_3_4_5 := by rw [eσ28_2_3_4_5]; exact JM_w hIσ27_2_3_4_5 (Int32.le_toInt _) (Int32.toInt_le _)
          have hfσ28_2_3_4_5 : Fr fr_fX10_controlTold σ σ28_2_3_4_5 := by rw [eσ28_2_3_4_5]; exact Fr_w0 hfσ27_2_3_4_5 (by decide)
          have sσ28_2_3_4_5_0_5 : (σ28_2_3_4_5.1 0 5).toInt = (σ27_2_3_4_5.1 0 5).toInt := by rw [eσ28_2_3_4_5]; rfl
          have sσ28_2_3_4_5_0_21 : (σ28_2_3_4_5.1 0 21).toInt = (σ27_2_3_4_5.1 0 21).toInt := by rw [eσ28_2_3_4_5]; rfl
          have sσ28_2_3_4_5_15_0 : (σ28_2_3_4_5.1 15 0).toInt = (σ27_2_3_4_5.1 15 0).toInt := by rw [eσ28_2_3_4_5]; rfl
          have sσ28_2_3_4_5_15_1 : (σ28_2_3_4_5.1 15 1).toInt = (σ27_2_3_4_5.1 15 1).toInt := by rw [eσ28_2_3_4_5]; rfl
          have sσ28_2_3_4_5_15_2 : (σ28_2_3_4_5.1 15 2).toInt = (σ27_2_3_4_5.1 15 2).toInt := by rw [eσ28_2_3_4_5]; rfl
          have sσ28_2_3_4_5_15_3 : (σ28_2_3_4_5.1 15 3).toInt = (σ27_2_3_4_5.1 15 3).toInt := by rw [eσ28_2_3_4_5]; rfl
          refine ok_gd.mpr ⟨gb_of (by omega) (by omega), ?_⟩
          refine ok_nm2 (fun σ29_2_3_4_5 eσ29_2_3_4_5 => ?_)
          have hIσ29_2_3_4_5 : JM σ29_2_3_4_5 := by rw [eσ29_2_3_4_5]; exact JM_w hIσ28_2_3_4_5 (Int32.le_toInt _) (Int32.toInt_le _)
          have hfσ29_2_3_4_5 : Fr fr_fX10_controlTold σ σ29_2_3_4_5 := by rw [eσ29_2_3_4_5]; exact Fr_w0 hfσ28_2_3_4_5 (by decide)
          have sσ29_2_3_4_5_0_5 : (σ29_2_3_4_5.1 0 5).toInt = (σ28_2_3_4_5.1 0 5).toInt := by rw [eσ29_2_3_4_5]; rfl
          have sσ29_2_3_4_5_0_21 : (σ29_2_3_4_5.1 0 21).toInt = (σ28_2_3_4_5.1 0 21).toInt := by rw [eσ29_2_3_4_5]; rfl
          have sσ29_2_3_4_5_15_0 : (σ29_2_3_4_5.1 15 0).toInt = (σ28_2_3_4_5.1 15 0).toInt := by rw [eσ29_2_3_4_5]; rfl
          have sσ29_2_3_4_5_15_1 : (σ29_2_3_4_5.1 15 1).toInt = (σ28_2_3_4_5.1 15 1).toInt := by rw [eσ29_2_3_4_5]; rfl
          have sσ29_2_3_4_5_15_2 : (σ29_2_3_4_5.1 15 2).toInt = (σ28_2_3_4_5.1 15 2).toInt := by rw [eσ29_2_3_4_5]; rfl
          have sσ29_2_3_4_5_15_3 : (σ29_2_3_4_5.1 15 3).toInt = (σ28_2_3_4_5.1 15 3).toInt := by rw [eσ29_2_3_4_5]; rfl
          refine ok_gd.mpr ⟨gb_of (by omega) (by omega), ?_⟩
          refine ok_nm2 (fun v30_2_3_4_5 ev30_2_3_4_5 => ?_)
          have qv30_2_3_4_5 : v30_2_3_4_5.toInt = (σ29_2_3_4_5.1 15 4).toInt := congrArg Int32.toInt ev30_2_3_4_5
          refine ok_gd.mpr ⟨gb_of (by omega) (by omega), ?_⟩
          refine ok_nm2 (fun σ31_2_3_4_5 eσ31_2_3_4_5 => ?_)
          have hIσ31_2_3_4_5 : JM σ31_2_3_4_5 := by rw [eσ31_2_3_4_5]; exact JM_w hIσ29_2_3_4_5 (Int32.le_toInt _) (Int32.toInt_le _)
          have hfσ31_2_3_4_5 : Fr fr_fX10_controlTold σ σ31_2_3_4_5 := by rw [eσ31_2_3_4_5]; exact Fr_w0 hfσ29_2_3_4_5 (by decide)
          have sσ31_2_3_4_5_0_5 : (σ31_2_3_4_5.1 0 5).toInt = (σ29_2_3_4_5.1 0 5).toInt := by rw [eσ31_2_3_4_5]; rfl
          have sσ31_2_3_4_5_0_21 : (σ31_2_3_4_5.1 0 21).toInt = (σ29_2_3_4_5.1 0 21).toInt := by rw [eσ31_2_3_4_5]; rfl
          have sσ31_2_3_4_5_15_0 : (σ31_2_3_4_5.1 15 0).toInt = (σ29_2_3_4_5.1 15 0).toInt := by rw [eσ31_2_3_4_5]; rfl
          have sσ31_2_3_4_5_15_1 : (σ31_2_3_4_5.1 15 1).toInt = (σ29_2_3_4_5.1 15 1).toInt := by rw [eσ31_2_3_4_5]; rfl
          have sσ31_2_3_4_5_15_2 : (σ31_2_3_4_5.1 15 2).toInt = (σ29_2_3_4_5.1 15 2).toInt := by rw [eσ31_2_3_4_5]; rfl
          have sσ31_2_3_4_5_15_3 : (σ31_2_3_4_5.1 15 3).toInt = (σ29_2_3_4_5.1 15 3).toInt := by rw [eσ31_2_3_4_5]; rfl
          refine ok_some.mpr ?_
          exact ⟨hIσ31_2_3_4_5, hfσ31_2_3_4_5⟩
        · have g37 : (σ24_2_3_4.1 0 5).toInt ≠ (0 : Int32).toInt := fun z => h_33 (Int32.toInt_inj.mp z)
          refine ok_some.mpr ?_
          exact ⟨hIσ24_2_3_4, hfσ24_2_3_4⟩
      · have g38 : v32_1.toInt ≠ (0 : Int32).toInt := fun z => h_19 (Int32.toInt_inj.mp z)
        have f39 : (3 : Int32).toInt = 3 := by decide
        refine ok_bd.mpr ((o_fX10_fail hIσ7 (p1 := (3 : Int32)) (p2 := (σ7.1 0 21)) (by omega) (by omega)).mono (fun σ35_1 ho_41 => ?_))
        obtain ⟨hIσ35_1, hcσ35_1, hp_42⟩ := ho_41
        have hfσ35_1 : Fr fr_fX10_controlTold σ σ35_1 := Fr_c hfσ7 hcσ35_1 (by decide)
        have sσ35_1_0_21 : (σ35_1.1 0 21).toInt = (σ7.1 0 21).toInt := by rw [(hcσ35_1 0 21 (by decide) (by decide)).1]
        have sσ35_1_15_0 : (σ35_1.1 15 0).toInt = (σ7.1 15 0).toInt := by rw [(hcσ35_1 15 0 (by decide) (by decide)).1]
        have sσ35_1_15_1 : (σ35_1.1 15 1).toInt = (σ7.1 15 1).toInt := by rw [(hcσ35_1 15 1 (by decide) (by decide)).1]
        have sσ35_1_15_2 : (σ35_1.1 15 2).toInt = (σ7.1 15 2).toInt := by rw [(hcσ35_1 15 2 (by decide) (by decide)).1]
        have sσ35_1_15_3 : (σ35_1.1 15 3).toInt = (σ7.1 15 3).toInt := by rw [(hcσ35_1 15 3 (by decide) (by decide)).1]
        try unfold jX10_controlTold_43
        refine ok_bd.mpr ((o_fX10_asks hIσ35_1 (p1 := 9) (by decide) (by decide)).mono (fun σ11_6 ho_44 => ?_))
        obtain ⟨hIσ11_6, hcσ11_6⟩ := ho_44
        have hfσ11_6 : Fr fr_fX10_controlTold σ σ11_6 := Fr_c hfσ35_1 hcσ11_6 (by decide)
        have sσ11_6_0_21 : (σ11_6.1 0 21).toInt = (σ35_1.1 0 21).toInt := by rw [(hcσ11_6 0 21 (by decide) (by decide)).1]
        have sσ11_6_15_0 : (σ11_6.1 15 0).toInt = (σ35_1.1 15 0).toInt := by rw [(hcσ11_6 15 0 (by decide) (by decide)).1]
        have sσ11_6_15_1 : (σ11_6.1 15 1).toInt = (σ35_1.1 15 1).toInt := by rw [(hcσ11_6 15 1 (by decide) (by decide)).1]
        have sσ11_6_15_2 : (σ11_6.1 15 2).toInt = (σ35_1.1 15 2).toInt := by rw [(hcσ11_6 15 2 (by decide) (by decide)).1]
        have sσ11_6_15_3 : (σ11_6.1 15 3).toInt = (σ35_1.1 15 3).toInt := by rw [(hcσ11_6 15 3 (by decide) (by decide)).1]
        have f45 : (9999 : Int32).toInt = 9999 := by decide
        refine ok_bd2.mpr ((o_fX10_number hIσ11_6 (p1 := (0 : Int32)) (p2 := (9999 : Int32)) (by omega) (by omega) (by omega) (by omega)).mono (fun o_46 ho_47 => ?_))
        obtain ⟨r13_6, σ14_6⟩ := o_46
        obtain ⟨hIσ14_6, hcσ14_6, r0r13_6, r1r13_6⟩ := ho_47
        dsimp only at hIσ14_6 hcσ14_6 r0r13_6 r1r13_6 ⊢
        have hfσ14_6 : Fr fr_fX10_controlTold σ σ14_6 := Fr_c hfσ11_6 hcσ14_6 (by decide)
        have sσ14_6_0_21 : (σ14_6.1 0 21).toInt = (σ11_6.1 0 21).toInt := by rw [(hcσ14_6 0 21 (by decide) (by decide)).1]
        have sσ14_6_15_0 : (σ14_6.1 15 0).toInt = (σ11_6.1 15 0).toInt := by rw [(hcσ14_6 15 0 (by decide) (by decide)).1]
        have sσ14_6_15_1 : (σ14_6.1 15 1).toInt = (σ11_6.1 15 1).toInt := by rw [(hcσ14_6 15 1 (by decide) (by decide)).1]
        have sσ14_6_15_2 : (σ14_6.1 15 2).toInt = (σ11_6.1 15 2).toInt := by rw [(hcσ14_6 15 2 (by decide) (by decide)).1]
        have sσ14_6_15_3 : (σ14_6.1 15 3).toInt = (σ11_6.1 15 3).toInt := by rw [(hcσ14_6 15 3 (by decide) (by decide)).1]
        refine ok_nm.mpr ?_
        refine ok_bd2.mpr ((o_fX10_number hIσ14_6 (p1 := (0 : Int32)) (p2 := (9999 : Int32)) (by omega) (by omega) (by omega) (by omega)).mono (fun o_48 ho_49 => ?_))
        obtain ⟨r17_6_7, σ18_6_7⟩ := o_48
        obtain ⟨hIσ18_6_7, hcσ18_6_7, r0r17_6_7, r1r17_6_7⟩ := ho_49
        dsimp only at hIσ18_6_7 hcσ18_6_7 r0r17_6_7 r1r17_6_7 ⊢
        have hfσ18_6_7 : Fr fr_fX10_controlTold σ σ18_6_7 := Fr_c hfσ14_6 hcσ18_6_7 (by decide)
        have sσ18_6_7_0_21 : (σ18_6_7.1 0 21).toInt = (σ14_6.1 0 21).toInt := by rw [(hcσ18_6_7 0 21 (by decide) (by decide)).1]
        have sσ18_6_7_15_0 : (σ18_6_7.1 15 0).toInt = (σ14_6.1 15 0).toInt := by rw [(hcσ18_6_7 15 0 (by decide) (by decide)).1]
        have sσ18_6_7_15_1 : (σ18_6_7.1 15 1).toInt = (σ14_6.1 15 1).toInt := by rw [(hcσ18_6_7 15 1 (by decide) (by decide)).1]
        have sσ18_6_7_15_2 : (σ18_6_7.1 15 2).toInt = (σ14_6.1 15 2).toInt := by rw [(hcσ18_6_7 15 2 (by decide) (by decide)).1]
        have sσ18_6_7_15_3 : (σ18_6_7.1 15 3).toInt = (σ14_6.1 15 3).toInt := by rw [(hcσ18_6_7 15 3 (by decide) (by decide)).1]
        refine ok_nm.mpr ?_
        refine ok_bd.mpr ((o_fX10_asks hIσ18_6_7 (p1 := 12) (by decide) (by decide)).mono (fun σ21_6_7_8 ho_51 => ?_))
        obtain ⟨hIσ21_6_7_8, hcσ21_6_7_8⟩ := ho_51
        have hfσ21_6_7_8 : Fr fr_fX10_controlTold σ σ21_6_7_8 := Fr_c hfσ18_6_7 hcσ21_6_7_8 (by decide)
        have sσ21_6_7_8_0_21 : (σ21_6_7_8.1 0 21).toInt = (σ18_6_7.1 0 21).toInt := by rw [(hcσ21_6_7_8 0 21 (by decide) (by decide)).1]
        have sσ21_6_7_8_15_0 : (σ21_6_7_8.1 15 0).toInt = (σ18_6_7.1 15 0).toInt := by rw [(hcσ21_6_7_8 15 0 (by decide) (by decide)).1]
        have sσ21_6_7_8_15_1 : (σ21_6_7_8.1 15 1).toInt = (σ18_6_7.1 15 1).toInt := by rw [(hcσ21_6_7_8 15 1 (by decide) (by decide)).1]
        have sσ21_6_7_8_15_2 : (σ21_6_7_8.1 15 2).toInt = (σ18_6_7.1 15 2).toInt := by rw [(hcσ21_6_7_8 15 2 (by decide) (by decide)).1]
        have sσ21_6_7_8_15_3 : (σ21_6_7_8.1 15 3).toInt = (σ18_6_7.1 15 3).toInt := by rw [(hcσ21_6_7_8 15 3 (by decide) (by decide)).1]
        have f52 : (1 : Int32).toInt = 1 := by decide
        refine ok_bd2.mpr ((o_fX10_number hIσ21_6_7_8 (p1 := (1 : Int32)) (p2 := (2 : Int32)) (by omega) (by omega) (by omega) (by omega)).mono (fun o_53 ho_54 => ?_))
        obtain ⟨r23_6_7_8, σ24_6_7_8⟩ := o_53
        obtain ⟨hIσ24_6_7_8, hcσ24_6_7_8, r0r23_6_7_8, r1r23_6_7_8⟩ := ho_54
        dsimp only at hIσ24_6_7_8 hcσ24_6_7_8 r0r23_6_7_8 r1r23_6_7_8 ⊢
        have hfσ24_6_7_8 : Fr fr_fX10_controlTold σ σ24_6_7_8 := Fr_c hfσ21_6_7_8 hcσ24_6_7_8 (by decide)
        have sσ24_6_7_8_0_21 : (σ24_6_7_8.1 0 21).toInt = (σ21_6_7_8.1 0 21).toInt := by rw [(hcσ24_6_7_8 0 21 (by decide) (by decide)).1]
        have sσ24_6_7_8_15_0 : (σ24_6_7_8.1 15 0).toInt = (σ21_6_7_8.1 15 0).toInt := by rw [(hcσ24_6_7_8 15 0 (by decide) (by decide)).1]
        have sσ24_6_7_8_15_1 : (σ24_6_7_8.1 15 1).toInt = (σ21_6_7_8.1 15 1).toInt := by rw [(hcσ24_6_7_8 15 1 (by decide) (by decide)).1]
        have sσ24_6_7_8_15_2 : (σ24_6_7_8.1 15 2).toInt = (σ21_6_7_8.1 15 2).toInt := by rw [(hcσ24_6_7_8 15 2 (by decide) (by decide)).1]
        have sσ24_6_7_8_15_3 : (σ24_6_7_8.1 15 3).toInt = (σ21_6_7_8.1 15 3).toInt := by rw [(hcσ24_6_7_8 15 3 (by decide) (by decide)).1]
        refine ok_nm.mpr ?_
        refine ok_ite.mpr ⟨fun h_55 => ?_, fun h_55 => ?_⟩
        · have g56 : (σ24_6_7_8.1 0 5).toInt = (0 : Int32).toInt := by rw [h_55]
          have f57 : ((2 : Int32) * r6).toInt = 2 * r6.toInt := imulc (by decide) (by omega) (by omega)
          refine ok_gd.mpr ⟨gb_of (by omega) (by omega), ?_⟩
          refine ok_nm2 (fun σ27_6_7_8_9 eσ27_6_7_8_9 => ?_)
          have hIσ27_6_7_8_9 : JM σ27_6_7_8_9 := by rw [eσ27_6_7_8_9]; exact JM_w hIσ24_6_7_8 (Int32.le_toInt _) (Int32.toInt_le _)
          have hfσ27_6_7_8_9 : Fr fr_fX10_controlTold σ σ27_6_7_8_9 := by rw [eσ27_6_7_8_9]; exact Fr_w0 hfσ24_6_7_8 (by decide)
          have sσ27_6_7_8_9_0_5 : (σ27_6_7_8_9.1 0 5).toInt = (σ24_6_7_8.1 0 5).toInt := by rw [eσ27_6_7_8_9]; rfl
          have sσ27_6_7_8_9_0_21 : (σ27_6_7_8_9.1 0 21).toInt = (σ24_6_7_8.1 0 21).toInt := by rw [eσ27_6_7_8_9]; rfl
          have sσ27_6_7_8_9_15_0 : (σ27_6_7_8_9.1 15 0).toInt = (σ24_6_7_8.1 15 0).toInt := by rw [eσ27_6_7_8_9]; rfl
          have sσ27_6_7_8_9_15_1 : (σ27_6_7_8_9.1 15 1).toInt = (σ24_6_7_8.1 15 1).toInt := by rw [eσ27_6_7_8_9]; rfl
          have sσ27_6_7_8_9_15_2 : (σ27_6_7_8_9.1 15 2).toInt = (σ24_6_7_8.1 15 2).toInt := by rw [eσ27_6_7_8_9]; rfl
          have sσ27_6_7_8_9_15_3 : (σ27_6_7_8_9.1 15 3).toInt = (σ24_6_7_8.1 15 3).toInt := by rw [eσ27_6_7_8_9]; rfl
          have f58 : ((2 * r6) + (1 : Int32)).toInt = (2 * r6).toInt + (1 : Int32).toInt := iadd_toInt (by omega) (by omega)
          refine ok_gd.mpr ⟨gb_of (by omega) (by omega), ?_⟩
          refine ok_nm2 (fun σ28_6_7_8_9 eσ28_6_7_8_9 => ?_)
          have hIσ28_6_7_8_9 : JM σ28_6_7_8_9 := by rw [eσ28_6_7_8_9]; exact JM_w hIσ27_6_7_8_9 (Int32.le_toInt _) (Int32.toInt_le _)
          have hfσ28_6_7_8_9 : Fr fr_fX10_controlTold σ σ28_6_7_8_9 := by rw [eσ28_6_7_8_9]; exact Fr_w0 hfσ27_6_7_8_9 (by decide)
          have sσ28_6_7_8_9_0_5 : (σ28_6_7_8_9.1 0 5).toInt = (σ27_6_7_8_9.1 0 5).toInt := by rw [eσ28_6_7_8_9]; rfl
          have sσ28_6_7_8_9_0_21 : (σ28_6_7_8_9.1 0 21).toInt = (σ27_6_7_8_9.1 0 21).toInt := by rw [eσ28_6_7_8_9]; rfl
          have sσ28_6_7_8_9_15_0 : (σ28_6_7_8_9.1 15 0).toInt = (σ27_6_7_8_9.1 15 0).toInt := by rw [eσ28_6_7_8_9]; rfl
          have sσ28_6_7_8_9_15_1 : (σ28_6_7_8_9.1 15 1).toInt = (σ27_6_7_8_9.1 15 1).toInt := by rw [eσ28_6_7_8_9]; rfl
          have sσ28_6_7_8_9_15_2 : (σ28_6_7_8_9.1 15 2).toInt = (σ27_6_7_8_9.1 15 2).toInt := by rw [eσ28_6_7_8_9]; rfl
          have sσ28_6_7_8_9_15_3 : (σ28_6_7_8_9.1 15 3).toInt = (σ27_6_7_8_9.1 15 3).toInt := by rw [eσ28_6_7_8_9]; rfl
          refine ok_gd.mpr ⟨gb_of (by omega) (by omega), ?_⟩
          refine ok_nm2 (fun σ29_6_7_8_9 eσ29_6_7_8_9 => ?_)
          have hIσ29_6_7_8_9 : JM σ29_6_7_8_9 := by rw [eσ29_6_7_8_9]; exact JM_w hIσ28_6_7_8_9 (Int32.le_toInt _) (Int32.toInt_le _)
          have hfσ29_6_7_8_9 : Fr fr_fX10_controlTold σ σ29_6_7_8_9 := by rw [eσ29_6_7_8_9]; exact Fr_w0 hfσ28_6_7_8_9 (by decide)
          have sσ29_6_7_8_9_0_5 : (σ29_6_7_8_9.1 0 5).toInt = (σ28_6_7_8_9.1 0 5).toInt := by rw [eσ29_6_7_8_9]; rfl
          have sσ29_6_7_8_9_0_21 : (σ29_6_7_8_9.1 0 21).toInt = (σ28_6_7_8_9.1 0 21).toInt := by rw [eσ29_6_7_8_9]; rfl
          have sσ29_6_7_8_9_15_0 : (σ29_6_7_8_9.1 15 0).toInt = (σ28_6_7_8_9.1 15 0).toInt := by rw [eσ29_6_7_8_9]; rfl
          have sσ29_6_7_8_9_15_1 : (σ29_6_7_8_9.1 15 1).toInt = (σ28_6_7_8_9.1 15 1).toInt := by rw [eσ29_6_7_8_9]; rfl
          have sσ29_6_7_8_9_15_2 : (σ29_6_7_8_9.1 15 2).toInt = (σ28_6_7_8_9.1 15 2).toInt := by rw [eσ29_6_7_8_9]; rfl
          have sσ29_6_7_8_9_15_3 : (σ29_6_7_8_9.1 15 3).toInt = (σ28_6_7_8_9.1 15 3).toInt := by rw [eσ29_6_7_8_9]; rfl
          refine ok_gd.mpr ⟨gb_of (by omega) (by omega), ?_⟩
          refine ok_nm2 (fun v30_6_7_8_9 ev30_6_7_8_9 => ?_)
          have qv30_6_7_8_9 : v30_6_7_8_9.toInt = (σ29_6_7_8_9.1 15 4).toInt := congrArg Int32.toInt ev30_6_7_8_9
          refine ok_gd.mpr ⟨gb_of (by omega) (by omega), ?_⟩
          refine ok_nm2 (fun σ31_6_7_8_9 eσ31_6_7_8_9 => ?_)
          have hIσ31_6_7_8_9 : JM σ31_6_7_8_9 := by rw [eσ31_6_7_8_9]; exact JM_w hIσ29_6_7_8_9 (Int32.le_toInt _) (Int32.toInt_le _)
          have hfσ31_6_7_8_9 : Fr fr_fX10_controlTold σ σ31_6_7_8_9 := by rw [eσ31_6_7_8_9]; exact Fr_w0 hfσ29_6_7_8_9 (by decide)
          have sσ31_6_7_8_9_0_5 : (σ31_6_7_8_9.1 0 5).toInt = (σ29_6_7_8_9.1 0 5).toInt := by rw [eσ31_6_7_8_9]; rfl
          have sσ31_6_7_8_9_0_21 : (σ31_6_7_8_9.1 0 21).toInt = (σ29_6_7_8_9.1 0 21).toInt := by rw [eσ31_6_7_8_9]; rfl
          have sσ31_6_7_8_9_15_0 : (σ31_6_7_8_9.1 15 0).toInt = (σ29_6_7_8_9.1 15 0).toInt := by rw [eσ31_6_7_8_9]; rfl
          have sσ31_6_7_8_9_15_1 : (σ31_6_7_8_9.1 15 1).toInt = (σ29_6_7_8_9.1 15 1).toInt := by rw [eσ31_6_7_8_9]; rfl
          have sσ31_6_7_8_9_15_2 : (σ31_6_7_8_9.1 15 2).toInt = (σ29_6_7_8_9.1 15 2).toInt := by rw [eσ31_6_7_8_9]; rfl
          have sσ31_6_7_8_9_15_3 : (σ31_6_7_8_9.1 15 3).toInt = (σ29_6_7_8_9.1 15 3).toInt := by rw [eσ31_6_7_8_9]; rfl
          refine ok_some.mpr ?_
          exact ⟨hIσ31_6_7_8_9, hfσ31_6_7_8_9⟩
        · have g59 : (σ24_6_7_8.1 0 5).toInt ≠ (0 : Int32).toInt := fun z => h_55 (Int32.toInt_inj.mp z)
          refine ok_some.mpr ?_
          exact ⟨hIσ24_6_7_8, hfσ24_6_7_8⟩
    · have g60 : (σ7.1 0 5).toInt ≠ (0 : Int32).toInt := fun z => h_17 (Int32.toInt_inj.mp z)
      try unfold jX10_controlTold_43
      refine ok_bd.mpr ((o_fX10_asks hIσ7 (p1 := 9) (by decide) (by decide)).mono (fun σ11_10 ho_62 => ?_))
      obtain ⟨hIσ11_10, hcσ11_10⟩ := ho_62
      have hfσ11_10 : Fr fr_fX10_controlTold σ σ11_10 := Fr_c hfσ7 hcσ11_10 (by decide)
      have sσ11_10_0_21 : (σ11_10.1 0 21).toInt = (σ7.1 0 21).toInt := by rw [(hcσ11_10 0 21 (by decide) (by decide)).1]
      have sσ11_10_15_0 : (σ11_10.1 15 0).toInt = (σ7.1 15 0).toInt := by rw [(hcσ11_10 15 0 (by decide) (by decide)).1]
      have sσ11_10_15_1 : (σ11_10.1 15 1).toInt = (σ7.1 15 1).toInt := by rw [(hcσ11_10 15 1 (by decide) (by decide)).1]
      have sσ11_10_15_2 : (σ11_10.1 15 2).toInt = (σ7.1 15 2).toInt := by rw [(hcσ11_10 15 2 (by decide) (by decide)).1]
      have sσ11_10_15_3 : (σ11_10.1 15 3).toInt = (σ7.1 15 3).toInt := by rw [(hcσ11_10 15 3 (by decide) (by decide)).1]
      have f63 : (9999 : Int32).toInt = 9999 := by decide
      refine ok_bd2.mpr ((o_fX10_number hIσ11_10 (p1 := (0 : Int32)) (p2 := (9999 : Int32)) (by omega) (by omega) (by omega) (by omega)).mono (fun o_64 ho_65 => ?_))
      obtain ⟨r13_10, σ14_10⟩ := o_64
      obtain ⟨hIσ14_10, hcσ14_10, r0r13_10, r1r13_10⟩ := ho_65
      dsimp only at hIσ14_10 hcσ14_10 r0r13_10 r1r13_10 ⊢
      have hfσ14_10 : Fr fr_fX10_controlTold σ σ14_10 := Fr_c hfσ11_10 hcσ14_10 (by decide)
      have sσ14_10_0_21 : (σ14_10.1 0 21).toInt = (σ11_10.1 0 21).toInt := by rw [(hcσ14_10 0 21 (by decide) (by decide)).1]
      have sσ14_10_15_0 : (σ14_10.1 15 0).toInt = (σ11_10.1 15 0).toInt := by rw [(hcσ14_10 15 0 (by decide) (by decide)).1]
      have sσ14_10_15_1 : (σ14_10.1 15 1).toInt = (σ11_10.1 15 1).toInt := by rw [(hcσ14_10 15 1 (by decide) (by decide)).1]
      have sσ14_10_15_2 : (σ14_10.1 15 2).toInt = (σ11_10.1 15 2).toInt := by rw [(hcσ14_10 15 2 (by decide) (by decide)).1]
      have sσ14_10_15_3 : (σ14_10.1 15 3).toInt = (σ11_10.1 15 3).toInt := by rw [(hcσ14_10 15 3 (by decide) (by decide)).1]
      refine ok_nm.mpr ?_
      refine ok_bd2.mpr ((o_fX10_number hIσ14_10 (p1 := (0 : Int32)) (p2 := (9999 : Int32)) (by omega) (by omega) (by omega) (by omega)).mono (fun o_66 ho_67 => ?_))
      obtain ⟨r17_10_11, σ18_10_11⟩ := o_66
      obtain ⟨hIσ18_10_11, hcσ18_10_11, r0r17_10_11, r1r17_10_11⟩ := ho_67
      dsimp only at hIσ18_10_11 hcσ18_10_11 r0r17_10_11 r1r17_10_11 ⊢
      have hfσ18_10_11 : Fr fr_fX10_controlTold σ σ18_10_11 := Fr_c hfσ14_10 hcσ18_10_11 (by decide)
      have sσ18_10_11_0_21 : (σ18_10_11.1 0 21).toInt = (σ14_10.1 0 21).toInt := by rw [(hcσ18_10_11 0 21 (by decide) (by decide)).1]
      have sσ18_10_11_15_0 : (σ18_10_11.1 15 0).toInt = (σ14_10.1 15 0).toInt := by rw [(hcσ18_10_11 15 0 (by decide) (by decide)).1]
      have sσ18_10_11_15_1 : (σ18_10_11.1 15 1).toInt = (σ14_10.1 15 1).toInt := by rw [(hcσ18_10_11 15 1 (by decide) (by decide)).1]
      have sσ18_10_11_15_2 : (σ18_10_11.1 15 2).toInt = (σ14_10.1 15 2).toInt := by rw [(hcσ18_10_11 15 2 (by decide) (by decide)).1]
      have sσ18_10_11_15_3 : (σ18_10_11.1 15 3).toInt = (σ14_10.1 15 3).toInt := by rw [(hcσ18_10_11 15 3 (by decide) (by decide)).1]
      refine ok_nm.mpr ?_
      refine ok_bd.mpr ((o_fX10_asks hIσ18_10_11 (p1 := 12) (by decide) (by decide)).mono (fun σ21_10_11_12 ho_69 => ?_))
      obtain ⟨hIσ21_10_11_12, hcσ21_10_11_12⟩ := ho_69
      have hfσ21_10_11_12 : Fr fr_fX10_controlTold σ σ21_10_11_12 := Fr_c hfσ18_10_11 hcσ21_10_11_12 (by decide)
      have sσ21_10_11_12_0_21 : (σ21_10_11_12.1 0 21).toInt = (σ18_10_11.1 0 21).toInt := by rw [(hcσ21_10_11_12 0 21 (by decide) (by decide)).1]
      have sσ21_10_11_12_15_0 : (σ21_10_11_12.1 15 0).toInt = (σ18_10_11.1 15 0).toInt := by rw [(hcσ21_10_11_12 15 0 (by decide) (by decide)).1]
      have sσ21_10_11_12_15_1 : (σ21_10_11_12.1 15 1).toInt = (σ18_10_11.1 15 1).toInt := by rw [(hcσ21_10_11_12 15 1 (by decide) (by decide)).1]
      have sσ21_10_11_12_15_2 : (σ21_10_11_12.1 15 2).toInt = (σ18_10_11.1 15 2).toInt := by rw [(hcσ21_10_11_12 15 2 (by decide) (by decide)).1]
      have sσ21_10_11_12_15_3 : (σ21_10_11_12.1 15 3).toInt = (σ18_10_11.1 15 3).toInt := by rw [(hcσ21_10_11_12 15 3 (by decide) (by decide)).1]
      have f70 : (1 : Int32).toInt = 1 := by decide
      refine ok_bd2.mpr ((o_fX10_number hIσ21_10_11_12 (p1 := (1 : Int32)) (p2 := (2 : Int32)) (by omega) (by omega) (by omega) (by omega)).mono (fun o_71 ho_72 => ?_))
      obtain ⟨r23_10_11_12, σ24_10_11_12⟩ := o_71
      obtain ⟨hIσ24_10_11_12, hcσ24_10_11_12, r0r23_10_11_12, r1r23_10_11_12⟩ := ho_72
      dsimp only at hIσ24_10_11_12 hcσ24_10_11_12 r0r23_10_11_12 r1r23_10_11_12 ⊢
      have hfσ24_10_11_12 : Fr fr_fX10_controlTold σ σ24_10_11_12 := Fr_c hfσ21_10_11_12 hcσ24_10_11_12 (by decide)
      have sσ24_10_11_12_0_21 : (σ24_10_11_12.1 0 21).toInt = (σ21_10_11_12.1 0 21).toInt := by rw [(hcσ24_10_11_12 0 21 (by decide) (by decide)).1]
      have sσ24_10_11_12_15_0 : (σ24_10_11_12.1 15 0).toInt = (σ21_10_11_12.1 15 0).toInt := by rw [(hcσ24_10_11_12 15 0 (by decide) (by decide)).1]
      have sσ24_10_11_12_15_1 : (σ24_10_11_12.1 15 1).toInt = (σ21_10_11_12.1 15 1).toInt := by rw [(hcσ24_10_11_12 15 1 (by decide) (by decide)).1]
      have sσ24_10_11_12_15_2 : (σ24_10_11_12.1 15 2).toInt = (σ21_10_11_12.1 15 2).toInt := by rw [(hcσ24_10_11_12 15 2 (by decide) (by decide)).1]
      have sσ24_10_11_12_15_3 : (σ24_10_11_12.1 15 3).toInt = (σ21_10_11_12.1 15 3).toInt := by rw [(hcσ24_10_11_12 15 3 (by decide) (by decide)).1]
      refine ok_nm.mpr ?_
      refine ok_ite.mpr ⟨fun h_73 => ?_, fun h_73 => ?_⟩
      · have g74 : (σ24_10_11_12.1 0 5).toInt = (0 : Int32).toInt := by rw [h_73]
        have f75 : ((2 : Int32) * r6).toInt = 2 * r6.toInt := imulc (by decide) (by omega) (by omega)
        refine ok_gd.mpr ⟨gb_of (by omega) (by omega), ?_⟩
        refine ok_nm2 (fun σ27_10_11_12_13 eσ27_10_11_12_13 => ?_)
        have hIσ27_10_11_12_13 : JM σ27_10_11_12_13 := by rw [eσ27_10_11_12_13]; exact JM_w hIσ24_10_11_12 (Int32.le_toInt _) (Int32.toInt_le _)
        have hfσ27_10_11_12_13 : Fr fr_fX10_controlTold σ σ27_10_11_12_13 := by rw [eσ27_10_11_12_13]; exact Fr_w0 hfσ24_10_11_12 (by decide)
        have sσ27_10_11_12_13_0_5 : (σ27_10_11_12_13.1 0 5).toInt = (σ24_10_11_12.1 0 5).toInt := by rw [eσ27_10_11_12_13]; rfl
        have sσ27_10_11_12_13_0_21 : (σ27_10_11_12_13.1 0 21).toInt = (σ24_10_11_12.1 0 21).toInt := by rw [eσ27_10_11_12_13]; rfl
        have sσ27_10_11_12_13_15_0 : (σ27_10_11_12_13.1 15 0).toInt = (σ24_10_11_12.1 15 0).toInt := by rw [eσ27_10_11_12_13]; rfl
        have sσ27_10_11_12_13_15_1 : (σ27_10_11_12_13.1 15 1).toInt = (σ24_10_11_12.1 15 1).toInt := by rw [eσ27_10_11_12_13]; rfl
        have sσ27_10_11_12_13_15_2 : (σ27_10_11_12_13.1 15 2).toInt = (σ24_10_11_12.1 15 2).toInt := by rw [eσ27_10_11_12_13]; rfl
        have sσ27_10_11_12_13_15_3 : (σ27_10_11_12_13.1 15 3).toInt = (σ24_10_11_12.1 15 3).toInt := by rw [eσ27_10_11_12_13]; rfl
        have f76 : ((2 * r6) + (1 : Int32)).toInt = (2 * r6).toInt + (1 : Int32).toInt := iadd_toInt (by omega) (by omega)
        refine ok_gd.mpr ⟨gb_of (by omega) (by omega), ?_⟩
        refine ok_nm2 (fun σ28_10_11_12_13 eσ28_10_11_12_13 => ?_)
        have hIσ28_10_11_12_13 : JM σ28_10_11_12_13 := by rw [eσ28_10_11_12_13]; exact JM_w hIσ27_10_11_12_13 (Int32.le_toInt _) (Int32.toInt_le _)
        have hfσ28_10_11_12_13 : Fr fr_fX10_controlTold σ σ28_10_11_12_13 := by rw [eσ28_10_11_12_13]; exact Fr_w0 hfσ27_10_11_12_13 (by decide)
        have sσ28_10_11_12_13_0_5 : (σ28_10_11_12_13.1 0 5).toInt = (σ27_10_11_12_13.1 0 5).toInt := by rw [eσ28_10_11_12_13]; rfl
        have sσ28_10_11_12_13_0_21 : (σ28_10_11_12_13.1 0 21).toInt = (σ27_10_11_12_13.1 0 21).toInt := by rw [eσ28_10_11_12_13]; rfl
        have sσ28_10_11_12_13_15_0 : (σ28_10_11_12_13.1 15 0).toInt = (σ27_10_11_12_13.1 15 0).toInt := by rw [eσ28_10_11_12_13]; rfl
        have sσ28_10_11_12_13_15_1 : (σ28_10_11_12_13.1 15 1).toInt = (σ27_10_11_12_13.1 15 1).toInt := by rw [eσ28_10_11_12_13]; rfl
        have sσ28_10_11_12_13_15_2 : (σ28_10_11_12_13.1 15 2).toInt = (σ27_10_11_12_13.1 15 2).toInt := by rw [eσ28_10_11_12_13]; rfl
        have sσ28_10_11_12_13_15_3 : (σ28_10_11_12_13.1 15 3).toInt = (σ27_10_11_12_13.1 15 3).toInt := by rw [eσ28_10_11_12_13]; rfl
        refine ok_gd.mpr ⟨gb_of (by omega) (by omega), ?_⟩
        refine ok_nm2 (fun σ29_10_11_12_13 eσ29_10_11_12_13 => ?_)
        have hIσ29_10_11_12_13 : JM σ29_10_11_12_13 := by rw [eσ29_10_11_12_13]; exact JM_w hIσ28_10_11_12_13 (Int32.le_toInt _) (Int32.toInt_le _)
        have hfσ29_10_11_12_13 : Fr fr_fX10_controlTold σ σ29_10_11_12_13 := by rw [eσ29_10_11_12_13]; exact Fr_w0 hfσ28_10_11_12_13 (by decide)
        have sσ29_10_11_12_13_0_5 : (σ29_10_11_12_13.1 0 5).toInt = (σ28_10_11_12_13.1 0 5).toInt := by rw [eσ29_10_11_12_13]; rfl
        have sσ29_10_11_12_13_0_21 : (σ29_10_11_12_13.1 0 21).toInt = (σ28_10_11_12_13.1 0 21).toInt := by rw [eσ29_10_11_12_13]; rfl
        have sσ29_10_11_12_13_15_0 : (σ29_10_11_12_13.1 15 0).toInt = (σ28_10_11_12_13.1 15 0).toInt := by rw [eσ29_10_11_12_13]; rfl
        have sσ29_10_11_12_13_15_1 : (σ29_10_11_12_13.1 15 1).toInt = (σ28_10_11_12_13.1 15 1).toInt := by rw [eσ29_10_11_12_13]; rfl
        have sσ29_10_11_12_13_15_2 : (σ29_10_11_12_13.1 15 2).toInt = (σ28_10_11_12_13.1 15 2).toInt := by rw [eσ29_10_11_12_13]; rfl
        have sσ29_10_11_12_13_15_3 : (σ29_10_11_12_13.1 15 3).toInt = (σ28_10_11_12_13.1 15 3).toInt := by rw [eσ29_10_11_12_13]; rfl
        refine ok_gd.mpr ⟨gb_of (by omega) (by omega), ?_⟩
        refine ok_nm2 (fun v30_10_11_12_13 ev30_10_11_12_13 => ?_)
        have qv30_10_11_12_13 : v30_10_11_12_13.toInt = (σ29_10_11_12_13.1 15 4).toInt := congrArg Int32.toInt ev30_10_11_12_13
        refine ok_gd.mpr ⟨gb_of (by omega) (by omega), ?_⟩
        refine ok_nm2 (fun σ31_10_11_12_13 eσ31_10_11_12_13 => ?_)
        have hIσ31_10_11_12_13 : JM σ31_10_11_12_13 := by rw [eσ31_10_11_12_13]; exact JM_w hIσ29_10_11_12_13 (Int32.le_toInt _) (Int32.toInt_le _)
        have hfσ31_10_11_12_13 : Fr fr_fX10_controlTold σ σ31_10_11_12_13 := by rw [eσ31_10_11_12_13]; exact Fr_w0 hfσ29_10_11_12_13 (by decide)
        have sσ31_10_11_12_13_0_5 : (σ31_10_11_12_13.1 0 5).toInt = (σ29_10_11_12_13.1 0 5).toInt := by rw [eσ31_10_11_12_13]; rfl
        have sσ31_10_11_12_13_0_21 : (σ31_10_11_12_13.1 0 21).toInt = (σ29_10_11_12_13.1 0 21).toInt := by rw [eσ31_10_11_12_13]; rfl
        have sσ31_10_11_12_13_15_0 : (σ31_10_11_12_13.1 15 0).toInt = (σ29_10_11_12_13.1 15 0).toInt := by rw [eσ31_10_11_12_13]; rfl
        have sσ31_10_11_12_13_15_1 : (σ31_10_11_12_13.1 15 1).toInt = (σ29_10_11_12_13.1 15 1).toInt := by rw [eσ31_10_11_12_13]; rfl
        have sσ31_10_11_12_13_15_2 : (σ31_10_11_12_13.1 15 2).toInt = (σ29_10_11_12_13.1 15 2).toInt := by rw [eσ31_10_11_12_13]; rfl
        have sσ31_10_11_12_13_15_3 : (σ31_10_11_12_13.1 15 3).toInt = (σ29_10_11_12_13.1 15 3).toInt := by rw [eσ31_10_11_12_13]; rfl
        refine ok_some.mpr ?_
        exact ⟨hIσ31_10_11_12_13, hfσ31_10_11_12_13⟩
      · have g77 : (σ24_10_11_12.1 0 5).toInt ≠ (0 : Int32).toInt := fun z => h_73 (Int32.toInt_inj.mp z)
        refine ok_some.mpr ?_
        exact ⟨hIσ24_10_11_12, hfσ24_10_11_12⟩
  · have f78 : (0 : Int32).toInt = 0 := by decide
    have g79 : r2.toInt ≠ (0 : Int32).toInt := fun z => h_10 (Int32.toInt_inj.mp z)
    refine ok_some.mpr ?_
    exact ⟨hIσ3, hfσ3⟩
set_option maxRecDepth 20000 in
set_option maxHeartbeats 2000000 in
theorem o_fX10_rowTold {σ : gS} (hIσ : JM σ) {p1 : Int32}  : Ok (fX10_rowTold σ p1) (fun out => JM out ∧ Fr fr_fX10_rowTold σ out) := by
  unfold fX10_rowTold
  have hfσ : Fr fr_fX10_rowTold σ σ := Fr_r
  have f1 : 0 ≤ (σ.1 15 0).toInt ∧ (σ.1 15 0).toInt ≤ 6 := hIσ 15 0
  have f2 : 0 ≤ (σ.1 15 1).toInt ∧ (σ.1 15 1).toInt ≤ 12 := hIσ 15 1
  have f3 : 0 ≤ (σ.1 15 2).toInt ∧ (σ.1 15 2).toInt ≤ 20 := hIσ 15 2
  have f4 : 0 ≤ (σ.1 15 3).toInt ∧ (σ.1 15 3).toInt ≤ 60 := hIσ 15 3
  have f5 : (3 : Int32).toInt = 3 := by decide
  have f6 : (60 : Int32).toInt = 60 := by decide
  refine ok_bd2.mpr ((o_fX10_isFull hIσ (p1 := (3 : Int32)) (p2 := (60 : Int32)) (p3 := p1) (by omega) (by omega) (by omega) (by omega)).mono (fun o_7 ho_8 => ?_))
  obtain ⟨r2, σ3⟩ := o_7
  obtain ⟨hIσ3, hcσ3, r0r2, r1r2, hp_9⟩ := ho_8
  dsimp only at hIσ3 hcσ3 r0r2 r1r2 hp_9 ⊢
  have hfσ3 : Fr fr_fX10_rowTold σ σ3 := Fr_c hfσ hcσ3 (by decide)
  have sσ3_0_21 : (σ3.1 0 21).toInt = (σ.1 0 21).toInt := by rw [(hcσ3 0 21 (by decide) (by decide)).1]
  have sσ3_15_0 : (σ3.1 15 0).toInt = (σ.1 15 0).toInt := by rw [(hcσ3 15 0 (by decide) (by decide)).1]
  have sσ3_15_1 : (σ3.1 15 1).toInt = (σ.1 15 1).toInt := by rw [(hcσ3 15 1 (by decide) (by decide)).1]
  have sσ3_15_2 : (σ3.1 15 2).toInt = (σ.1 15 2).toInt := by rw [(hcσ3 15 2 (by decide) (by decide)).1]
  have sσ3_15_3 : (σ3.1 15 3).toInt = (σ.1 15 3).toInt := by rw [(hcσ3 15 3 (by decide) (by decide)).1]
  refine ok_ite.mpr ⟨fun h_10 => ?_, fun h_10 => ?_⟩
  · have f11 : (0 : Int32).toInt = 0 := by decide
    have g12 : r2.toInt = (0 : Int32).toInt := by rw [h_10]
    refine ok_gd.mpr ⟨gb_of (by omega) (by omega), ?_⟩
    refine ok_nm2 (fun v5 ev5 => ?_)
    have f13 : 0 ≤ (σ3.1 15 3).toInt ∧ (σ3.1 15 3).toInt ≤ 60 := hIσ3 15 3
    have qv5 : v5.toInt = (σ3.1 15 3).toInt := congrArg Int32.toInt ev5
    refine ok_nm.mpr ?_
    have f14 : (1 : Int32).toInt = 1 := by decide
    refine ok_bd2.mpr ((o_fX10_oneOf hIσ3 (p1 := (1 : Int32)) (by omega) (by omega)).mono (fun o_15 ho_16 => ?_))
    obtain ⟨r8_1, σ9_1⟩ := o_15
    obtain ⟨hIσ9_1, hcσ9_1, r0r8_1, r1r8_1, hp_17⟩ := ho_16
    dsimp only at hIσ9_1 hcσ9_1 r0r8_1 r1r8_1 hp_17 ⊢
    have hfσ9_1 : Fr fr_fX10_rowTold σ σ9_1 := Fr_c hfσ3 hcσ9_1 (by decide)
    have sσ9_1_15_0 : (σ9_1.1 15 0).toInt = (σ3.1 15 0).toInt := by rw [(hcσ9_1 15 0 (by decide) (by decide)).1]
    have sσ9_1_15_1 : (σ9_1.1 15 1).toInt = (σ3.1 15 1).toInt := by rw [(hcσ9_1 15 1 (by decide) (by decide)).1]
    have sσ9_1_15_2 : (σ9_1.1 15 2).toInt = (σ3.1 15 2).toInt := by rw [(hcσ9_1 15 2 (by decide) (by decide)).1]
    have sσ9_1_15_3 : (σ9_1.1 15 3).toInt = (σ3.1 15 3).toInt := by rw [(hcσ9_1 15 3 (by decide) (by decide)).1]
    refine ok_gd.mpr ⟨gb_of (by omega) (by omega), ?_⟩
    refine ok_nm2 (fun σ10_1 eσ10_1 => ?_)
    have hIσ10_1 : JM σ10_1 := by rw [eσ10_1]; exact JM_w hIσ9_1 (show 0 ≤ _ by omega) (show _ ≤ 11 by omega)
    have hfσ10_1 : Fr fr_fX10_rowTold σ σ10_1 := by rw [eσ10_1]; exact Fr_w0 hfσ9_1 (by decide)
    have sσ10_1_0_5 : (σ10_1.1 0 5).toInt = (σ9_1.1 0 5).toInt := by rw [eσ10_1]; rfl
    have sσ10_1_0_21 : (σ10_1.1 0 21).toInt = (σ9_1.1 0 21).toInt := by rw [eσ10_1]; rfl
    have sσ10_1_15_0 : (σ10_1.1 15 0).toInt = (σ9_1.1 15 0).toInt := by rw [eσ10_1]; rfl
    have sσ10_1_15_1 : (σ10_1.1 15 1).toInt = (σ9_1.1 15 1).toInt := by rw [eσ10_1]; rfl
    have sσ10_1_15_2 : (σ10_1.1 15 2).toInt = (σ9_1.1 15 2).toInt := by rw [eσ10_1]; rfl
    have sσ10_1_15_3 : (σ10_1.1 15 3).toInt = (σ9_1.1 15 3).toInt := by rw [eσ10_1]; rfl
    have f18 : (2 : Int32).toInt = 2 := by decide
    refine ok_bd2.mpr ((o_fX10_oneOf hIσ10_1 (p1 := (2 : Int32)) (by omega) (by omega)).mono (fun o_19 ho_20 => ?_))
    obtain ⟨r12_1, σ13_1⟩ := o_19
    obtain ⟨hIσ13_1, hcσ13_1, r0r12_1, r1r12_1, hp_21⟩ := ho_20
    dsimp only at hIσ13_1 hcσ13_1 r0r12_1 r1r12_1 hp_21 ⊢
    have hfσ13_1 : Fr fr_fX10_rowTold σ σ13_1 := Fr_c hfσ10_1 hcσ13_1 (by decide)
    have sσ13_1_15_0 : (σ13_1.1 15 0).toInt = (σ10_1.1 15 0).toInt := by rw [(hcσ13_1 15 0 (by decide) (by decide)).1]
    have sσ13_1_15_1 : (σ13_1.1 15 1).toInt = (σ10_1.1 15 1).toInt := by rw [(hcσ13_1 15 1 (by decide) (by decide)).1]
    have sσ13_1_15_2 : (σ13_1.1 15 2).toInt = (σ10_1.1 15 2).toInt := by rw [(hcσ13_1 15 2 (by decide) (by decide)).1]
    have sσ13_1_15_3 : (σ13_1.1 15 3).toInt = (σ10_1.1 15 3).toInt := by rw [(hcσ13_1 15 3 (by decide) (by decide)).1]
    refine ok_gd.mpr ⟨gb_of (by omega) (by omega), ?_⟩
    refine ok_nm2 (fun σ14_1 eσ14_1 => ?_)
    have hIσ14_1 : JM σ14_1 := by rw [eσ14_1]; exact JM_w hIσ13_1 (show 0 ≤ _ by omega) (show _ ≤ 19 by omega)
    have hfσ14_1 : Fr fr_fX10_rowTold σ σ14_1 := by rw [eσ14_1]; exact Fr_w0 hfσ13_1 (by decide)
    have sσ14_1_0_5 : (σ14_1.1 0 5).toInt = (σ13_1.1 0 5).toInt := by rw [eσ14_1]; rfl
    have sσ14_1_0_21 : (σ14_1.1 0 21).toInt = (σ13_1.1 0 21).toInt := by rw [eσ14_1]; rfl
    have sσ14_1_15_0 : (σ14_1.1 15 0).toInt = (σ13_1.1 15 0).toInt := by rw [eσ14_1]; rfl
    have sσ14_1_15_1 : (σ14_1.1 15 1).toInt = (σ13_1.1 15 1).toInt := by rw [eσ14_1]; rfl
    have sσ14_1_15_2 : (σ14_1.1 15 2).toInt = (σ13_1.1 15 2).toInt := by rw [eσ14_1]; rfl
    have sσ14_1_15_3 : (σ14_1.1 15 3).toInt = (σ13_1.1 15 3).toInt := by rw [eσ14_1]; rfl
    refine ok_nm2 (fun x15_1 ex15_1 => ?_)
    have qx15_1 : x15_1.toInt = 0 := by rw [ex15_1]; decide
    have f22 : 0 ≤ (σ14_1.1 15 3).toInt ∧ (σ14_1.1 15 3).toInt ≤ 60 := hIσ14_1 15 3
    refine ok_lpc (I := fun n s => n = (60 + 1 - s.1.toInt).toNat ∧ JM s.2 ∧ Fr fr_fX10_rowTold σ s.2 ∧ 0 ≤ s.1.toInt ∧ s.1.toInt ≤ 60 ∧ (s.2.1 15 3).toInt ≤ 59) (fun rec43_2r n_2 s_2 hs_2 hrec_2 => ?_) K9 ((60 + 1 - x15_1.toInt).toNat) (x15_1, σ14_1) ⟨rfl, hIσ14_1, hfσ14_1, (show 0 ≤ x15_1.toInt by omega), (show x15_1.toInt ≤ 60 by omega), (show (σ14_1.1 15 3).toInt ≤ 59 by omega)⟩ (by unfold K9; omega)
    obtain ⟨a3_2, σ1_2⟩ := s_2
    obtain ⟨hn_2, hIσ1_2, hfσ1_2, b0a3_2, b1a3_2, iv0_2⟩ := hs_2
    dsimp only at hn_2 hIσ1_2 hfσ1_2 b0a3_2 b1a3_2 iv0_2
    unfold bX10_rowTold_43
    try dsimp only
    refine ok_ite.mpr ⟨fun h_23 => ?_, fun h_23 => ?_⟩
    · have g24 : v5.toInt ≤ a3_2.toInt := Int32.le_iff_toInt_le.mp h_23
      refine ok_bd.mpr ((o_fX10_asks hIσ1_2 (p1 := 9) (by decide) (by decide)).mono (fun σ18_3 ho_26 => ?_))
      obtain ⟨hIσ18_3, hcσ18_3⟩ := ho_26
      have hfσ18_3 : Fr fr_fX10_rowTold σ σ18_3 := Fr_c hfσ1_2 hcσ18_3 (by decide)
      have sσ18_3_0_21 : (σ18_3.1 0 21).toInt = (σ1_2.1 0 21).toInt := by rw [(hcσ18_3 0 21 (by decide) (by decide)).1]
      have sσ18_3_15_0 : (σ18_3.1 15 0).toInt = (σ1_2.1 15 0).toInt := by rw [(hcσ18_3 15 0 (by decide) (by decide)).1]
      have sσ18_3_15_1 : (σ18_3.1 15 1).toInt = (σ1_2.1 15 1).toInt := by rw [(hcσ18_3 15 1 (by decide) (by decide)).1]
      have sσ18_3_15_2 : (σ18_3.1 15 2).toInt = (σ1_2.1 15 2).toInt := by rw [(hcσ18_3 15 2 (by decide) (by decide)).1]
      have sσ18_3_15_3 : (σ18_3.1 15 3).toInt = (σ1_2.1 15 3).toInt := by rw [(hcσ18_3 15 3 (by decide) (by decide)).1]
      have f27 : (9999 : Int32).toInt = 9999 := by decide
      refine ok_bd2.mpr ((o_fX10_number hIσ18_3 (p1 := (0 : Int32)) (p2 := (9999 : Int32)) (by omega) (by omega) (by omega) (by omega)).mono (fun o_28 ho_29 => ?_))
      obtain ⟨r20_3, σ21_3⟩ := o_28
      obtain ⟨hIσ21_3, hcσ21_3, r0r20_3, r1r20_3⟩ := ho_29
      dsimp only at hIσ21_3 hcσ21_3 r0r20_3 r1r20_3 ⊢
      have hfσ21_3 : Fr fr_fX10_rowTold σ σ21_3 := Fr_c hfσ18_3 hcσ21_3 (by decide)
      have sσ21_3_0_21 : (σ21_3.1 0 21).toInt = (σ18_3.1 0 21).toInt := by rw [(hcσ21_3 0 21 (by decide) (by decide)).1]
      have sσ21_3_15_0 : (σ21_3.1 15 0).toInt = (σ18_3.1 15 0).toInt := by rw [(hcσ21_3 15 0 (by decide) (by decide)).1]
      have sσ21_3_15_1 : (σ21_3.1 15 1).toInt = (σ18_3.1 15 1).toInt := by rw [(hcσ21_3 15 1 (by decide) (by decide)).1]
      have sσ21_3_15_2 : (σ21_3.1 15 2).toInt = (σ18_3.1 15 2).toInt := by rw [(hcσ21_3 15 2 (by decide) (by decide)).1]
      have sσ21_3_15_3 : (σ21_3.1 15 3).toInt = (σ18_3.1 15 3).toInt := by rw [(hcσ21_3 15 3 (by decide) (by decide)).1]
      have f30 : ((2 : Int32) * v5).toInt = 2 * v5.toInt := imulc (by decide) (by omega) (by omega)
      refine ok_gd.mpr ⟨gb_of (by omega) (by omega), ?_⟩
      refine ok_nm2 (fun σ22_3 eσ22_3 => ?_)
      have hIσ22_3 : JM σ22_3 := by rw [eσ22_3]; exact JM_w hIσ21_3 (Int32.le_toInt _) (Int32.toInt_le _)
      have hfσ22_3 : Fr fr_fX10_rowTold σ σ22_3 := by rw [eσ22_3]; exact Fr_w0 hfσ21_3 (by decide)
      have sσ22_3_0_5 : (σ22_3.1 0 5).toInt = (σ21_3.1 0 5).toInt := by rw [eσ22_3]; rfl
      have sσ22_3_0_21 : (σ22_3.1 0 21).toInt = (σ21_3.1 0 21).toInt := by rw [eσ22_3]; rfl
      have sσ22_3_15_0 : (σ22_3.1 15 0).toInt = (σ21_3.1 15 0).toInt := by rw [eσ22_3]; rfl
      have sσ22_3_15_1 : (σ22_3.1 15 1).toInt = (σ21_3.1 15 1).toInt := by rw [eσ22_3]; rfl
      have sσ22_3_15_2 : (σ22_3.1 15 2).toInt = (σ21_3.1 15 2).toInt := by rw [eσ22_3]; rfl
      have sσ22_3_15_3 : (σ22_3.1 15 3).toInt = (σ21_3.1 15 3).toInt := by rw [eσ22_3]; rfl
      refine ok_bd2.mpr ((o_fX10_number hIσ22_3 (p1 := (0 : Int32)) (p2 := (9999 : Int32)) (by omega) (by omega) (by omega) (by omega)).mono (fun o_31 ho_32 => ?_))
      obtain ⟨r24_3, σ25_3⟩ := o_31
      obtain ⟨hIσ25_3, hcσ25_3, r0r24_3, r1r24_3⟩ := ho_32
      dsimp only at hIσ25_3 hcσ25_3 r0r24_3 r1r24_3 ⊢
      have hfσ25_3 : Fr fr_fX10_rowTold σ σ25_3 := Fr_c hfσ22_3 hcσ25_3 (by decide)
      have sσ25_3_0_21 : (σ25_3.1 0 21).toInt = (σ22_3.1 0 21).toInt := by rw [(hcσ25_3 0 21 (by decide) (by decide)).1]
      have sσ25_3_15_0 : (σ25_3.1 15 0).toInt = (σ22_3.1 15 0).toInt := by rw [(hcσ25_3 15 0 (by decide) (by decide)).1]
      have sσ25_3_15_1 : (σ25_3.1 15 1).toInt = (σ22_3.1 15 1).toInt := by rw [(hcσ25_3 15 1 (by decide) (by decide)).1]
      have sσ25_3_15_2 : (σ25_3.1 15 2).toInt = (σ22_3.1 15 2).toInt := by rw [(hcσ25_3 15 2 (by decide) (by decide)).1]
      have sσ25_3_15_3 : (σ25_3.1 15 3).toInt = (σ22_3.1 15 3).toInt := by rw [(hcσ25_3 15 3 (by decide) (by decide)).1]
      have f33 : ((2 * v5) + (1 : Int32)).toInt = (2 * v5).toInt + (1 : Int32).toInt := iadd_toInt (by omega) (by omega)
      refine ok_gd.mpr ⟨gb_of (by omega) (by omega), ?_⟩
      refine ok_nm2 (fun σ26_3 eσ26_3 => ?_)
      have hIσ26_3 : JM σ26_3 := by rw [eσ26_3]; exact JM_w hIσ25_3 (Int32.le_toInt _) (Int32.toInt_le _)
      have hfσ26_3 : Fr fr_fX10_rowTold σ σ26_3 := by rw [eσ26_3]; exact Fr_w0 hfσ25_3 (by decide)
      have sσ26_3_0_5 : (σ26_3.1 0 5).toInt = (σ25_3.1 0 5).toInt := by rw [eσ26_3]; rfl
      have sσ26_3_0_21 : (σ26_3.1 0 21).toInt = (σ25_3.1 0 21).toInt := by rw [eσ26_3]; rfl
      have sσ26_3_15_0 : (σ26_3.1 15 0).toInt = (σ25_3.1 15 0).toInt := by rw [eσ26_3]; rfl
      have sσ26_3_15_1 : (σ26_3.1 15 1).toInt = (σ25_3.1 15 1).toInt := by rw [eσ26_3]; rfl
      have sσ26_3_15_2 : (σ26_3.1 15 2).toInt = (σ25_3.1 15 2).toInt := by rw [eσ26_3]; rfl
      have sσ26_3_15_3 : (σ26_3.1 15 3).toInt = (σ25_3.1 15 3).toInt := by rw [eσ26_3]; rfl
      refine ok_bd.mpr ((o_fX10_asks hIσ26_3 (p1 := 10) (by decide) (by decide)).mono (fun σ28_3 ho_35 => ?_))
      obtain ⟨hIσ28_3, hcσ28_3⟩ := ho_35
      have hfσ28_3 : Fr fr_fX10_rowTold σ σ28_3 := Fr_c hfσ26_3 hcσ28_3 (by decide)
      have sσ28_3_0_21 : (σ28_3.1 0 21).toInt = (σ26_3.1 0 21).toInt := by rw [(hcσ28_3 0 21 (by decide) (by decide)).1]
      have sσ28_3_15_0 : (σ28_3.1 15 0).toInt = (σ26_3.1 15 0).toInt := by rw [(hcσ28_3 15 0 (by decide) (by decide)).1]
      have sσ28_3_15_1 : (σ28_3.1 15 1).toInt = (σ26_3.1 15 1).toInt := by rw [(hcσ28_3 15 1 (by decide) (by decide)).1]
      have sσ28_3_15_2 : (σ28_3.1 15 2).toInt = (σ26_3.1 15 2).toInt := by rw [(hcσ28_3 15 2 (by decide) (by decide)).1]
      have sσ28_3_15_3 : (σ28_3.1 15 3).toInt = (σ26_3.1 15 3).toInt := by rw [(hcσ28_3 15 3 (by decide) (by decide)).1]
      have f36 : (9 : Int32).toInt = 9 := by decide
      refine ok_bd2.mpr ((o_fX10_number hIσ28_3 (p1 := (1 : Int32)) (p2 := (9 : Int32)) (by omega) (by omega) (by omega) (by omega)).mono (fun o_37 ho_38 => ?_))
      obtain ⟨r30_3, σ31_3⟩ := o_37
      obtain ⟨hIσ31_3, hcσ31_3, r0r30_3, r1r30_3⟩ := ho_38
      dsimp only at hIσ31_3 hcσ31_3 r0r30_3 r1r30_3 ⊢
      have hfσ31_3 : Fr fr_fX10_rowTold σ σ31_3 := Fr_c hfσ28_3 hcσ31_3 (by decide)
      have sσ31_3_0_21 : (σ31_3.1 0 21).toInt = (σ28_3.1 0 21).toInt := by rw [(hcσ31_3 0 21 (by decide) (by decide)).1]
      have sσ31_3_15_0 : (σ31_3.1 15 0).toInt = (σ28_3.1 15 0).toInt := by rw [(hcσ31_3 15 0 (by decide) (by decide)).1]
      have sσ31_3_15_1 : (σ31_3.1 15 1).toInt = (σ28_3.1 15 1).toInt := by rw [(hcσ31_3 15 1 (by decide) (by decide)).1]
      have sσ31_3_15_2 : (σ31_3.1 15 2).toInt = (σ28_3.1 15 2).toInt := by rw [(hcσ31_3 15 2 (by decide) (by decide)).1]
      have sσ31_3_15_3 : (σ31_3.1 15 3).toInt = (σ28_3.1 15 3).toInt := by rw [(hcσ31_3 15 3 (by decide) (by decide)).1]
      refine ok_gd.mpr ⟨gb_of (by omega) (by omega), ?_⟩
      refine ok_nm2 (fun σ32_3 eσ32_3 => ?_)
      have hIσ32_3 : JM σ32_3 := by rw [eσ32_3]; exact JM_w hIσ31_3 (Int32.le_toInt _) (Int32.toInt_le _)
      have hfσ32_3 : Fr fr_fX10_rowTold σ σ32_3 := by rw [eσ32_3]; exact Fr_w0 hfσ31_3 (by decide)
      have sσ32_3_0_5 : (σ32_3.1 0 5).toInt = (σ31_3.1 0 5).toInt := by rw [eσ32_3]; rfl
      have sσ32_3_0_21 : (σ32_3.1 0 21).toInt = (σ31_3.1 0 21).toInt := by rw [eσ32_3]; rfl
      have sσ32_3_15_0 : (σ32_3.1 15 0).toInt = (σ31_3.1 15 0).toInt := by rw [eσ32_3]; rfl
      have sσ32_3_15_1 : (σ32_3.1 15 1).toInt = (σ31_3.1 15 1).toInt := by rw [eσ32_3]; rfl
      have sσ32_3_15_2 : (σ32_3.1 15 2).toInt = (σ31_3.1 15 2).toInt := by rw [eσ32_3]; rfl
      have sσ32_3_15_3 : (σ32_3.1 15 3).toInt = (σ31_3.1 15 3).toInt := by rw [eσ32_3]; rfl
      refine ok_gd.mpr ⟨gb_of (by omega) (by omega), ?_⟩
      refine ok_nm2 (fun v33_3 ev33_3 => ?_)
      have f39 : 0 ≤ (σ32_3.1 15 3).toInt ∧ (σ32_3.1 15 3).toInt ≤ 60 := hIσ32_3 15 3
      have qv33_3 : v33_3.toInt = (σ32_3.1 15 3).toInt := congrArg Int32.toInt ev33_3
      refine ok_gd.mpr ⟨gb_of (by omega) (by omega), ?_⟩
      refine ok_nm2 (fun σ34_3 eσ34_3 => ?_)
      have f40 : (v33_3 + (1 : Int32)).toInt = v33_3.toInt + (1 : Int32).toInt := iadd_toInt (by omega) (by omega)
      have hIσ34_3 : JM σ34_3 := by rw [eσ34_3]; exact JM_w hIσ32_3 (show 0 ≤ _ by omega) (show _ ≤ 60 by omega)
      have hfσ34_3 : Fr fr_fX10_rowTold σ σ34_3 := by rw [eσ34_3]; exact Fr_w0 hfσ32_3 (by decide)
      have sσ34_3_0_5 : (σ34_3.1 0 5).toInt = (σ32_3.1 0 5).toInt := by rw [eσ34_3]; rfl
      have sσ34_3_0_21 : (σ34_3.1 0 21).toInt = (σ32_3.1 0 21).toInt := by rw [eσ34_3]; rfl
      have sσ34_3_15_0 : (σ34_3.1 15 0).toInt = (σ32_3.1 15 0).toInt := by rw [eσ34_3]; rfl
      have sσ34_3_15_1 : (σ34_3.1 15 1).toInt = (σ32_3.1 15 1).toInt := by rw [eσ34_3]; rfl
      have sσ34_3_15_2 : (σ34_3.1 15 2).toInt = (σ32_3.1 15 2).toInt := by rw [eσ34_3]; rfl
      have sσ34_3_15_3 : (σ34_3.1 15 3).toInt = (v33_3 + 1).toInt := by rw [eσ34_3]; rfl
      refine ok_some.mpr ?_
      exact ⟨hIσ34_3, hfσ34_3⟩
    · have g41 : ¬ v5.toInt ≤ a3_2.toInt := fun z => h_23 (Int32.le_iff_toInt_le.mpr z)
      refine ok_ite.mpr ⟨fun h_42 => ?_, fun h_42 => ?_⟩
      · have g43 : (σ1_2.1 0 5).toInt = (0 : Int32).toInt := by rw [h_42]
        refine ok_gd.mpr ⟨gb_of (by omega) (by omega), ?_⟩
        refine ok_nm2 (fun v37_3 ev37_3 => ?_)
        have f44 : 0 ≤ (σ1_2.1 22 a3_2.toNatClampNeg).toInt ∧ (σ1_2.1 22 a3_2.toNatClampNeg).toInt ≤ 11 := hIσ1_2 22 _
        have qv37_3 : v37_3.toInt = (σ1_2.1 22 a3_2.toNatClampNeg).toInt := congrArg Int32.toInt ev37_3
        refine ok_gd.mpr ⟨gb_of (by omega) (by omega), ?_⟩
        refine ok_nm2 (fun v38_3 ev38_3 => ?_)
        have f45 : 0 ≤ (σ1_2.1 22 v5.toNatClampNeg).toInt ∧ (σ1_2.1 22 v5.toNatClampNeg).toInt ≤ 11 := hIσ1_2 22 _
        have qv38_3 : v38_3.toInt = (σ1_2.1 22 v5.toNatClampNeg).toInt := congrArg Int32.toInt ev38_3
        refine ok_ite.mpr ⟨fun h_46 => ?_, fun h_46 => ?_⟩
        · have g47 : v37_3.toInt = v38_3.toInt := by rw [h_46]
          refine ok_gd.mpr ⟨gb_of (by omega) (by omega), ?_⟩
          refine ok_nm2 (fun v41_3 ev41_3 => ?_)
          have f48 : 0 ≤ (σ1_2.1 23 a3_2.toNatClampNeg).toInt ∧ (σ1_2.1 23 a3_2.toNatClampNeg).toInt ≤ 19 := hIσ1_2 23 _
          have qv41_3 : v41_3.toInt = (σ1_2.1 23 a3_2.toNatClampNeg).toInt := congrArg Int32.toInt ev41_3
          refine ok_gd.mpr ⟨gb_of (by omega) (by omega), ?_⟩
          refine ok_nm2 (fun v42_3 ev42_3 => ?_)
          have f49 : 0 ≤ (σ1_2.1 23 v5.toNatClampNeg).toInt ∧ (σ1_2.1 23 v5.toNatClampNeg).toInt ≤ 19 := hIσ1_2 23 _
          have qv42_3 : v42_3.toInt = (σ1_2.1 23 v5.toNatClampNeg).toInt := congrArg Int32.toInt ev42_3
          refine ok_ite.mpr ⟨fun h_50 => ?_, fun h_50 => ?_⟩
          · have g51 : v41_3.toInt = v42_3.toInt := by rw [h_50]
            refine ok_bd.mpr ((o_fX10_fail hIσ1_2 (p1 := (3 : Int32)) (p2 := (σ1_2.1 0 21)) (by omega) (by omega)).mono (fun σ46_3 ho_53 => ?_))
            obtain ⟨hIσ46_3, hcσ46_3, hp_54⟩ := ho_53
            have hfσ46_3 : Fr fr_fX10_rowTold σ σ46_3 := Fr_c hfσ1_2 hcσ46_3 (by decide)
            have sσ46_3_0_21 : (σ46_3.1 0 21).toInt = (σ1_2.1 0 21).toInt := by rw [(hcσ46_3 0 21 (by decide) (by decide)).1]
            have sσ46_3_15_0 : (σ46_3.1 15 0).toInt = (σ1_2.1 15 0).toInt := by rw [(hcσ46_3 15 0 (by decide) (by decide)).1]
            have sσ46_3_15_1 : (σ46_3.1 15 1).toInt = (σ1_2.1 15 1).toInt := by rw [(hcσ46_3 15 1 (by decide) (by decide)).1]
            have sσ46_3_15_2 : (σ46_3.1 15 2).toInt = (σ1_2.1 15 2).toInt := by rw [(hcσ46_3 15 2 (by decide) (by decide)).1]
            have sσ46_3_15_3 : (σ46_3.1 15 3).toInt = (σ1_2.1 15 3).toInt := by rw [(hcσ46_3 15 3 (by decide) (by decide)).1]
            refine ok_nm2 (fun x47_3 ex47_3 => ?_)
            have f55 : (a3_2 + (1 : Int32)).toInt = a3_2.toInt + (1 : Int32).toInt := iadd_toInt (by omega) (by omega)
            have qx47_3 : x47_3.toInt = (a3_2 + 1).toInt := congrArg Int32.toInt ex47_3
            have f56 : 0 ≤ (σ46_3.1 15 3).toInt ∧ (σ46_3.1 15 3).toInt ≤ 60 := hIσ46_3 15 3
            exact hrec_2 _ (x47_3, σ46_3) (show (60 + 1 - x47_3.toInt).toNat < n_2 by omega) ⟨rfl, hIσ46_3, hfσ46_3, (show 0 ≤ x47_3.toInt by omega), (show x47_3.toInt ≤ 60 by omega), (show (σ46_3.1 15 3).toInt ≤ 59 by omega)⟩
          · have g57 : v41_3.toInt ≠ v42_3.toInt := fun z => h_50 (Int32.toInt_inj.mp z)
            refine ok_nm2 (fun x44_3 ex44_3 => ?_)
            have f58 : (a3_2 + (1 : Int32)).toInt = a3_2.toInt + (1 : Int32).toInt := iadd_toInt (by omega) (by omega)
            have qx44_3 : x44_3.toInt = (a3_2 + 1).toInt := congrArg Int32.toInt ex44_3
            have f59 : 0 ≤ (σ1_2.1 15 3).toInt ∧ (σ1_2.1 15 3).toInt ≤ 60 := hIσ1_2 15 3
            exact hrec_2 _ (x44_3, σ1_2) (show (60 + 1 - x44_3.toInt).toNat < n_2 by omega) ⟨rfl, hIσ1_2, hfσ1_2, (show 0 ≤ x44_3.toInt by omega), (show x44_3.toInt ≤ 60 by omega), (show (σ1_2.1 15 3).toInt ≤ 59 by omega)⟩
        · have g60 : v37_3.toInt ≠ v38_3.toInt := fun z => h_46 (Int32.toInt_inj.mp z)
          refine ok_nm2 (fun x40_3 ex40_3 => ?_)
          have f61 : (a3_2 + (1 : Int32)).toInt = a3_2.toInt + (1 : Int32).toInt := iadd_toInt (by omega) (by omega)
          have qx40_3 : x40_3.toInt = (a3_2 + 1).toInt := congrArg Int32.toInt ex40_3
          have f62 : 0 ≤ (σ1_2.1 15 3).toInt ∧ (σ1_2.1 15 3).toInt ≤ 60 := hIσ1_2 15 3
          exact hrec_2 _ (x40_3, σ1_2) (show (60 + 1 - x40_3.toInt).toNat < n_2 by omega) ⟨rfl, hIσ1_2, hfσ1_2, (show 0 ≤ x40_3.toInt by omega), (show x40_3.toInt ≤ 60 by omega), (show (σ1_2.1 15 3).toInt ≤ 59 by omega)⟩
      · have g63 : (σ1_2.1 0 5).toInt ≠ (0 : Int32).toInt := fun z => h_42 (Int32.toInt_inj.mp z)
        refine ok_nm2 (fun x36_3 ex36_3 => ?_)
        have f64 : (a3_2 + (1 : Int32)).toInt = a3_2.toInt + (1 : Int32).toInt := iadd_toInt (by omega) (by omega)
        have qx36_3 : x36_3.toInt = (a3_2 + 1).toInt := congrArg Int32.toInt ex36_3
        have f65 : 0 ≤ (σ1_2.1 15 3).toInt ∧ (σ1_2.1 15 3).toInt ≤ 60 := hIσ1_2 15 3
        exact hrec_2 _ (x36_3, σ1_2) (show (60 + 1 - x36_3.toInt).toNat < n_2 by omega) ⟨rfl, hIσ1_2, hfσ1_2, (show 0 ≤ x36_3.toInt by omega), (show x36_3.toInt ≤ 60 by omega), (show (σ1_2.1 15 3).toInt ≤ 59 by omega)⟩
  · have f66 : (0 : Int32).toInt = 0 := by decide
    have g67 : r2.toInt ≠ (0 : Int32).toInt := fun z => h_10 (Int32.toInt_inj.mp z)
    refine ok_some.mpr ?_
    exact ⟨hIσ3, hfσ3⟩
theorem w9_nn47 {σ τ : gS} {k : Int32} {K : Nat} {cap : Int} (v : Int64) (hk : k.toInt = (K : Int)) (hK : K ≤ 2) (hkb : kbM 15 K = (0, cap)) (hcap : cap ≤ 20) (hI : JM τ) (hF : Fr fr_fX10_newName σ τ) (hc : (τ.1 0 5).toInt = 0 → (τ.1 15 K).toInt + 1 ≤ cap) : Ok (jX10_newName_47 τ k v) (fun out => JM out.2 ∧ Fr fr_fX10_newName σ out.2 ∧ 0 ≤ out.1.toInt ∧ out.1.toInt ≤ cap ∧ ((out.2.1 0 5).toInt = 0 → out.1.toInt + 1 ≤ cap)) := by
  have hn : k.toNatClampNeg = K := by rw [n_toInt]; omega
  have hb := hI 15 K
  rw [hkb] at hb
  dsimp only at hb
  have l20 : (20 : Int32).toInt = 20 := by decide
  have f1 : (20 * k).toInt = 20 * k.toInt := imulc (by decide) (by omega) (by omega)
  unfold jX10_newName_47
  refine ok_gd.mpr ⟨gb_of (by omega) (by omega), ok_nm.mpr (ok_nm.mpr ?_)⟩
  rw [hn]
  generalize hx : τ.1 15 K = x at hb hc ⊢
  have f2 : (20 * k + x).toInt = (20 * k).toInt + x.toInt := by rw [iadd_toInt] <;> omega
  refine ok_ite.mpr ⟨fun h => ?_, fun h => ok_some.mpr ⟨hI, hF, hb.1, hb.2, fun z => absurd (q_of 0 (z.trans (by decide))) h⟩⟩
  have hz : (τ.1 0 5).toInt = 0 := by rw [h]; decide
  have hc := hc hz
  refine ok_gd.mpr ⟨gb_of (by omega) (by omega), ok_nm.mpr (ok_gd.mpr ⟨gb_of (by omega) (by omega), ok_nm.mpr (ok_gd.mpr ⟨gb_of (by omega) (by omega), ok_nm.mpr (ok_some.mpr ?_)⟩)⟩)⟩
  have e : (gsL τ 14 (20 * k + x).toNatClampNeg v).1 15 K = x := hx
  rw [e]
  have e1 : (x + 1).toInt = x.toInt + 1 := i_inc (c := 20) (by omega) (by omega) (by decide)
  refine ⟨JM_w (JM_l hI) ?_ ?_, Fr_w0 (Fr_l0 hF (by decide)) (by decide), hb.1, hb.2, fun _ => hc⟩
  · rw [hkb]; show 0 ≤ (x + 1).toInt; omega
  · rw [hkb]; show (x + 1).toInt ≤ cap; omega
theorem w9_nn {σ τ : gS} {k : Int32} {K : Nat} {cap : Int} (v : Int64) (hk : k.toInt = (K : Int)) (hK : K ≤ 2) (hkb : kbM 15 K = (0, cap)) (hcap : cap ≤ 20) (hI : JM τ) (hF : Fr fr_fX10_newName σ τ) (hc : (τ.1 0 5).toInt = 0 → (τ.1 15 K).toInt + 1 ≤ cap) : Ok (lpc (S := Int32 × gS) K9 (fun rec s => bX10_newName_8 τ k v (fun a4 σ1 => rec (a4, σ1)) s.1 s.2) (0, τ)) (fun out => JM out.2 ∧ Fr fr_fX10_newName σ out.2 ∧ 0 ≤ out.1.toInt ∧ out.1.toInt ≤ cap ∧ ((out.2.1 0 5).toInt = 0 → out.1.toInt + 1 ≤ cap)) := by
  refine ok_lpc (I := fun (n : Nat) (s : Int32 × gS) => n = (3 - s.1.toInt).toNat ∧ 0 ≤ s.1.toInt ∧ s.1.toInt ≤ 3 ∧ JM s.2 ∧ Fr fr_fX10_newName σ s.2 ∧ ((s.2.1 0 5).toInt = 0 → (s.2.1 15 K).toInt + 1 ≤ cap)) (fun rec n s hs hrec => ?_) K9 3 (0, τ) ⟨by first | decide | (dsimp only; decide), by first | decide | (dsimp only; decide), by first | decide | (dsimp only; decide), hI, hF, hc⟩ (by unfold K9; decide)
  obtain ⟨a, ρ⟩ := s
  obtain ⟨hn, h0, h1, jI, jF, jc⟩ := hs
  dsimp only at hn h0 h1 jI jF jc ⊢
  have l3 : (3 : Int32).toInt = 3 := by decide
  unfold bX10_newName_8
  refine ok_ite.mpr ⟨fun _ => w9_nn47 v hk hK hkb hcap jI jF jc, fun h => ok_ite.mpr ⟨fun hb => ?_, fun _ => w9_nn47 v hk hK hkb hcap jI jF jc⟩⟩
  have h2 : a.toInt ≤ 2 := by
    have := q_gt h
    omega
  have e1 : (a + 1).toInt = a.toInt + 1 := i_inc (by omega) h1 (by decide)
  refine ok_bd.mpr ((o_fX10_nameOf jI (p1 := a) (p2 := v) h0 h2).mono (fun w _ => ok_ite.mpr ⟨fun _ => ok_nm.mpr ?_, fun _ => ?_⟩))
  · exact hrec (3 - (a + 1).toInt).toNat (a + 1, ρ) (by omega) ⟨rfl, show 0 ≤ (a + 1).toInt by omega, show (a + 1).toInt ≤ 3 by omega, jI, jF, jc⟩
  · refine ok_bd.mpr ((o_fX10_fail jI (p1 := 3) (p2 := ρ.1 0 21) (by decide) (by decide)).mono (fun u hu => ok_nm.mpr ?_))
    exact hrec (3 - (a + 1).toInt).toNat (a + 1, u) (by omega) ⟨rfl, show 0 ≤ (a + 1).toInt by omega, show (a + 1).toInt ≤ 3 by omega, hu.1, Fr_c jF hu.2.1 (by decide), fun z => absurd z hu.2.2⟩
theorem o_fX10_newName {σ : gS} (hIσ : JM σ) {p1 : Int32} (h0p1 : 0 ≤ p1.toInt) (h1p1 : p1.toInt ≤ 2) (pre0 : (σ.1 0 5).toInt = 0 → (p1.toInt = 0 ∧ (σ.1 15 0).toInt ≤ 5) ∨ (p1.toInt = 1 ∧ (σ.1 15 1).toInt ≤ 11) ∨ (p1.toInt = 2 ∧ (σ.1 15 2).toInt ≤ 19)) : Ok (fX10_newName σ p1) (fun out => JM out.2 ∧ Fr fr_fX10_newName σ out.2 ∧ 0 ≤ out.1.toInt ∧ out.1.toInt ≤ 20 ∧ ((p1.toInt = 0 → out.1.toInt ≤ 6) ∧ (p1.toInt = 1 → out.1.toInt ≤ 12) ∧ (p1.toInt = 2 → out.1.toInt ≤ 20)) ∧ ((out.2.1 0 5).toInt = 0 → (p1.toInt = 1 → out.1.toInt ≤ 11) ∧ (p1.toInt = 2 → out.1.toInt ≤ 19))) := by
  unfold fX10_newName
  refine ok_bd2.mpr ((o_fX10_name hIσ).mono (fun o ho => ?_))
  obtain ⟨v, τ⟩ := o
  obtain ⟨hI, hF, hb⟩ := ho
  dsimp only at hI hF hb ⊢
  have hF' : Fr fr_fX10_newName σ τ := Fr_c Fr_r hF (by decide)
  have e15 : ∀ i, τ.1 15 i = σ.1 15 i := fun i => (hF 15 i (by decide) (by simp [fr_fX10_name])).1
  have hz : (τ.1 0 5).toInt = 0 → (σ.1 0 5).toInt = 0 := fun z => by
    by_cases h : (σ.1 0 5).toInt = 0
    · exact h
    · exact absurd z (hb h)
  refine ok_nm.mpr (ok_nm.mpr ?_)
  have hj : p1.toInt = 0 ∨ p1.toInt = 1 ∨ p1.toInt = 2 := by omega
  rcases hj with hj | hj | hj
  · refine (w9_nn (K := 0) (cap := 6) v hj (by decide) rfl (by decide) hI hF' (fun z => ?_)).mono (fun o ho => ⟨ho.1, ho.2.1, by omega, by omega, ?_, fun z => ?_⟩)
    · have := pre0 (hz z)
      rw [e15]
      omega
    · omega
    · omega
  · refine (w9_nn (K := 1) (cap := 12) v hj (by decide) rfl (by decide) hI hF' (fun z => ?_)).mono (fun o ho => ⟨ho.1, ho.2.1, by omega, by omega, ?_, fun z => ?_⟩)
    · have := pre0 (hz z)
      rw [e15]
      omega
    · omega
    · have := ho.2.2.2.2 z
      omega
  · refine (w9_nn (K := 2) (cap := 20) v hj (by decide) rfl (by decide) hI hF' (fun z => ?_)).mono (fun o ho => ⟨ho.1, ho.2.1, by omega, by omega, ?_, fun z => ?_⟩)
    · have := pre0 (hz z)
      rw [e15]
      omega
    · omega
    · have := ho.2.2.2.2 z
      omega
set_option maxRecDepth 20000 in
set_option maxHeartbeats 2000000 in
theorem o_fX10_pointTold {σ : gS} (hIσ : JM σ) {p1 : Int32}  : Ok (fX10_pointTold σ p1) (fun out => JM out ∧ Fr fr_fX10_pointTold σ out) := by
  unfold fX10_pointTold
  have hfσ : Fr fr_fX10_pointTold σ σ := Fr_r
  have f1 : 0 ≤ (σ.1 15 0).toInt ∧ (σ.1 15 0).toInt ≤ 6 := hIσ 15 0
  have f2 : 0 ≤ (σ.1 15 1).toInt ∧ (σ.1 15 1).toInt ≤ 12 := hIσ 15 1
  have f3 : 0 ≤ (σ.1 15 2).toInt ∧ (σ.1 15 2).toInt ≤ 20 := hIσ 15 2
  have f4 : 0 ≤ (σ.1 15 3).toInt ∧ (σ.1 15 3).toInt ≤ 60 := hIσ 15 3
  have f5 : (2 : Int32).toInt = 2 := by decide
  have f6 : (20 : Int32).toInt = 20 := by decide
  refine ok_bd2.mpr ((o_fX10_isFull hIσ (p1 := (2 : Int32)) (p2 := (20 : Int32)) (p3 := p1) (by omega) (by omega) (by omega) (by omega)).mono (fun o_7 ho_8 => ?_))
  obtain ⟨r2, σ3⟩ := o_7
  obtain ⟨hIσ3, hcσ3, r0r2, r1r2, hp_9⟩ := ho_8
  dsimp only at hIσ3 hcσ3 r0r2 r1r2 hp_9 ⊢
  have hfσ3 : Fr fr_fX10_pointTold σ σ3 := Fr_c hfσ hcσ3 (by decide)
  have sσ3_15_0 : (σ3.1 15 0).toInt = (σ.1 15 0).toInt := by rw [(hcσ3 15 0 (by decide) (by decide)).1]
  have sσ3_15_1 : (σ3.1 15 1).toInt = (σ.1 15 1).toInt := by rw [(hcσ3 15 1 (by decide) (by decide)).1]
  have sσ3_15_2 : (σ3.1 15 2).toInt = (σ.1 15 2).toInt := by rw [(hcσ3 15 2 (by decide) (by decide)).1]
  have sσ3_15_3 : (σ3.1 15 3).toInt = (σ.1 15 3).toInt := by rw [(hcσ3 15 3 (by decide) (by decide)).1]
  refine ok_ite.mpr ⟨fun h_10 => ?_, fun h_10 => ?_⟩
  · have f11 : (0 : Int32).toInt = 0 := by decide
    have g12 : r2.toInt = (0 : Int32).toInt := by rw [h_10]
    refine ok_bd2.mpr ((o_fX10_newName hIσ3 (p1 := (2 : Int32)) (by omega) (by omega) (by omega)).mono (fun o_13 ho_14 => ?_))
    obtain ⟨r6, σ7⟩ := o_13
    obtain ⟨hIσ7, hcσ7, r0r6, r1r6, hp_15, hp_16⟩ := ho_14
    dsimp only at hIσ7 hcσ7 r0r6 r1r6 hp_15 hp_16 ⊢
    have hfσ7 : Fr fr_fX10_pointTold σ σ7 := Fr_c hfσ3 hcσ7 (by decide)
    refine ok_nm.mpr ?_
    refine ok_ite.mpr ⟨fun h_17 => ?_, fun h_17 => ?_⟩
    · have g18 : (σ7.1 0 5).toInt = (0 : Int32).toInt := by rw [h_17]
      refine ok_gd.mpr ⟨gb_of (by omega) (by omega), ?_⟩
      refine ok_nm2 (fun σ10_1 eσ10_1 => ?_)
      have hIσ10_1 : JM σ10_1 := by rw [eσ10_1]; exact JM_w hIσ7 (Int32.le_toInt _) (Int32.toInt_le _)
      have hfσ10_1 : Fr fr_fX10_pointTold σ σ10_1 := by rw [eσ10_1]; exact Fr_w0 hfσ7 (by decide)
      have sσ10_1_0_5 : (σ10_1.1 0 5).toInt = (σ7.1 0 5).toInt := by rw [eσ10_1]; rfl
      have sσ10_1_15_0 : (σ10_1.1 15 0).toInt = (σ7.1 15 0).toInt := by rw [eσ10_1]; rfl
      have sσ10_1_15_1 : (σ10_1.1 15 1).toInt = (σ7.1 15 1).toInt := by rw [eσ10_1]; rfl
      have sσ10_1_15_2 : (σ10_1.1 15 2).toInt = (σ7.1 15 2).toInt := by rw [eσ10_1]; rfl
      have sσ10_1_15_3 : (σ10_1.1 15 3).toInt = (σ7.1 15 3).toInt := by rw [eσ10_1]; rfl
      refine ok_some.mpr ?_
      exact ⟨hIσ10_1, hfσ10_1⟩
    · have g19 : (σ7.1 0 5).toInt ≠ (0 : Int32).toInt := fun z => h_17 (Int32.toInt_inj.mp z)
      refine ok_some.mpr ?_
      exact ⟨hIσ7, hfσ7⟩
  · have f20 : (0 : Int32).toInt = 0 := by decide
    have g21 : r2.toInt ≠ (0 : Int32).toInt := fun z => h_10 (Int32.toInt_inj.mp z)
    refine ok_some.mpr ?_
    exact ⟨hIσ3, hfσ3⟩
set_option maxRecDepth 20000 in
set_option maxHeartbeats 2000000 in
theorem o_fX10_pictureTold {σ : gS} (hIσ : JM σ) {p1 : Int32}  : Ok (fX10_pictureTold σ p1) (fun out => JM out ∧ Fr fr_fX10_pictureTold σ out) := by
  unfold fX10_pictureTold
  have hfσ : Fr fr_fX10_pictureTold σ σ := Fr_r
  have f1 : 0 ≤ (σ.1 15 0).toInt ∧ (σ.1 15 0).toInt ≤ 6 := hIσ 15 0
  have f2 : 0 ≤ (σ.1 15 1).toInt ∧ (σ.1 15 1).toInt ≤ 12 := hIσ 15 1
  have f3 : 0 ≤ (σ.1 15 2).toInt ∧ (σ.1 15 2).toInt ≤ 20 := hIσ 15 2
  have f4 : 0 ≤ (σ.1 15 3).toInt ∧ (σ.1 15 3).toInt ≤ 60 := hIσ 15 3
  have f5 : (1 : Int32).toInt = 1 := by decide
  have f6 : (12 : Int32).toInt = 12 := by decide
  refine ok_bd2.mpr ((o_fX10_isFull hIσ (p1 := (1 : Int32)) (p2 := (12 : Int32)) (p3 := p1) (by omega) (by omega) (by omega) (by omega)).mono (fun o_7 ho_8 => ?_))
  obtain ⟨r2, σ3⟩ := o_7
  obtain ⟨hIσ3, hcσ3, r0r2, r1r2, hp_9⟩ := ho_8
  dsimp only at hIσ3 hcσ3 r0r2 r1r2 hp_9 ⊢
  have hfσ3 : Fr fr_fX10_pictureTold σ σ3 := Fr_c hfσ hcσ3 (by decide)
  have sσ3_15_0 : (σ3.1 15 0).toInt = (σ.1 15 0).toInt := by rw [(hcσ3 15 0 (by decide) (by decide)).1]
  have sσ3_15_1 : (σ3.1 15 1).toInt = (σ.1 15 1).toInt := by rw [(hcσ3 15 1 (by decide) (by decide)).1]
  have sσ3_15_2 : (σ3.1 15 2).toInt = (σ.1 15 2).toInt := by rw [(hcσ3 15 2 (by decide) (by decide)).1]
  have sσ3_15_3 : (σ3.1 15 3).toInt = (σ.1 15 3).toInt := by rw [(hcσ3 15 3 (by decide) (by decide)).1]
  refine ok_ite.mpr ⟨fun h_10 => ?_, fun h_10 => ?_⟩
  · have f11 : (0 : Int32).toInt = 0 := by decide
    have g12 : r2.toInt = (0 : Int32).toInt := by rw [h_10]
    refine ok_bd2.mpr ((o_fX10_newName hIσ3 (p1 := (1 : Int32)) (by omega) (by omega) (by omega)).mono (fun o_13 ho_14 => ?_))
    obtain ⟨r6, σ7⟩ := o_13
    obtain ⟨hIσ7, hcσ7, r0r6, r1r6, hp_15, hp_16⟩ := ho_14
    dsimp only at hIσ7 hcσ7 r0r6 r1r6 hp_15 hp_16 ⊢
    have hfσ7 : Fr fr_fX10_pictureTold σ σ7 := Fr_c hfσ3 hcσ7 (by decide)
    refine ok_nm.mpr ?_
    refine ok_bd.mpr ((o_fX10_asks hIσ7 (p1 := 4) (by decide) (by decide)).mono (fun σ10_1 ho_18 => ?_))
    obtain ⟨hIσ10_1, hcσ10_1⟩ := ho_18
    have hfσ10_1 : Fr fr_fX10_pictureTold σ σ10_1 := Fr_c hfσ7 hcσ10_1 (by decide)
    have sσ10_1_15_0 : (σ10_1.1 15 0).toInt = (σ7.1 15 0).toInt := by rw [(hcσ10_1 15 0 (by decide) (by decide)).1]
    have sσ10_1_15_1 : (σ10_1.1 15 1).toInt = (σ7.1 15 1).toInt := by rw [(hcσ10_1 15 1 (by decide) (by decide)).1]
    have sσ10_1_15_2 : (σ10_1.1 15 2).toInt = (σ7.1 15 2).toInt := by rw [(hcσ10_1 15 2 (by decide) (by decide)).1]
    have sσ10_1_15_3 : (σ10_1.1 15 3).toInt = (σ7.1 15 3).toInt := by rw [(hcσ10_1 15 3 (by decide) (by decide)).1]
    refine ok_bd2.mpr ((o_fX10_oneOf hIσ10_1 (p1 := (0 : Int32)) (by omega) (by omega)).mono (fun o_19 ho_20 => ?_))
    obtain ⟨r12_1, σ13_1⟩ := o_19
    obtain ⟨hIσ13_1, hcσ13_1, r0r12_1, r1r12_1, hp_21⟩ := ho_20
    dsimp only at hIσ13_1 hcσ13_1 r0r12_1 r1r12_1 hp_21 ⊢
    have hfσ13_1 : Fr fr_fX10_pictureTold σ σ13_1 := Fr_c hfσ10_1 hcσ13_1 (by decide)
    have sσ13_1_15_0 : (σ13_1.1 15 0).toInt = (σ10_1.1 15 0).toInt := by rw [(hcσ13_1 15 0 (by decide) (by decide)).1]
    have sσ13_1_15_1 : (σ13_1.1 15 1).toInt = (σ10_1.1 15 1).toInt := by rw [(hcσ13_1 15 1 (by decide) (by decide)).1]
    have sσ13_1_15_2 : (σ13_1.1 15 2).toInt = (σ10_1.1 15 2).toInt := by rw [(hcσ13_1 15 2 (by decide) (by decide)).1]
    have sσ13_1_15_3 : (σ13_1.1 15 3).toInt = (σ10_1.1 15 3).toInt := by rw [(hcσ13_1 15 3 (by decide) (by decide)).1]
    refine ok_nm.mpr ?_
    refine ok_bd.mpr ((o_fX10_asks hIσ13_1 (p1 := 5) (by decide) (by decide)).mono (fun σ16_1_2 ho_23 => ?_))
    obtain ⟨hIσ16_1_2, hcσ16_1_2⟩ := ho_23
    have hfσ16_1_2 : Fr fr_fX10_pictureTold σ σ16_1_2 := Fr_c hfσ13_1 hcσ16_1_2 (by decide)
    have sσ16_1_2_15_0 : (σ16_1_2.1 15 0).toInt = (σ13_1.1 15 0).toInt := by rw [(hcσ16_1_2 15 0 (by decide) (by decide)).1]
    have sσ16_1_2_15_1 : (σ16_1_2.1 15 1).toInt = (σ13_1.1 15 1).toInt := by rw [(hcσ16_1_2 15 1 (by decide) (by decide)).1]
    have sσ16_1_2_15_2 : (σ16_1_2.1 15 2).toInt = (σ13_1.1 15 2).toInt := by rw [(hcσ16_1_2 15 2 (by decide) (by decide)).1]
    have sσ16_1_2_15_3 : (σ16_1_2.1 15 3).toInt = (σ13_1.1 15 3).toInt := by rw [(hcσ16_1_2 15 3 (by decide) (by decide)).1]
    refine ok_bd2.mpr ((o_fX10_takes hIσ16_1_2 (p1 := 6) (by decide) (by decide)).mono (fun o_24 ho_25 => ?_))
    obtain ⟨r18_1_2, σ19_1_2⟩ := o_24
    obtain ⟨hIσ19_1_2, hcσ19_1_2, r0r18_1_2, r1r18_1_2⟩ := ho_25
    dsimp only at hIσ19_1_2 hcσ19_1_2 r0r18_1_2 r1r18_1_2 ⊢
    have hfσ19_1_2 : Fr fr_fX10_pictureTold σ σ19_1_2 := Fr_c hfσ16_1_2 hcσ19_1_2 (by decide)
    have sσ19_1_2_0_5 : (σ19_1_2.1 0 5).toInt = (σ16_1_2.1 0 5).toInt := by rw [(hcσ19_1_2 0 5 (by decide) (by decide)).1]
    have sσ19_1_2_15_0 : (σ19_1_2.1 15 0).toInt = (σ16_1_2.1 15 0).toInt := by rw [(hcσ19_1_2 15 0 (by decide) (by decide)).1]
    have sσ19_1_2_15_1 : (σ19_1_2.1 15 1).toInt = (σ16_1_2.1 15 1).toInt := by rw [(hcσ19_1_2 15 1 (by decide) (by decide)).1]
    have sσ19_1_2_15_2 : (σ19_1_2.1 15 2).toInt = (σ16_1_2.1 15 2).toInt := by rw [(hcσ19_1_2 15 2 (by decide) (by decide)).1]
    have sσ19_1_2_15_3 : (σ19_1_2.1 15 3).toInt = (σ16_1_2.1 15 3).toInt := by rw [(hcσ19_1_2 15 3 (by decide) (by decide)).1]
    refine ok_ite.mpr ⟨fun h_26 => ?_, fun h_26 => ?_⟩
    · have g27 : r18_1_2.toInt = (0 : Int32).toInt := by rw [h_26]
      have f28 : (3 : Int32).toInt = 3 := by decide
      refine ok_bd2.mpr ((o_fX10_number hIσ19_1_2 (p1 := (0 : Int32)) (p2 := (3 : Int32)) (by omega) (by omega) (by omega) (by omega)).mono (fun o_29 ho_30 => ?_))
      obtain ⟨r22_1_2, σ23_1_2⟩ := o_29
      obtain ⟨hIσ23_1_2, hcσ23_1_2, r0r22_1_2, r1r22_1_2⟩ := ho_30
      dsimp only at hIσ23_1_2 hcσ23_1_2 r0r22_1_2 r1r22_1_2 ⊢
      have hfσ23_1_2 : Fr fr_fX10_pictureTold σ σ23_1_2 := Fr_c hfσ19_1_2 hcσ23_1_2 (by decide)
      have sσ23_1_2_15_0 : (σ23_1_2.1 15 0).toInt = (σ19_1_2.1 15 0).toInt := by rw [(hcσ23_1_2 15 0 (by decide) (by decide)).1]
      have sσ23_1_2_15_1 : (σ23_1_2.1 15 1).toInt = (σ19_1_2.1 15 1).toInt := by rw [(hcσ23_1_2 15 1 (by decide) (by decide)).1]
      have sσ23_1_2_15_2 : (σ23_1_2.1 15 2).toInt = (σ19_1_2.1 15 2).toInt := by rw [(hcσ23_1_2 15 2 (by decide) (by decide)).1]
      have sσ23_1_2_15_3 : (σ23_1_2.1 15 3).toInt = (σ19_1_2.1 15 3).toInt := by rw [(hcσ23_1_2 15 3 (by decide) (by decide)).1]
      try unfold jX10_pictureTold_61
      refine ok_nm.mpr ?_
      refine ok_ite.mpr ⟨fun h_31 => ?_, fun h_31 => ?_⟩
      · have g32 : (σ23_1_2.1 0 5).toInt = (0 : Int32).toInt := by rw [h_31]
        refine ok_gd.mpr ⟨gb_of (by omega) (by omega), ?_⟩
        refine ok_nm2 (fun σ26_3_4 eσ26_3_4 => ?_)
        have hIσ26_3_4 : JM σ26_3_4 := by rw [eσ26_3_4]; exact JM_w hIσ23_1_2 (show 0 ≤ _ by omega) (show _ ≤ 5 by omega)
        have hfσ26_3_4 : Fr fr_fX10_pictureTold σ σ26_3_4 := by rw [eσ26_3_4]; exact Fr_w0 hfσ23_1_2 (by decide)
        have sσ26_3_4_0_5 : (σ26_3_4.1 0 5).toInt = (σ23_1_2.1 0 5).toInt := by rw [eσ26_3_4]; rfl
        have sσ26_3_4_15_0 : (σ26_3_4.1 15 0).toInt = (σ23_1_2.1 15 0).toInt := by rw [eσ26_3_4]; rfl
        have sσ26_3_4_15_1 : (σ26_3_4.1 15 1).toInt = (σ23_1_2.1 15 1).toInt := by rw [eσ26_3_4]; rfl
        have sσ26_3_4_15_2 : (σ26_3_4.1 15 2).toInt = (σ23_1_2.1 15 2).toInt := by rw [eσ26_3_4]; rfl
        have sσ26_3_4_15_3 : (σ26_3_4.1 15 3).toInt = (σ23_1_2.1 15 3).toInt := by rw [eσ26_3_4]; rfl
        refine ok_gd.mpr ⟨gb_of (by omega) (by omega), ?_⟩
        refine ok_nm2 (fun σ27_3_4 eσ27_3_4 => ?_)
        have hIσ27_3_4 : JM σ27_3_4 := by rw [eσ27_3_4]; exact JM_w hIσ26_3_4 (Int32.le_toInt _) (Int32.toInt_le _)
        have hfσ27_3_4 : Fr fr_fX10_pictureTold σ σ27_3_4 := by rw [eσ27_3_4]; exact Fr_w0 hfσ26_3_4 (by decide)
        have sσ27_3_4_0_5 : (σ27_3_4.1 0 5).toInt = (σ26_3_4.1 0 5).toInt := by rw [eσ27_3_4]; rfl
        have sσ27_3_4_15_0 : (σ27_3_4.1 15 0).toInt = (σ26_3_4.1 15 0).toInt := by rw [eσ27_3_4]; rfl
        have sσ27_3_4_15_1 : (σ27_3_4.1 15 1).toInt = (σ26_3_4.1 15 1).toInt := by rw [eσ27_3_4]; rfl
        have sσ27_3_4_15_2 : (σ27_3_4.1 15 2).toInt = (σ26_3_4.1 15 2).toInt := by rw [eσ27_3_4]; rfl
        have sσ27_3_4_15_3 : (σ27_3_4.1 15 3).toInt = (σ26_3_4.1 15 3).toInt := by rw [eσ27_3_4]; rfl
        refine ok_gd.mpr ⟨gb_of (by omega) (by omega), ?_⟩
        refine ok_nm2 (fun σ28_3_4 eσ28_3_4 => ?_)
        have hIσ28_3_4 : JM σ28_3_4 := by rw [eσ28_3_4]; exact JM_w hIσ27_3_4 (show 0 ≤ _ by omega) (show _ ≤ 9999 by omega)
        have hfσ28_3_4 : Fr fr_fX10_pictureTold σ σ28_3_4 := by rw [eσ28_3_4]; exact Fr_w0 hfσ27_3_4 (by decide)
        have sσ28_3_4_0_5 : (σ28_3_4.1 0 5).toInt = (σ27_3_4.1 0 5).toInt := by rw [eσ28_3_4]; rfl
        have sσ28_3_4_15_0 : (σ28_3_4.1 15 0).toInt = (σ27_3_4.1 15 0).toInt := by rw [eσ28_3_4]; rfl
        have sσ28_3_4_15_1 : (σ28_3_4.1 15 1).toInt = (σ27_3_4.1 15 1).toInt := by rw [eσ28_3_4]; rfl
        have sσ28_3_4_15_2 : (σ28_3_4.1 15 2).toInt = (σ27_3_4.1 15 2).toInt := by rw [eσ28_3_4]; rfl
        have sσ28_3_4_15_3 : (σ28_3_4.1 15 3).toInt = (σ27_3_4.1 15 3).toInt := by rw [eσ28_3_4]; rfl
        refine ok_some.mpr ?_
        exact ⟨hIσ28_3_4, hfσ28_3_4⟩
      · have g33 : (σ23_1_2.1 0 5).toInt ≠ (0 : Int32).toInt := fun z => h_31 (Int32.toInt_inj.mp z)
        refine ok_some.mpr ?_
        exact ⟨hIσ23_1_2, hfσ23_1_2⟩
    · have g34 : r18_1_2.toInt ≠ (0 : Int32).toInt := fun z => h_26 (Int32.toInt_inj.mp z)
      try unfold jX10_pictureTold_61
      refine ok_nm2 (fun x24_5 ex24_5 => ?_)
      have f35 : (4 : Int32).toInt = 4 := by decide
      have qx24_5 : x24_5.toInt = 4 := by rw [ex24_5]; decide
      refine ok_ite.mpr ⟨fun h_36 => ?_, fun h_36 => ?_⟩
      · have g37 : (σ19_1_2.1 0 5).toInt = (0 : Int32).toInt := by rw [h_36]
        refine ok_gd.mpr ⟨gb_of (by omega) (by omega), ?_⟩
        refine ok_nm2 (fun σ26_5 eσ26_5 => ?_)
        have hIσ26_5 : JM σ26_5 := by rw [eσ26_5]; exact JM_w hIσ19_1_2 (show 0 ≤ _ by omega) (show _ ≤ 5 by omega)
        have hfσ26_5 : Fr fr_fX10_pictureTold σ σ26_5 := by rw [eσ26_5]; exact Fr_w0 hfσ19_1_2 (by decide)
        have sσ26_5_0_5 : (σ26_5.1 0 5).toInt = (σ19_1_2.1 0 5).toInt := by rw [eσ26_5]; rfl
        have sσ26_5_15_0 : (σ26_5.1 15 0).toInt = (σ19_1_2.1 15 0).toInt := by rw [eσ26_5]; rfl
        have sσ26_5_15_1 : (σ26_5.1 15 1).toInt = (σ19_1_2.1 15 1).toInt := by rw [eσ26_5]; rfl
        have sσ26_5_15_2 : (σ26_5.1 15 2).toInt = (σ19_1_2.1 15 2).toInt := by rw [eσ26_5]; rfl
        have sσ26_5_15_3 : (σ26_5.1 15 3).toInt = (σ19_1_2.1 15 3).toInt := by rw [eσ26_5]; rfl
        refine ok_gd.mpr ⟨gb_of (by omega) (by omega), ?_⟩
        refine ok_nm2 (fun σ27_5 eσ27_5 => ?_)
        have hIσ27_5 : JM σ27_5 := by rw [eσ27_5]; exact JM_w hIσ26_5 (Int32.le_toInt _) (Int32.toInt_le _)
        have hfσ27_5 : Fr fr_fX10_pictureTold σ σ27_5 := by rw [eσ27_5]; exact Fr_w0 hfσ26_5 (by decide)
        have sσ27_5_0_5 : (σ27_5.1 0 5).toInt = (σ26_5.1 0 5).toInt := by rw [eσ27_5]; rfl
        have sσ27_5_15_0 : (σ27_5.1 15 0).toInt = (σ26_5.1 15 0).toInt := by rw [eσ27_5]; rfl
        have sσ27_5_15_1 : (σ27_5.1 15 1).toInt = (σ26_5.1 15 1).toInt := by rw [eσ27_5]; rfl
        have sσ27_5_15_2 : (σ27_5.1 15 2).toInt = (σ26_5.1 15 2).toInt := by rw [eσ27_5]; rfl
        have sσ27_5_15_3 : (σ27_5.1 15 3).toInt = (σ26_5.1 15 3).toInt := by rw [eσ27_5]; rfl
        refine ok_gd.mpr ⟨gb_of (by omega) (by omega), ?_⟩
        refine ok_nm2 (fun σ28_5 eσ28_5 => ?_)
        have hIσ28_5 : JM σ28_5 := by rw [eσ28_5]; exact JM_w hIσ27_5 (show 0 ≤ _ by omega) (show _ ≤ 9999 by omega)
        have hfσ28_5 : Fr fr_fX10_pictureTold σ σ28_5 := by rw [eσ28_5]; exact Fr_w0 hfσ27_5 (by decide)
        have sσ28_5_0_5 : (σ28_5.1 0 5).toInt = (σ27_5.1 0 5).toInt := by rw [eσ28_5]; rfl
        have sσ28_5_15_0 : (σ28_5.1 15 0).toInt = (σ27_5.1 15 0).toInt := by rw [eσ28_5]; rfl
        have sσ28_5_15_1 : (σ28_5.1 15 1).toInt = (σ27_5.1 15 1).toInt := by rw [eσ28_5]; rfl
        have sσ28_5_15_2 : (σ28_5.1 15 2).toInt = (σ27_5.1 15 2).toInt := by rw [eσ28_5]; rfl
        have sσ28_5_15_3 : (σ28_5.1 15 3).toInt = (σ27_5.1 15 3).toInt := by rw [eσ28_5]; rfl
        refine ok_some.mpr ?_
        exact ⟨hIσ28_5, hfσ28_5⟩
      · have g38 : (σ19_1_2.1 0 5).toInt ≠ (0 : Int32).toInt := fun z => h_36 (Int32.toInt_inj.mp z)
        refine ok_some.mpr ?_
        exact ⟨hIσ19_1_2, hfσ19_1_2⟩
  · have f39 : (0 : Int32).toInt = 0 := by decide
    have g40 : r2.toInt ≠ (0 : Int32).toInt := fun z => h_10 (Int32.toInt_inj.mp z)
    refine ok_some.mpr ?_
    exact ⟨hIσ3, hfσ3⟩
set_option maxRecDepth 20000 in
set_option maxHeartbeats 2000000 in
theorem o_fX10_blockTold {σ : gS} (hIσ : JM σ)   : Ok (fX10_blockTold σ ) (fun out => JM out ∧ Fr fr_fX10_blockTold σ out ∧ (σ.1 0 34).toInt ≤ (out.1 0 34).toInt ∧ ((out.1 0 34).toInt = (σ.1 0 34).toInt + 1 ∨ (out.1 0 5).toInt ≠ 0)) := by
  unfold fX10_blockTold
  have hfσ : Fr fr_fX10_blockTold σ σ := Fr_r
  have f1 : 0 ≤ (σ.1 0 2).toInt ∧ (σ.1 0 2).toInt ≤ 1600 := hIσ 0 2
  have f2 : 0 ≤ (σ.1 0 34).toInt ∧ (σ.1 0 34).toInt ≤ 120 := hIσ 0 34
  have f3 : 0 ≤ (σ.1 15 0).toInt ∧ (σ.1 15 0).toInt ≤ 6 := hIσ 15 0
  have f4 : 0 ≤ (σ.1 15 1).toInt ∧ (σ.1 15 1).toInt ≤ 12 := hIσ 15 1
  have f5 : 0 ≤ (σ.1 15 2).toInt ∧ (σ.1 15 2).toInt ≤ 20 := hIσ 15 2
  have f6 : 0 ≤ (σ.1 15 3).toInt ∧ (σ.1 15 3).toInt ≤ 60 := hIσ 15 3
  refine ok_nm2 (fun x1 ex1 => ?_)
  have qx1 : x1.toInt = (σ.1 0 2).toInt := congrArg Int32.toInt ex1
  refine ok_ite.mpr ⟨fun h_7 => ?_, fun h_7 => ?_⟩
  · have f8 : (120 : Int32).toInt = 120 := by decide
    have g9 : (σ.1 0 34).toInt = (120 : Int32).toInt := by rw [h_7]
    have f10 : (4 : Int32).toInt = 4 := by decide
    refine ok_bd.mpr ((o_fX10_fail hIσ (p1 := (4 : Int32)) (p2 := x1) (by omega) (by omega)).mono (fun σ47 ho_12 => ?_))
    obtain ⟨hIσ47, hcσ47, hp_13⟩ := ho_12
    have hfσ47 : Fr fr_fX10_blockTold σ σ47 := Fr_c hfσ hcσ47 (by decide)
    have sσ47_0_2 : (σ47.1 0 2).toInt = (σ.1 0 2).toInt := by rw [(hcσ47 0 2 (by decide) (by decide)).1]
    have sσ47_0_34 : (σ47.1 0 34).toInt = (σ.1 0 34).toInt := by rw [(hcσ47 0 34 (by decide) (by decide)).1]
    have sσ47_15_0 : (σ47.1 15 0).toInt = (σ.1 15 0).toInt := by rw [(hcσ47 15 0 (by decide) (by decide)).1]
    have sσ47_15_1 : (σ47.1 15 1).toInt = (σ.1 15 1).toInt := by rw [(hcσ47 15 1 (by decide) (by decide)).1]
    have sσ47_15_2 : (σ47.1 15 2).toInt = (σ.1 15 2).toInt := by rw [(hcσ47 15 2 (by decide) (by decide)).1]
    have sσ47_15_3 : (σ47.1 15 3).toInt = (σ.1 15 3).toInt := by rw [(hcσ47 15 3 (by decide) (by decide)).1]
    refine ok_some.mpr ?_
    exact ⟨hIσ47, hfσ47, (show (σ.1 0 34).toInt ≤ (σ47.1 0 34).toInt by omega), (show (σ47.1 0 34).toInt = (σ.1 0 34).toInt + 1 ∨ (σ47.1 0 5).toInt ≠ 0 by omega)⟩
  · have f14 : (120 : Int32).toInt = 120 := by decide
    have g15 : (σ.1 0 34).toInt ≠ (120 : Int32).toInt := fun z => h_7 (Int32.toInt_inj.mp z)
    refine ok_bd2.mpr ((o_fX10_takes hIσ (p1 := 2) (by decide) (by decide)).mono (fun o_16 ho_17 => ?_))
    obtain ⟨r4, σ5⟩ := o_16
    obtain ⟨hIσ5, hcσ5, r0r4, r1r4⟩ := ho_17
    dsimp only at hIσ5 hcσ5 r0r4 r1r4 ⊢
    have hfσ5 : Fr fr_fX10_blockTold σ σ5 := Fr_c hfσ hcσ5 (by decide)
    have sσ5_0_5 : (σ5.1 0 5).toInt = (σ.1 0 5).toInt := by rw [(hcσ5 0 5 (by decide) (by decide)).1]
    have sσ5_0_34 : (σ5.1 0 34).toInt = (σ.1 0 34).toInt := by rw [(hcσ5 0 34 (by decide) (by decide)).1]
    have sσ5_15_0 : (σ5.1 15 0).toInt = (σ.1 15 0).toInt := by rw [(hcσ5 15 0 (by decide) (by decide)).1]
    have sσ5_15_1 : (σ5.1 15 1).toInt = (σ.1 15 1).toInt := by rw [(hcσ5 15 1 (by decide) (by decide)).1]
    have sσ5_15_2 : (σ5.1 15 2).toInt = (σ.1 15 2).toInt := by rw [(hcσ5 15 2 (by decide) (by decide)).1]
    have sσ5_15_3 : (σ5.1 15 3).toInt = (σ.1 15 3).toInt := by rw [(hcσ5 15 3 (by decide) (by decide)).1]
    refine ok_ite.mpr ⟨fun h_18 => ?_, fun h_18 => ?_⟩
    · have f19 : (0 : Int32).toInt = 0 := by decide
      have g20 : r4.toInt = (0 : Int32).toInt := by rw [h_18]
      refine ok_bd2.mpr ((o_fX10_takes hIσ5 (p1 := 3) (by decide) (by decide)).mono (fun o_21 ho_22 => ?_))
      obtain ⟨r8, σ9⟩ := o_21
      obtain ⟨hIσ9, hcσ9, r0r8, r1r8⟩ := ho_22
      dsimp only at hIσ9 hcσ9 r0r8 r1r8 ⊢
      have hfσ9 : Fr fr_fX10_blockTold σ σ9 := Fr_c hfσ5 hcσ9 (by decide)
      have sσ9_0_5 : (σ9.1 0 5).toInt = (σ5.1 0 5).toInt := by rw [(hcσ9 0 5 (by decide) (by decide)).1]
      have sσ9_0_34 : (σ9.1 0 34).toInt = (σ5.1 0 34).toInt := by rw [(hcσ9 0 34 (by decide) (by decide)).1]
      have sσ9_15_0 : (σ9.1 15 0).toInt = (σ5.1 15 0).toInt := by rw [(hcσ9 15 0 (by decide) (by decide)).1]
      have sσ9_15_1 : (σ9.1 15 1).toInt = (σ5.1 15 1).toInt := by rw [(hcσ9 15 1 (by decide) (by decide)).1]
      have sσ9_15_2 : (σ9.1 15 2).toInt = (σ5.1 15 2).toInt := by rw [(hcσ9 15 2 (by decide) (by decide)).1]
      have sσ9_15_3 : (σ9.1 15 3).toInt = (σ5.1 15 3).toInt := by rw [(hcσ9 15 3 (by decide) (by decide)).1]
      refine ok_ite.mpr ⟨fun h_23 => ?_, fun h_23 => ?_⟩
      · have g24 : r8.toInt = (0 : Int32).toInt := by rw [h_23]
        refine ok_bd2.mpr ((o_fX10_takes hIσ9 (p1 := 7) (by decide) (by decide)).mono (fun o_25 ho_26 => ?_))
        obtain ⟨r12, σ13⟩ := o_25
        obtain ⟨hIσ13, hcσ13, r0r12, r1r12⟩ := ho_26
        dsimp only at hIσ13 hcσ13 r0r12 r1r12 ⊢
        have hfσ13 : Fr fr_fX10_blockTold σ σ13 := Fr_c hfσ9 hcσ13 (by decide)
        have sσ13_0_5 : (σ13.1 0 5).toInt = (σ9.1 0 5).toInt := by rw [(hcσ13 0 5 (by decide) (by decide)).1]
        have sσ13_0_34 : (σ13.1 0 34).toInt = (σ9.1 0 34).toInt := by rw [(hcσ13 0 34 (by decide) (by decide)).1]
        have sσ13_15_0 : (σ13.1 15 0).toInt = (σ9.1 15 0).toInt := by rw [(hcσ13 15 0 (by decide) (by decide)).1]
        have sσ13_15_1 : (σ13.1 15 1).toInt = (σ9.1 15 1).toInt := by rw [(hcσ13 15 1 (by decide) (by decide)).1]
        have sσ13_15_2 : (σ13.1 15 2).toInt = (σ9.1 15 2).toInt := by rw [(hcσ13 15 2 (by decide) (by decide)).1]
        have sσ13_15_3 : (σ13.1 15 3).toInt = (σ9.1 15 3).toInt := by rw [(hcσ13 15 3 (by decide) (by decide)).1]
        refine ok_ite.mpr ⟨fun h_27 => ?_, fun h_27 => ?_⟩
        · have g28 : r12.toInt = (0 : Int32).toInt := by rw [h_27]
          refine ok_bd2.mpr ((o_fX10_takes hIσ13 (p1 := 8) (by decide) (by decide)).mono (fun o_29 ho_30 => ?_))
          obtain ⟨r16, σ17⟩ := o_29
          obtain ⟨hIσ17, hcσ17, r0r16, r1r16⟩ := ho_30
          dsimp only at hIσ17 hcσ17 r0r16 r1r16 ⊢
          have hfσ17 : Fr fr_fX10_blockTold σ σ17 := Fr_c hfσ13 hcσ17 (by decide)
          have sσ17_0_5 : (σ17.1 0 5).toInt = (σ13.1 0 5).toInt := by rw [(hcσ17 0 5 (by decide) (by decide)).1]
          have sσ17_0_34 : (σ17.1 0 34).toInt = (σ13.1 0 34).toInt := by rw [(hcσ17 0 34 (by decide) (by decide)).1]
          have sσ17_15_0 : (σ17.1 15 0).toInt = (σ13.1 15 0).toInt := by rw [(hcσ17 15 0 (by decide) (by decide)).1]
          have sσ17_15_1 : (σ17.1 15 1).toInt = (σ13.1 15 1).toInt := by rw [(hcσ17 15 1 (by decide) (by decide)).1]
          have sσ17_15_2 : (σ17.1 15 2).toInt = (σ13.1 15 2).toInt := by rw [(hcσ17 15 2 (by decide) (by decide)).1]
          have sσ17_15_3 : (σ17.1 15 3).toInt = (σ13.1 15 3).toInt := by rw [(hcσ17 15 3 (by decide) (by decide)).1]
          refine ok_ite.mpr ⟨fun h_31 => ?_, fun h_31 => ?_⟩
          · have g32 : r16.toInt = (0 : Int32).toInt := by rw [h_31]
            refine ok_bd2.mpr ((o_fX10_takes hIσ17 (p1 := 11) (by decide) (by decide)).mono (fun o_33 ho_34 => ?_))
            obtain ⟨r20, σ21⟩ := o_33
            obtain ⟨hIσ21, hcσ21, r0r20, r1r20⟩ := ho_34
            dsimp only at hIσ21 hcσ21 r0r20 r1r20 ⊢
            have hfσ21 : Fr fr_fX10_blockTold σ σ21 := Fr_c hfσ17 hcσ21 (by decide)
            have sσ21_0_5 : (σ21.1 0 5).toInt = (σ17.1 0 5).toInt := by rw [(hcσ21 0 5 (by decide) (by decide)).1]
            have sσ21_0_34 : (σ21.1 0 34).toInt = (σ17.1 0 34).toInt := by rw [(hcσ21 0 34 (by decide) (by decide)).1]
            have sσ21_15_0 : (σ21.1 15 0).toInt = (σ17.1 15 0).toInt := by rw [(hcσ21 15 0 (by decide) (by decide)).1]
            have sσ21_15_1 : (σ21.1 15 1).toInt = (σ17.1 15 1).toInt := by rw [(hcσ21 15 1 (by decide) (by decide)).1]
            have sσ21_15_2 : (σ21.1 15 2).toInt = (σ17.1 15 2).toInt := by rw [(hcσ21 15 2 (by decide) (by decide)).1]
            have sσ21_15_3 : (σ21.1 15 3).toInt = (σ17.1 15 3).toInt := by rw [(hcσ21 15 3 (by decide) (by decide)).1]
            refine ok_ite.mpr ⟨fun h_35 => ?_, fun h_35 => ?_⟩
            · have g36 : r20.toInt = (0 : Int32).toInt := by rw [h_35]
              refine ok_bd.mpr ((o_fX10_asks hIσ21 (p1 := 13) (by decide) (by decide)).mono (fun σ24 ho_38 => ?_))
              obtain ⟨hIσ24, hcσ24⟩ := ho_38
              have hfσ24 : Fr fr_fX10_blockTold σ σ24 := Fr_c hfσ21 hcσ24 (by decide)
              have sσ24_0_34 : (σ24.1 0 34).toInt = (σ21.1 0 34).toInt := by rw [(hcσ24 0 34 (by decide) (by decide)).1]
              have sσ24_15_0 : (σ24.1 15 0).toInt = (σ21.1 15 0).toInt := by rw [(hcσ24 15 0 (by decide) (by decide)).1]
              have sσ24_15_1 : (σ24.1 15 1).toInt = (σ21.1 15 1).toInt := by rw [(hcσ24 15 1 (by decide) (by decide)).1]
              have sσ24_15_2 : (σ24.1 15 2).toInt = (σ21.1 15 2).toInt := by rw [(hcσ24 15 2 (by decide) (by decide)).1]
              have sσ24_15_3 : (σ24.1 15 3).toInt = (σ21.1 15 3).toInt := by rw [(hcσ24 15 3 (by decide) (by decide)).1]
              refine ok_ite.mpr ⟨fun h_39 => ?_, fun h_39 => ?_⟩
              · have g40 : (σ24.1 0 5).toInt = (0 : Int32).toInt := by rw [h_39]
                refine ok_bd.mpr ((o_fX10_centreTold hIσ24  ).mono (fun σ30 ho_42 => ?_))
                obtain ⟨hIσ30, hcσ30⟩ := ho_42
                have hfσ30 : Fr fr_fX10_blockTold σ σ30 := Fr_c hfσ24 hcσ30 (by decide)
                have sσ30_0_34 : (σ30.1 0 34).toInt = (σ24.1 0 34).toInt := by rw [(hcσ30 0 34 (by decide) (by decide)).1]
                try unfold jX10_blockTold_147
                have f43 : (59 : Int32).toInt = 59 := by decide
                refine ok_bd.mpr ((o_fX10_asksSign hIσ30 (p1 := (59 : Int32)) (by omega) (by omega) (by omega)).mono (fun σ27_1 ho_45 => ?_))
                obtain ⟨hIσ27_1, hcσ27_1⟩ := ho_45
                have hfσ27_1 : Fr fr_fX10_blockTold σ σ27_1 := Fr_c hfσ30 hcσ27_1 (by decide)
                have sσ27_1_0_34 : (σ27_1.1 0 34).toInt = (σ30.1 0 34).toInt := by rw [(hcσ27_1 0 34 (by decide) (by decide)).1]
                have sσ27_1_15_0 : (σ27_1.1 15 0).toInt = (σ30.1 15 0).toInt := by rw [(hcσ27_1 15 0 (by decide) (by decide)).1]
                have sσ27_1_15_1 : (σ27_1.1 15 1).toInt = (σ30.1 15 1).toInt := by rw [(hcσ27_1 15 1 (by decide) (by decide)).1]
                have sσ27_1_15_2 : (σ27_1.1 15 2).toInt = (σ30.1 15 2).toInt := by rw [(hcσ27_1 15 2 (by decide) (by decide)).1]
                have sσ27_1_15_3 : (σ27_1.1 15 3).toInt = (σ30.1 15 3).toInt := by rw [(hcσ27_1 15 3 (by decide) (by decide)).1]
                refine ok_nm2 (fun σ28_1 eσ28_1 => ?_)
                have f46 : 0 ≤ (σ27_1.1 0 34).toInt ∧ (σ27_1.1 0 34).toInt ≤ 120 := hIσ27_1 0 34
                have f47 : (1 : Int32).toInt = 1 := by decide
                have f48 : ((σ27_1.1 0 34) + (1 : Int32)).toInt = (σ27_1.1 0 34).toInt + (1 : Int32).toInt := iadd_toInt (by omega) (by omega)
                have hIσ28_1 : JM σ28_1 := by rw [eσ28_1]; exact JM_w hIσ27_1 (show 0 ≤ _ by omega) (show _ ≤ 120 by omega)
                have hfσ28_1 : Fr fr_fX10_blockTold σ σ28_1 := by rw [eσ28_1]; exact Fr_w hfσ27_1 (by decide)
                have sσ28_1_0_2 : (σ28_1.1 0 2).toInt = (σ27_1.1 0 2).toInt := by rw [eσ28_1]; rfl
                have sσ28_1_0_5 : (σ28_1.1 0 5).toInt = (σ27_1.1 0 5).toInt := by rw [eσ28_1]; rfl
                have sσ28_1_0_34 : (σ28_1.1 0 34).toInt = ((σ27_1.1 0 34) + 1).toInt := by rw [eσ28_1]; rfl
                have sσ28_1_15_0 : (σ28_1.1 15 0).toInt = (σ27_1.1 15 0).toInt := by rw [eσ28_1]; rfl
                have sσ28_1_15_1 : (σ28_1.1 15 1).toInt = (σ27_1.1 15 1).toInt := by rw [eσ28_1]; rfl
                have sσ28_1_15_2 : (σ28_1.1 15 2).toInt = (σ27_1.1 15 2).toInt := by rw [eσ28_1]; rfl
                have sσ28_1_15_3 : (σ28_1.1 15 3).toInt = (σ27_1.1 15 3).toInt := by rw [eσ28_1]; rfl
                refine ok_some.mpr ?_
                exact ⟨hIσ28_1, hfσ28_1, (show (σ.1 0 34).toInt ≤ (σ28_1.1 0 34).toInt by omega), (show (σ28_1.1 0 34).toInt = (σ.1 0 34).toInt + 1 ∨ (σ28_1.1 0 5).toInt ≠ 0 by omega)⟩
              · have g49 : (σ24.1 0 5).toInt ≠ (0 : Int32).toInt := fun z => h_39 (Int32.toInt_inj.mp z)
                try unfold jX10_blockTold_147
                have f50 : (59 : Int32).toInt = 59 := by decide
                refine ok_bd.mpr ((o_fX10_asksSign hIσ24 (p1 := (59 : Int32)) (by omega) (by omega) (by omega)).mono (fun σ27_2 ho_52 => ?_))
                obtain ⟨hIσ27_2, hcσ27_2⟩ := ho_52
                have hfσ27_2 : Fr fr_fX10_blockTold σ σ27_2 := Fr_c hfσ24 hcσ27_2 (by decide)
                have sσ27_2_0_34 : (σ27_2.1 0 34).toInt = (σ24.1 0 34).toInt := by rw [(hcσ27_2 0 34 (by decide) (by decide)).1]
                have sσ27_2_15_0 : (σ27_2.1 15 0).toInt = (σ24.1 15 0).toInt := by rw [(hcσ27_2 15 0 (by decide) (by decide)).1]
                have sσ27_2_15_1 : (σ27_2.1 15 1).toInt = (σ24.1 15 1).toInt := by rw [(hcσ27_2 15 1 (by decide) (by decide)).1]
                have sσ27_2_15_2 : (σ27_2.1 15 2).toInt = (σ24.1 15 2).toInt := by rw [(hcσ27_2 15 2 (by decide) (by decide)).1]
                have sσ27_2_15_3 : (σ27_2.1 15 3).toInt = (σ24.1 15 3).toInt := by rw [(hcσ27_2 15 3 (by decide) (by decide)).1]
                refine ok_nm2 (fun σ28_2 eσ28_2 => ?_)
                have f53 : 0 ≤ (σ27_2.1 0 34).toInt ∧ (σ27_2.1 0 34).toInt ≤ 120 := hIσ27_2 0 34
                have f54 : (1 : Int32).toInt = 1 := by decide
                have f55 : ((σ27_2.1 0 34) + (1 : Int32)).toInt = (σ27_2.1 0 34).toInt + (1 : Int32).toInt := iadd_toInt (by omega) (by omega)
                have hIσ28_2 : JM σ28_2 := by rw [eσ28_2]; exact JM_w hIσ27_2 (show 0 ≤ _ by omega) (show _ ≤ 120 by omega)
                have hfσ28_2 : Fr fr_fX10_blockTold σ σ28_2 := by rw [eσ28_2]; exact Fr_w hfσ27_2 (by decide)
                have sσ28_2_0_2 : (σ28_2.1 0 2).toInt = (σ27_2.1 0 2).toInt := by rw [eσ28_2]; rfl
                have sσ28_2_0_5 : (σ28_2.1 0 5).toInt = (σ27_2.1 0 5).toInt := by rw [eσ28_2]; rfl
                have sσ28_2_0_34 : (σ28_2.1 0 34).toInt = ((σ27_2.1 0 34) + 1).toInt := by rw [eσ28_2]; rfl
                have sσ28_2_15_0 : (σ28_2.1 15 0).toInt = (σ27_2.1 15 0).toInt := by rw [eσ28_2]; rfl
                have sσ28_2_15_1 : (σ28_2.1 15 1).toInt = (σ27_2.1 15 1).toInt := by rw [eσ28_2]; rfl
                have sσ28_2_15_2 : (σ28_2.1 15 2).toInt = (σ27_2.1 15 2).toInt := by rw [eσ28_2]; rfl
                have sσ28_2_15_3 : (σ28_2.1 15 3).toInt = (σ27_2.1 15 3).toInt := by rw [eσ28_2]; rfl
                refine ok_some.mpr ?_
                exact ⟨hIσ28_2, hfσ28_2, (show (σ.1 0 34).toInt ≤ (σ28_2.1 0 34).toInt by omega), (show (σ28_2.1 0 34).toInt = (σ.1 0 34).toInt + 1 ∨ (σ28_2.1 0 5).toInt ≠ 0 by omega)⟩
            · have g56 : r20.toInt ≠ (0 : Int32).toInt := fun z => h_35 (Int32.toInt_inj.mp z)
              refine ok_bd.mpr ((o_fX10_controlTold hIσ21 (p1 := x1) ).mono (fun σ32 ho_58 => ?_))
              obtain ⟨hIσ32, hcσ32⟩ := ho_58
              have hfσ32 : Fr fr_fX10_blockTold σ σ32 := Fr_c hfσ21 hcσ32 (by decide)
              have sσ32_0_34 : (σ32.1 0 34).toInt = (σ21.1 0 34).toInt := by rw [(hcσ32 0 34 (by decide) (by decide)).1]
              try unfold jX10_blockTold_147
              have f59 : (59 : Int32).toInt = 59 := by decide
              refine ok_bd.mpr ((o_fX10_asksSign hIσ32 (p1 := (59 : Int32)) (by omega) (by omega) (by omega)).mono (fun σ27_3 ho_61 => ?_))
              obtain ⟨hIσ27_3, hcσ27_3⟩ := ho_61
              have hfσ27_3 : Fr fr_fX10_blockTold σ σ27_3 := Fr_c hfσ32 hcσ27_3 (by decide)
              have sσ27_3_0_34 : (σ27_3.1 0 34).toInt = (σ32.1 0 34).toInt := by rw [(hcσ27_3 0 34 (by decide) (by decide)).1]
              have sσ27_3_15_0 : (σ27_3.1 15 0).toInt = (σ32.1 15 0).toInt := by rw [(hcσ27_3 15 0 (by decide) (by decide)).1]
              have sσ27_3_15_1 : (σ27_3.1 15 1).toInt = (σ32.1 15 1).toInt := by rw [(hcσ27_3 15 1 (by decide) (by decide)).1]
              have sσ27_3_15_2 : (σ27_3.1 15 2).toInt = (σ32.1 15 2).toInt := by rw [(hcσ27_3 15 2 (by decide) (by decide)).1]
              have sσ27_3_15_3 : (σ27_3.1 15 3).toInt = (σ32.1 15 3).toInt := by rw [(hcσ27_3 15 3 (by decide) (by decide)).1]
              refine ok_nm2 (fun σ28_3 eσ28_3 => ?_)
              have f62 : 0 ≤ (σ27_3.1 0 34).toInt ∧ (σ27_3.1 0 34).toInt ≤ 120 := hIσ27_3 0 34
              have f63 : (1 : Int32).toInt = 1 := by decide
              have f64 : ((σ27_3.1 0 34) + (1 : Int32)).toInt = (σ27_3.1 0 34).toInt + (1 : Int32).toInt := iadd_toInt (by omega) (by omega)
              have hIσ28_3 : JM σ28_3 := by rw [eσ28_3]; exact JM_w hIσ27_3 (show 0 ≤ _ by omega) (show _ ≤ 120 by omega)
              have hfσ28_3 : Fr fr_fX10_blockTold σ σ28_3 := by rw [eσ28_3]; exact Fr_w hfσ27_3 (by decide)
              have sσ28_3_0_2 : (σ28_3.1 0 2).toInt = (σ27_3.1 0 2).toInt := by rw [eσ28_3]; rfl
              have sσ28_3_0_5 : (σ28_3.1 0 5).toInt = (σ27_3.1 0 5).toInt := by rw [eσ28_3]; rfl
              have sσ28_3_0_34 : (σ28_3.1 0 34).toInt = ((σ27_3.1 0 34) + 1).toInt := by rw [eσ28_3]; rfl
              have sσ28_3_15_0 : (σ28_3.1 15 0).toInt = (σ27_3.1 15 0).toInt := by rw [eσ28_3]; rfl
              have sσ28_3_15_1 : (σ28_3.1 15 1).toInt = (σ27_3.1 15 1).toInt := by rw [eσ28_3]; rfl
              have sσ28_3_15_2 : (σ28_3.1 15 2).toInt = (σ27_3.1 15 2).toInt := by rw [eσ28_3]; rfl
              have sσ28_3_15_3 : (σ28_3.1 15 3).toInt = (σ27_3.1 15 3).toInt := by rw [eσ28_3]; rfl
              refine ok_some.mpr ?_
              exact ⟨hIσ28_3, hfσ28_3, (show (σ.1 0 34).toInt ≤ (σ28_3.1 0 34).toInt by omega), (show (σ28_3.1 0 34).toInt = (σ.1 0 34).toInt + 1 ∨ (σ28_3.1 0 5).toInt ≠ 0 by omega)⟩
          · have g65 : r16.toInt ≠ (0 : Int32).toInt := fun z => h_31 (Int32.toInt_inj.mp z)
            refine ok_bd.mpr ((o_fX10_rowTold hIσ17 (p1 := x1) ).mono (fun σ34 ho_67 => ?_))
            obtain ⟨hIσ34, hcσ34⟩ := ho_67
            have hfσ34 : Fr fr_fX10_blockTold σ σ34 := Fr_c hfσ17 hcσ34 (by decide)
            have sσ34_0_34 : (σ34.1 0 34).toInt = (σ17.1 0 34).toInt := by rw [(hcσ34 0 34 (by decide) (by decide)).1]
            try unfold jX10_blockTold_147
            have f68 : (59 : Int32).toInt = 59 := by decide
            refine ok_bd.mpr ((o_fX10_asksSign hIσ34 (p1 := (59 : Int32)) (by omega) (by omega) (by omega)).mono (fun σ27_4 ho_70 => ?_))
            obtain ⟨hIσ27_4, hcσ27_4⟩ := ho_70
            have hfσ27_4 : Fr fr_fX10_blockTold σ σ27_4 := Fr_c hfσ34 hcσ27_4 (by decide)
            have sσ27_4_0_34 : (σ27_4.1 0 34).toInt = (σ34.1 0 34).toInt := by rw [(hcσ27_4 0 34 (by decide) (by decide)).1]
            have sσ27_4_15_0 : (σ27_4.1 15 0).toInt = (σ34.1 15 0).toInt := by rw [(hcσ27_4 15 0 (by decide) (by decide)).1]
            have sσ27_4_15_1 : (σ27_4.1 15 1).toInt = (σ34.1 15 1).toInt := by rw [(hcσ27_4 15 1 (by decide) (by decide)).1]
            have sσ27_4_15_2 : (σ27_4.1 15 2).toInt = (σ34.1 15 2).toInt := by rw [(hcσ27_4 15 2 (by decide) (by decide)).1]
            have sσ27_4_15_3 : (σ27_4.1 15 3).toInt = (σ34.1 15 3).toInt := by rw [(hcσ27_4 15 3 (by decide) (by decide)).1]
            refine ok_nm2 (fun σ28_4 eσ28_4 => ?_)
            have f71 : 0 ≤ (σ27_4.1 0 34).toInt ∧ (σ27_4.1 0 34).toInt ≤ 120 := hIσ27_4 0 34
            have f72 : (1 : Int32).toInt = 1 := by decide
            have f73 : ((σ27_4.1 0 34) + (1 : Int32)).toInt = (σ27_4.1 0 34).toInt + (1 : Int32).toInt := iadd_toInt (by omega) (by omega)
            have hIσ28_4 : JM σ28_4 := by rw [eσ28_4]; exact JM_w hIσ27_4 (show 0 ≤ _ by omega) (show _ ≤ 120 by omega)
            have hfσ28_4 : Fr fr_fX10_blockTold σ σ28_4 := by rw [eσ28_4]; exact Fr_w hfσ27_4 (by decide)
            have sσ28_4_0_2 : (σ28_4.1 0 2).toInt = (σ27_4.1 0 2).toInt := by rw [eσ28_4]; rfl
            have sσ28_4_0_5 : (σ28_4.1 0 5).toInt = (σ27_4.1 0 5).toInt := by rw [eσ28_4]; rfl
            have sσ28_4_0_34 : (σ28_4.1 0 34).toInt = ((σ27_4.1 0 34) + 1).toInt := by rw [eσ28_4]; rfl
            have sσ28_4_15_0 : (σ28_4.1 15 0).toInt = (σ27_4.1 15 0).toInt := by rw [eσ28_4]; rfl
            have sσ28_4_15_1 : (σ28_4.1 15 1).toInt = (σ27_4.1 15 1).toInt := by rw [eσ28_4]; rfl
            have sσ28_4_15_2 : (σ28_4.1 15 2).toInt = (σ27_4.1 15 2).toInt := by rw [eσ28_4]; rfl
            have sσ28_4_15_3 : (σ28_4.1 15 3).toInt = (σ27_4.1 15 3).toInt := by rw [eσ28_4]; rfl
            refine ok_some.mpr ?_
            exact ⟨hIσ28_4, hfσ28_4, (show (σ.1 0 34).toInt ≤ (σ28_4.1 0 34).toInt by omega), (show (σ28_4.1 0 34).toInt = (σ.1 0 34).toInt + 1 ∨ (σ28_4.1 0 5).toInt ≠ 0 by omega)⟩
        · have g74 : r12.toInt ≠ (0 : Int32).toInt := fun z => h_27 (Int32.toInt_inj.mp z)
          refine ok_bd.mpr ((o_fX10_pointTold hIσ13 (p1 := x1) ).mono (fun σ36 ho_76 => ?_))
          obtain ⟨hIσ36, hcσ36⟩ := ho_76
          have hfσ36 : Fr fr_fX10_blockTold σ σ36 := Fr_c hfσ13 hcσ36 (by decide)
          have sσ36_0_34 : (σ36.1 0 34).toInt = (σ13.1 0 34).toInt := by rw [(hcσ36 0 34 (by decide) (by decide)).1]
          try unfold jX10_blockTold_147
          have f77 : (59 : Int32).toInt = 59 := by decide
          refine ok_bd.mpr ((o_fX10_asksSign hIσ36 (p1 := (59 : Int32)) (by omega) (by omega) (by omega)).mono (fun σ27_5 ho_79 => ?_))
          obtain ⟨hIσ27_5, hcσ27_5⟩ := ho_79
          have hfσ27_5 : Fr fr_fX10_blockTold σ σ27_5 := Fr_c hfσ36 hcσ27_5 (by decide)
          have sσ27_5_0_34 : (σ27_5.1 0 34).toInt = (σ36.1 0 34).toInt := by rw [(hcσ27_5 0 34 (by decide) (by decide)).1]
          have sσ27_5_15_0 : (σ27_5.1 15 0).toInt = (σ36.1 15 0).toInt := by rw [(hcσ27_5 15 0 (by decide) (by decide)).1]
          have sσ27_5_15_1 : (σ27_5.1 15 1).toInt = (σ36.1 15 1).toInt := by rw [(hcσ27_5 15 1 (by decide) (by decide)).1]
          have sσ27_5_15_2 : (σ27_5.1 15 2).toInt = (σ36.1 15 2).toInt := by rw [(hcσ27_5 15 2 (by decide) (by decide)).1]
          have sσ27_5_15_3 : (σ27_5.1 15 3).toInt = (σ36.1 15 3).toInt := by rw [(hcσ27_5 15 3 (by decide) (by decide)).1]
          refine ok_nm2 (fun σ28_5 eσ28_5 => ?_)
          have f80 : 0 ≤ (σ27_5.1 0 34).toInt ∧ (σ27_5.1 0 34).toInt ≤ 120 := hIσ27_5 0 34
          have f81 : (1 : Int32).toInt = 1 := by decide
          have f82 : ((σ27_5.1 0 34) + (1 : Int32)).toInt = (σ27_5.1 0 34).toInt + (1 : Int32).toInt := iadd_toInt (by omega) (by omega)
          have hIσ28_5 : JM σ28_5 := by rw [eσ28_5]; exact JM_w hIσ27_5 (show 0 ≤ _ by omega) (show _ ≤ 120 by omega)
          have hfσ28_5 : Fr fr_fX10_blockTold σ σ28_5 := by rw [eσ28_5]; exact Fr_w hfσ27_5 (by decide)
          have sσ28_5_0_2 : (σ28_5.1 0 2).toInt = (σ27_5.1 0 2).toInt := by rw [eσ28_5]; rfl
          have sσ28_5_0_5 : (σ28_5.1 0 5).toInt = (σ27_5.1 0 5).toInt := by rw [eσ28_5]; rfl
          have sσ28_5_0_34 : (σ28_5.1 0 34).toInt = ((σ27_5.1 0 34) + 1).toInt := by rw [eσ28_5]; rfl
          have sσ28_5_15_0 : (σ28_5.1 15 0).toInt = (σ27_5.1 15 0).toInt := by rw [eσ28_5]; rfl
          have sσ28_5_15_1 : (σ28_5.1 15 1).toInt = (σ27_5.1 15 1).toInt := by rw [eσ28_5]; rfl
          have sσ28_5_15_2 : (σ28_5.1 15 2).toInt = (σ27_5.1 15 2).toInt := by rw [eσ28_5]; rfl
          have sσ28_5_15_3 : (σ28_5.1 15 3).toInt = (σ27_5.1 15 3).toInt := by rw [eσ28_5]; rfl
          refine ok_some.mpr ?_
          exact ⟨hIσ28_5, hfσ28_5, (show (σ.1 0 34).toInt ≤ (σ28_5.1 0 34).toInt by omega), (show (σ28_5.1 0 34).toInt = (σ.1 0 34).toInt + 1 ∨ (σ28_5.1 0 5).toInt ≠ 0 by omega)⟩
      · have g83 : r8.toInt ≠ (0 : Int32).toInt := fun z => h_23 (Int32.toInt_inj.mp z)
        refine ok_bd.mpr ((o_fX10_pictureTold hIσ9 (p1 := x1) ).mono (fun σ38 ho_85 => ?_))
        obtain ⟨hIσ38, hcσ38⟩ := ho_85
        have hfσ38 : Fr fr_fX10_blockTold σ σ38 := Fr_c hfσ9 hcσ38 (by decide)
        have sσ38_0_34 : (σ38.1 0 34).toInt = (σ9.1 0 34).toInt := by rw [(hcσ38 0 34 (by decide) (by decide)).1]
        try unfold jX10_blockTold_147
        have f86 : (59 : Int32).toInt = 59 := by decide
        refine ok_bd.mpr ((o_fX10_asksSign hIσ38 (p1 := (59 : Int32)) (by omega) (by omega) (by omega)).mono (fun σ27_6 ho_88 => ?_))
        obtain ⟨hIσ27_6, hcσ27_6⟩ := ho_88
        have hfσ27_6 : Fr fr_fX10_blockTold σ σ27_6 := Fr_c hfσ38 hcσ27_6 (by decide)
        have sσ27_6_0_34 : (σ27_6.1 0 34).toInt = (σ38.1 0 34).toInt := by rw [(hcσ27_6 0 34 (by decide) (by decide)).1]
        have sσ27_6_15_0 : (σ27_6.1 15 0).toInt = (σ38.1 15 0).toInt := by rw [(hcσ27_6 15 0 (by decide) (by decide)).1]
        have sσ27_6_15_1 : (σ27_6.1 15 1).toInt = (σ38.1 15 1).toInt := by rw [(hcσ27_6 15 1 (by decide) (by decide)).1]
        have sσ27_6_15_2 : (σ27_6.1 15 2).toInt = (σ38.1 15 2).toInt := by rw [(hcσ27_6 15 2 (by decide) (by decide)).1]
        have sσ27_6_15_3 : (σ27_6.1 15 3).toInt = (σ38.1 15 3).toInt := by rw [(hcσ27_6 15 3 (by decide) (by decide)).1]
        refine ok_nm2 (fun σ28_6 eσ28_6 => ?_)
        have f89 : 0 ≤ (σ27_6.1 0 34).toInt ∧ (σ27_6.1 0 34).toInt ≤ 120 := hIσ27_6 0 34
        have f90 : (1 : Int32).toInt = 1 := by decide
        have f91 : ((σ27_6.1 0 34) + (1 : Int32)).toInt = (σ27_6.1 0 34).toInt + (1 : Int32).toInt := iadd_toInt (by omega) (by omega)
        have hIσ28_6 : JM σ28_6 := by rw [eσ28_6]; exact JM_w hIσ27_6 (show 0 ≤ _ by omega) (show _ ≤ 120 by omega)
        have hfσ28_6 : Fr fr_fX10_blockTold σ σ28_6 := by rw [eσ28_6]; exact Fr_w hfσ27_6 (by decide)
        have sσ28_6_0_2 : (σ28_6.1 0 2).toInt = (σ27_6.1 0 2).toInt := by rw [eσ28_6]; rfl
        have sσ28_6_0_5 : (σ28_6.1 0 5).toInt = (σ27_6.1 0 5).toInt := by rw [eσ28_6]; rfl
        have sσ28_6_0_34 : (σ28_6.1 0 34).toInt = ((σ27_6.1 0 34) + 1).toInt := by rw [eσ28_6]; rfl
        have sσ28_6_15_0 : (σ28_6.1 15 0).toInt = (σ27_6.1 15 0).toInt := by rw [eσ28_6]; rfl
        have sσ28_6_15_1 : (σ28_6.1 15 1).toInt = (σ27_6.1 15 1).toInt := by rw [eσ28_6]; rfl
        have sσ28_6_15_2 : (σ28_6.1 15 2).toInt = (σ27_6.1 15 2).toInt := by rw [eσ28_6]; rfl
        have sσ28_6_15_3 : (σ28_6.1 15 3).toInt = (σ27_6.1 15 3).toInt := by rw [eσ28_6]; rfl
        refine ok_some.mpr ?_
        exact ⟨hIσ28_6, hfσ28_6, (show (σ.1 0 34).toInt ≤ (σ28_6.1 0 34).toInt by omega), (show (σ28_6.1 0 34).toInt = (σ.1 0 34).toInt + 1 ∨ (σ28_6.1 0 5).toInt ≠ 0 by omega)⟩
    · have f92 : (0 : Int32).toInt = 0 := by decide
      have g93 : r4.toInt ≠ (0 : Int32).toInt := fun z => h_18 (Int32.toInt_inj.mp z)
      have f94 : (6 : Int32).toInt = 6 := by decide
      refine ok_bd2.mpr ((o_fX10_isFull hIσ5 (p1 := (0 : Int32)) (p2 := (6 : Int32)) (p3 := x1) (by omega) (by omega) (by omega) (by omega)).mono (fun o_95 ho_96 => ?_))
      obtain ⟨r40, σ41⟩ := o_95
      obtain ⟨hIσ41, hcσ41, r0r40, r1r40, hp_97⟩ := ho_96
      dsimp only at hIσ41 hcσ41 r0r40 r1r40 hp_97 ⊢
      have hfσ41 : Fr fr_fX10_blockTold σ σ41 := Fr_c hfσ5 hcσ41 (by decide)
      have sσ41_0_2 : (σ41.1 0 2).toInt = (σ5.1 0 2).toInt := by rw [(hcσ41 0 2 (by decide) (by decide)).1]
      have sσ41_0_34 : (σ41.1 0 34).toInt = (σ5.1 0 34).toInt := by rw [(hcσ41 0 34 (by decide) (by decide)).1]
      have sσ41_15_0 : (σ41.1 15 0).toInt = (σ5.1 15 0).toInt := by rw [(hcσ41 15 0 (by decide) (by decide)).1]
      have sσ41_15_1 : (σ41.1 15 1).toInt = (σ5.1 15 1).toInt := by rw [(hcσ41 15 1 (by decide) (by decide)).1]
      have sσ41_15_2 : (σ41.1 15 2).toInt = (σ5.1 15 2).toInt := by rw [(hcσ41 15 2 (by decide) (by decide)).1]
      have sσ41_15_3 : (σ41.1 15 3).toInt = (σ5.1 15 3).toInt := by rw [(hcσ41 15 3 (by decide) (by decide)).1]
      refine ok_ite.mpr ⟨fun h_98 => ?_, fun h_98 => ?_⟩
      · have g99 : r40.toInt = (0 : Int32).toInt := by rw [h_98]
        refine ok_bd2.mpr ((o_fX10_newName hIσ41 (p1 := (0 : Int32)) (by omega) (by omega) (by omega)).mono (fun o_100 ho_101 => ?_))
        obtain ⟨r44, σ45⟩ := o_100
        obtain ⟨hIσ45, hcσ45, r0r44, r1r44, hp_102, hp_103⟩ := ho_101
        dsimp only at hIσ45 hcσ45 r0r44 r1r44 hp_102 hp_103 ⊢
        have hfσ45 : Fr fr_fX10_blockTold σ σ45 := Fr_c hfσ41 hcσ45 (by decide)
        have sσ45_0_34 : (σ45.1 0 34).toInt = (σ41.1 0 34).toInt := by rw [(hcσ45 0 34 (by decide) (by decide)).1]
        try unfold jX10_blockTold_147
        have f104 : (59 : Int32).toInt = 59 := by decide
        refine ok_bd.mpr ((o_fX10_asksSign hIσ45 (p1 := (59 : Int32)) (by omega) (by omega) (by omega)).mono (fun σ27_7 ho_106 => ?_))
        obtain ⟨hIσ27_7, hcσ27_7⟩ := ho_106
        have hfσ27_7 : Fr fr_fX10_blockTold σ σ27_7 := Fr_c hfσ45 hcσ27_7 (by decide)
        have sσ27_7_0_34 : (σ27_7.1 0 34).toInt = (σ45.1 0 34).toInt := by rw [(hcσ27_7 0 34 (by decide) (by decide)).1]
        have sσ27_7_15_0 : (σ27_7.1 15 0).toInt = (σ45.1 15 0).toInt := by rw [(hcσ27_7 15 0 (by decide) (by decide)).1]
        have sσ27_7_15_1 : (σ27_7.1 15 1).toInt = (σ45.1 15 1).toInt := by rw [(hcσ27_7 15 1 (by decide) (by decide)).1]
        have sσ27_7_15_2 : (σ27_7.1 15 2).toInt = (σ45.1 15 2).toInt := by rw [(hcσ27_7 15 2 (by decide) (by decide)).1]
        have sσ27_7_15_3 : (σ27_7.1 15 3).toInt = (σ45.1 15 3).toInt := by rw [(hcσ27_7 15 3 (by decide) (by decide)).1]
        refine ok_nm2 (fun σ28_7 eσ28_7 => ?_)
        have f107 : 0 ≤ (σ27_7.1 0 34).toInt ∧ (σ27_7.1 0 34).toInt ≤ 120 := hIσ27_7 0 34
        have f108 : (1 : Int32).toInt = 1 := by decide
        have f109 : ((σ27_7.1 0 34) + (1 : Int32)).toInt = (σ27_7.1 0 34).toInt + (1 : Int32).toInt := iadd_toInt (by omega) (by omega)
        have hIσ28_7 : JM σ28_7 := by rw [eσ28_7]; exact JM_w hIσ27_7 (show 0 ≤ _ by omega) (show _ ≤ 120 by omega)
        have hfσ28_7 : Fr fr_fX10_blockTold σ σ28_7 := by rw [eσ28_7]; exact Fr_w hfσ27_7 (by decide)
        have sσ28_7_0_2 : (σ28_7.1 0 2).toInt = (σ27_7.1 0 2).toInt := by rw [eσ28_7]; rfl
        have sσ28_7_0_5 : (σ28_7.1 0 5).toInt = (σ27_7.1 0 5).toInt := by rw [eσ28_7]; rfl
        have sσ28_7_0_34 : (σ28_7.1 0 34).toInt = ((σ27_7.1 0 34) + 1).toInt := by rw [eσ28_7]; rfl
        have sσ28_7_15_0 : (σ28_7.1 15 0).toInt = (σ27_7.1 15 0).toInt := by rw [eσ28_7]; rfl
        have sσ28_7_15_1 : (σ28_7.1 15 1).toInt = (σ27_7.1 15 1).toInt := by rw [eσ28_7]; rfl
        have sσ28_7_15_2 : (σ28_7.1 15 2).toInt = (σ27_7.1 15 2).toInt := by rw [eσ28_7]; rfl
        have sσ28_7_15_3 : (σ28_7.1 15 3).toInt = (σ27_7.1 15 3).toInt := by rw [eσ28_7]; rfl
        refine ok_some.mpr ?_
        exact ⟨hIσ28_7, hfσ28_7, (show (σ.1 0 34).toInt ≤ (σ28_7.1 0 34).toInt by omega), (show (σ28_7.1 0 34).toInt = (σ.1 0 34).toInt + 1 ∨ (σ28_7.1 0 5).toInt ≠ 0 by omega)⟩
      · have g110 : r40.toInt ≠ (0 : Int32).toInt := fun z => h_98 (Int32.toInt_inj.mp z)
        try unfold jX10_blockTold_147
        have f111 : (59 : Int32).toInt = 59 := by decide
        refine ok_bd.mpr ((o_fX10_asksSign hIσ41 (p1 := (59 : Int32)) (by omega) (by omega) (by omega)).mono (fun σ27_8 ho_113 => ?_))
        obtain ⟨hIσ27_8, hcσ27_8⟩ := ho_113
        have hfσ27_8 : Fr fr_fX10_blockTold σ σ27_8 := Fr_c hfσ41 hcσ27_8 (by decide)
        have sσ27_8_0_34 : (σ27_8.1 0 34).toInt = (σ41.1 0 34).toInt := by rw [(hcσ27_8 0 34 (by decide) (by decide)).1]
        have sσ27_8_15_0 : (σ27_8.1 15 0).toInt = (σ41.1 15 0).toInt := by rw [(hcσ27_8 15 0 (by decide) (by decide)).1]
        have sσ27_8_15_1 : (σ27_8.1 15 1).toInt = (σ41.1 15 1).toInt := by rw [(hcσ27_8 15 1 (by decide) (by decide)).1]
        have sσ27_8_15_2 : (σ27_8.1 15 2).toInt = (σ41.1 15 2).toInt := by rw [(hcσ27_8 15 2 (by decide) (by decide)).1]
        have sσ27_8_15_3 : (σ27_8.1 15 3).toInt = (σ41.1 15 3).toInt := by rw [(hcσ27_8 15 3 (by decide) (by decide)).1]
        refine ok_nm2 (fun σ28_8 eσ28_8 => ?_)
        have f114 : 0 ≤ (σ27_8.1 0 34).toInt ∧ (σ27_8.1 0 34).toInt ≤ 120 := hIσ27_8 0 34
        have f115 : (1 : Int32).toInt = 1 := by decide
        have f116 : ((σ27_8.1 0 34) + (1 : Int32)).toInt = (σ27_8.1 0 34).toInt + (1 : Int32).toInt := iadd_toInt (by omega) (by omega)
        have hIσ28_8 : JM σ28_8 := by rw [eσ28_8]; exact JM_w hIσ27_8 (show 0 ≤ _ by omega) (show _ ≤ 120 by omega)
        have hfσ28_8 : Fr fr_fX10_blockTold σ σ28_8 := by rw [eσ28_8]; exact Fr_w hfσ27_8 (by decide)
        have sσ28_8_0_2 : (σ28_8.1 0 2).toInt = (σ27_8.1 0 2).toInt := by rw [eσ28_8]; rfl
        have sσ28_8_0_5 : (σ28_8.1 0 5).toInt = (σ27_8.1 0 5).toInt := by rw [eσ28_8]; rfl
        have sσ28_8_0_34 : (σ28_8.1 0 34).toInt = ((σ27_8.1 0 34) + 1).toInt := by rw [eσ28_8]; rfl
        have sσ28_8_15_0 : (σ28_8.1 15 0).toInt = (σ27_8.1 15 0).toInt := by rw [eσ28_8]; rfl
        have sσ28_8_15_1 : (σ28_8.1 15 1).toInt = (σ27_8.1 15 1).toInt := by rw [eσ28_8]; rfl
        have sσ28_8_15_2 : (σ28_8.1 15 2).toInt = (σ27_8.1 15 2).toInt := by rw [eσ28_8]; rfl
        have sσ28_8_15_3 : (σ28_8.1 15 3).toInt = (σ27_8.1 15 3).toInt := by rw [eσ28_8]; rfl
        refine ok_some.mpr ?_
        exact ⟨hIσ28_8, hfσ28_8, (show (σ.1 0 34).toInt ≤ (σ28_8.1 0 34).toInt by omega), (show (σ28_8.1 0 34).toInt = (σ.1 0 34).toInt + 1 ∨ (σ28_8.1 0 5).toInt ≠ 0 by omega)⟩
