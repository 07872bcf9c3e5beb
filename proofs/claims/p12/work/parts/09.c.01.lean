/-! comes through, m 1 -/
set_option maxRecDepth 20000 in
set_option maxHeartbeats 2000000 in
theorem o_fX10_feed {σ : gS} (hIσ : JM σ) {p1 : Int32} {p2 : Int32} {p3 : Int32} {p4 : Int32} {p5 : Int32}  : Ok (fX10_feed σ p1 p2 p3 p4 p5) (fun out => JM out.2 ∧ Fr fr_fX10_feed σ out.2 ∧ -1 ≤ out.1.toInt ∧ out.1.toInt ≤ 1600) := by
  unfold fX10_feed
  have hfσ : Fr fr_fX10_feed σ σ := Fr_r
  have f1 : 0 ≤ (σ.1 0 1).toInt ∧ (σ.1 0 1).toInt ≤ 1600 := hIσ 0 1
  refine ok_ite.mpr ⟨fun h_2 => ?_, fun h_2 => ?_⟩
  · have f3 : (20 : Int32).toInt = 20 := by decide
    have f4 : ((σ.1 0 1) + (20 : Int32)).toInt = (σ.1 0 1).toInt + (20 : Int32).toInt := iadd_toInt (by omega) (by omega)
    have f5 : (1600 : Int32).toInt = 1600 := by decide
    have g6 : ((σ.1 0 1) + 20).toInt ≤ (1600 : Int32).toInt := Int32.le_iff_toInt_le.mp h_2
    refine ok_nm2 (fun x2 ex2 => ?_)
    have f7 : (0 : Int32).toInt = 0 := by decide
    have qx2 : x2.toInt = 0 := by rw [ex2]; decide
    refine ok_lpc (I := fun n s => n = (20 + 1 - s.1.toInt).toNat ∧ JM s.2 ∧ Fr fr_fX10_feed σ s.2 ∧ 0 ≤ s.1.toInt ∧ s.1.toInt ≤ 20 ∧ (s.2.1 0 1).toInt = (σ.1 0 1).toInt + s.1.toInt) (fun rec18_1r n_1 s_1 hs_1 hrec_1 => ?_) K9 ((20 + 1 - x2.toInt).toNat) (x2, σ) ⟨rfl, hIσ, hfσ, (show 0 ≤ x2.toInt by omega), (show x2.toInt ≤ 20 by omega), (show (σ.1 0 1).toInt = (σ.1 0 1).toInt + x2.toInt by omega)⟩ (by unfold K9; omega)
    obtain ⟨a6_1, σ1_1⟩ := s_1
    obtain ⟨hn_1, hIσ1_1, hfσ1_1, b0a6_1, b1a6_1, iv0_1⟩ := hs_1
    dsimp only at hn_1 hIσ1_1 hfσ1_1 b0a6_1 b1a6_1 iv0_1
    unfold bX10_feed_18
    try dsimp only
    refine ok_ite.mpr ⟨fun h_8 => ?_, fun h_8 => ?_⟩
    · have g9 : (20 : Int32).toInt ≤ a6_1.toInt := Int32.le_iff_toInt_le.mp h_8
      refine ok_some.mpr ?_
      have f10 : 0 ≤ (σ1_1.1 0 1).toInt ∧ (σ1_1.1 0 1).toInt ≤ 1600 := hIσ1_1 0 1
      exact ⟨hIσ1_1, hfσ1_1, (show -1 ≤ (σ1_1.1 0 1).toInt by omega), (show (σ1_1.1 0 1).toInt ≤ 1600 by omega)⟩
    · have g11 : ¬ (20 : Int32).toInt ≤ a6_1.toInt := fun z => h_8 (Int32.le_iff_toInt_le.mpr z)
      refine ok_ite.mpr ⟨fun h_12 => ?_, fun h_12 => ?_⟩
      · have f13 : (4 : Int32).toInt = 4 := by decide
        have g14 : (4 : Int32).toInt ≤ a6_1.toInt := Int32.le_iff_toInt_le.mp h_12
        refine ok_ite.mpr ⟨fun h_15 => ?_, fun h_15 => ?_⟩
        · have f16 : (8 : Int32).toInt = 8 := by decide
          have g17 : (8 : Int32).toInt ≤ a6_1.toInt := Int32.le_iff_toInt_le.mp h_15
          refine ok_ite.mpr ⟨fun h_18 => ?_, fun h_18 => ?_⟩
          · have f19 : (12 : Int32).toInt = 12 := by decide
            have g20 : (12 : Int32).toInt ≤ a6_1.toInt := Int32.le_iff_toInt_le.mp h_18
            refine ok_ite.mpr ⟨fun h_21 => ?_, fun h_21 => ?_⟩
            · have f22 : (16 : Int32).toInt = 16 := by decide
              have g23 : (16 : Int32).toInt ≤ a6_1.toInt := Int32.le_iff_toInt_le.mp h_21
              try unfold jX10_feed_71
              refine ok_nm.mpr ?_
              have f24 : 0 ≤ (σ1_1.1 0 1).toInt ∧ (σ1_1.1 0 1).toInt ≤ 1600 := hIσ1_1 0 1
              refine ok_gd.mpr ⟨gb_of (by omega) (by omega), ?_⟩
              refine ok_nm2 (fun σ9_8_9 eσ9_8_9 => ?_)
              have f25 : 0 ≤ ((p5 >>> ((8 * (3 - (irm a6_1 4))) &&& 31)) &&& 255).toInt ∧ ((p5 >>> ((8 * (3 - (irm a6_1 4))) &&& 31)) &&& 255).toInt ≤ 255 := iand_toInt (by decide) (by decide)
              have hIσ9_8_9 : JM σ9_8_9 := by rw [eσ9_8_9]; exact JM_w hIσ1_1 (show 0 ≤ _ by omega) (show _ ≤ 255 by omega)
              have hfσ9_8_9 : Fr fr_fX10_feed σ σ9_8_9 := by rw [eσ9_8_9]; exact Fr_w0 hfσ1_1 (by decide)
              have sσ9_8_9_0_1 : (σ9_8_9.1 0 1).toInt = (σ1_1.1 0 1).toInt := by rw [eσ9_8_9]; rfl
              refine ok_nm2 (fun σ10_8_9 eσ10_8_9 => ?_)
              have f26 : 0 ≤ (σ9_8_9.1 0 1).toInt ∧ (σ9_8_9.1 0 1).toInt ≤ 1600 := hIσ9_8_9 0 1
              have f27 : (1 : Int32).toInt = 1 := by decide
              have f28 : ((σ9_8_9.1 0 1) + (1 : Int32)).toInt = (σ9_8_9.1 0 1).toInt + (1 : Int32).toInt := iadd_toInt (by omega) (by omega)
              have hIσ10_8_9 : JM σ10_8_9 := by rw [eσ10_8_9]; exact JM_w hIσ9_8_9 (show 0 ≤ _ by omega) (show _ ≤ 1600 by omega)
              have hfσ10_8_9 : Fr fr_fX10_feed σ σ10_8_9 := by rw [eσ10_8_9]; exact Fr_w hfσ9_8_9 (by decide)
              have sσ10_8_9_0_1 : (σ10_8_9.1 0 1).toInt = ((σ9_8_9.1 0 1) + 1).toInt := by rw [eσ10_8_9]; rfl
              refine ok_nm2 (fun x11_8_9 ex11_8_9 => ?_)
              have f29 : (a6_1 + (1 : Int32)).toInt = a6_1.toInt + (1 : Int32).toInt := iadd_toInt (by omega) (by omega)
              have qx11_8_9 : x11_8_9.toInt = (a6_1 + 1).toInt := congrArg Int32.toInt ex11_8_9
              have f30 : 0 ≤ (σ10_8_9.1 0 1).toInt ∧ (σ10_8_9.1 0 1).toInt ≤ 1600 := hIσ10_8_9 0 1
              exact hrec_1 _ (x11_8_9, σ10_8_9) (show (20 + 1 - x11_8_9.toInt).toNat < n_1 by omega) ⟨rfl, hIσ10_8_9, hfσ10_8_9, (show 0 ≤ x11_8_9.toInt by omega), (show x11_8_9.toInt ≤ 20 by omega), (show (σ10_8_9.1 0 1).toInt = (σ.1 0 1).toInt + x11_8_9.toInt by omega)⟩
            · have f31 : (16 : Int32).toInt = 16 := by decide
              have g32 : ¬ (16 : Int32).toInt ≤ a6_1.toInt := fun z => h_21 (Int32.le_iff_toInt_le.mpr z)
              try unfold jX10_feed_71
              refine ok_nm.mpr ?_
              have f33 : 0 ≤ (σ1_1.1 0 1).toInt ∧ (σ1_1.1 0 1).toInt ≤ 1600 := hIσ1_1 0 1
              refine ok_gd.mpr ⟨gb_of (by omega) (by omega), ?_⟩
              refine ok_nm2 (fun σ9_10_11 eσ9_10_11 => ?_)
              have f34 : 0 ≤ ((p4 >>> ((8 * (3 - (irm a6_1 4))) &&& 31)) &&& 255).toInt ∧ ((p4 >>> ((8 * (3 - (irm a6_1 4))) &&& 31)) &&& 255).toInt ≤ 255 := iand_toInt (by decide) (by decide)
              have hIσ9_10_11 : JM σ9_10_11 := by rw [eσ9_10_11]; exact JM_w hIσ1_1 (show 0 ≤ _ by omega) (show _ ≤ 255 by omega)
              have hfσ9_10_11 : Fr fr_fX10_feed σ σ9_10_11 := by rw [eσ9_10_11]; exact Fr_w0 hfσ1_1 (by decide)
              have sσ9_10_11_0_1 : (σ9_10_11.1 0 1).toInt = (σ1_1.1 0 1).toInt := by rw [eσ9_10_11]; rfl
              refine ok_nm2 (fun σ10_10_11 eσ10_10_11 => ?_)
              have f35 : 0 ≤ (σ9_10_11.1 0 1).toInt ∧ (σ9_10_11.1 0 1).toInt ≤ 1600 := hIσ9_10_11 0 1
              have f36 : (1 : Int32).toInt = 1 := by decide
              have f37 : ((σ9_10_11.1 0 1) + (1 : Int32)).toInt = (σ9_10_11.1 0 1).toInt + (1 : Int32).toInt := iadd_toInt (by omega) (by omega)
              have hIσ10_10_11 : JM σ10_10_11 := by rw [eσ10_10_11]; exact JM_w hIσ9_10_11 (show 0 ≤ _ by omega) (show _ ≤ 1600 by omega)
              have hfσ10_10_11 : Fr fr_fX10_feed σ σ10_10_11 := by rw [eσ10_10_11]; exact Fr_w hfσ9_10_11 (by decide)
              have sσ10_10_11_0_1 : (σ10_10_11.1 0 1).toInt = ((σ9_10_11.1 0 1) + 1).toInt := by rw [eσ10_10_11]; rfl
              refine ok_nm2 (fun x11_10_11 ex11_10_11 => ?_)
              have f38 : (a6_1 + (1 : Int32)).toInt = a6_1.toInt + (1 : Int32).toInt := iadd_toInt (by omega) (by omega)
              have qx11_10_11 : x11_10_11.toInt = (a6_1 + 1).toInt := congrArg Int32.toInt ex11_10_11
              have f39 : 0 ≤ (σ10_10_11.1 0 1).toInt ∧ (σ10_10_11.1 0 1).toInt ≤ 1600 := hIσ10_10_11 0 1
              exact hrec_1 _ (x11_10_11, σ10_10_11) (show (20 + 1 - x11_10_11.toInt).toNat < n_1 by omega) ⟨rfl, hIσ10_10_11, hfσ10_10_11, (show 0 ≤ x11_10_11.toInt by omega), (show x11_10_11.toInt ≤ 20 by omega), (show (σ10_10_11.1 0 1).toInt = (σ.1 0 1).toInt + x11_10_11.toInt by omega)⟩
          · have f40 : (12 : Int32).toInt = 12 := by decide
            have g41 : ¬ (12 : Int32).toInt ≤ a6_1.toInt := fun z => h_18 (Int32.le_iff_toInt_le.mpr z)
            try unfold jX10_feed_71
            refine ok_nm.mpr ?_
            have f42 : 0 ≤ (σ1_1.1 0 1).toInt ∧ (σ1_1.1 0 1).toInt ≤ 1600 := hIσ1_1 0 1
            refine ok_gd.mpr ⟨gb_of (by omega) (by omega), ?_⟩
            refine ok_nm2 (fun σ9_12_13 eσ9_12_13 => ?_)
            have f43 : 0 ≤ ((p3 >>> ((8 * (3 - (irm a6_1 4))) &&& 31)) &&& 255).toInt ∧ ((p3 >>> ((8 * (3 - (irm a6_1 4))) &&& 31)) &&& 255).toInt ≤ 255 := iand_toInt (by decide) (by decide)
            have hIσ9_12_13 : JM σ9_12_13 := by rw [eσ9_12_13]; exact JM_w hIσ1_1 (show 0 ≤ _ by omega) (show _ ≤ 255 by omega)
            have hfσ9_12_13 : Fr fr_fX10_feed σ σ9_12_13 := by rw [eσ9_12_13]; exact Fr_w0 hfσ1_1 (by decide)
            have sσ9_12_13_0_1 : (σ9_12_13.1 0 1).toInt = (σ1_1.1 0 1).toInt := by rw [eσ9_12_13]; rfl
            refine ok_nm2 (fun σ10_12_13 eσ10_12_13 => ?_)
            have f44 : 0 ≤ (σ9_12_13.1 0 1).toInt ∧ (σ9_12_13.1 0 1).toInt ≤ 1600 := hIσ9_12_13 0 1
            have f45 : (1 : Int32).toInt = 1 := by decide
            have f46 : ((σ9_12_13.1 0 1) + (1 : Int32)).toInt = (σ9_12_13.1 0 1).toInt + (1 : Int32).toInt := iadd_toInt (by omega) (by omega)
            have hIσ10_12_13 : JM σ10_12_13 := by rw [eσ10_12_13]; exact JM_w hIσ9_12_13 (show 0 ≤ _ by omega) (show _ ≤ 1600 by omega)
            have hfσ10_12_13 : Fr fr_fX10_feed σ σ10_12_13 := by rw [eσ10_12_13]; exact Fr_w hfσ9_12_13 (by decide)
            have sσ10_12_13_0_1 : (σ10_12_13.1 0 1).toInt = ((σ9_12_13.1 0 1) + 1).toInt := by rw [eσ10_12_13]; rfl
            refine ok_nm2 (fun x11_12_13 ex11_12_13 => ?_)
            have f47 : (a6_1 + (1 : Int32)).toInt = a6_1.toInt + (1 : Int32).toInt := iadd_toInt (by omega) (by omega)
            have qx11_12_13 : x11_12_13.toInt = (a6_1 + 1).toInt := congrArg Int32.toInt ex11_12_13
            have f48 : 0 ≤ (σ10_12_13.1 0 1).toInt ∧ (σ10_12_13.1 0 1).toInt ≤ 1600 := hIσ10_12_13 0 1
            exact hrec_1 _ (x11_12_13, σ10_12_13) (show (20 + 1 - x11_12_13.toInt).toNat < n_1 by omega) ⟨rfl, hIσ10_12_13, hfσ10_12_13, (show 0 ≤ x11_12_13.toInt by omega), (show x11_12_13.toInt ≤ 20 by omega), (show (σ10_12_13.1 0 1).toInt = (σ.1 0 1).toInt + x11_12_13.toInt by omega)⟩
        · have f49 : (8 : Int32).toInt = 8 := by decide
          have g50 : ¬ (8 : Int32).toInt ≤ a6_1.toInt := fun z => h_15 (Int32.le_iff_toInt_le.mpr z)
          try unfold jX10_feed_71
          refine ok_nm.mpr ?_
          have f51 : 0 ≤ (σ1_1.1 0 1).toInt ∧ (σ1_1.1 0 1).toInt ≤ 1600 := hIσ1_1 0 1
          refine ok_gd.mpr ⟨gb_of (by omega) (by omega), ?_⟩
          refine ok_nm2 (fun σ9_14_15 eσ9_14_15 => ?_)
          have f52 : 0 ≤ ((p2 >>> ((8 * (3 - (irm a6_1 4))) &&& 31)) &&& 255).toInt ∧ ((p2 >>> ((8 * (3 - (irm a6_1 4))) &&& 31)) &&& 255).toInt ≤ 255 := iand_toInt (by decide) (by decide)
          have hIσ9_14_15 : JM σ9_14_15 := by rw [eσ9_14_15]; exact JM_w hIσ1_1 (show 0 ≤ _ by omega) (show _ ≤ 255 by omega)
          have hfσ9_14_15 : Fr fr_fX10_feed σ σ9_14_15 := by rw [eσ9_14_15]; exact Fr_w0 hfσ1_1 (by decide)
          have sσ9_14_15_0_1 : (σ9_14_15.1 0 1).toInt = (σ1_1.1 0 1).toInt := by rw [eσ9_14_15]; rfl
          refine ok_nm2 (fun σ10_14_15 eσ10_14_15 => ?_)
          have f53 : 0 ≤ (σ9_14_15.1 0 1).toInt ∧ (σ9_14_15.1 0 1).toInt ≤ 1600 := hIσ9_14_15 0 1
          have f54 : (1 : Int32).toInt = 1 := by decide
          have f55 : ((σ9_14_15.1 0 1) + (1 : Int32)).toInt = (σ9_14_15.1 0 1).toInt + (1 : Int32).toInt := iadd_toInt (by omega) (by omega)
          have hIσ10_14_15 : JM σ10_14_15 := by rw [eσ10_14_15]; exact JM_w hIσ9_14_15 (show 0 ≤ _ by omega) (show _ ≤ 1600 by omega)
          have hfσ10_14_15 : Fr fr_fX10_feed σ σ10_14_15 := by rw [eσ10_14_15]; exact Fr_w hfσ9_14_15 (by decide)
          have sσ10_14_15_0_1 : (σ10_14_15.1 0 1).toInt = ((σ9_14_15.1 0 1) + 1).toInt := by rw [eσ10_14_15]; rfl
          refine ok_nm2 (fun x11_14_15 ex11_14_15 => ?_)
          have f56 : (a6_1 + (1 : Int32)).toInt = a6_1.toInt + (1 : Int32).toInt := iadd_toInt (by omega) (by omega)
          have qx11_14_15 : x11_14_15.toInt = (a6_1 + 1).toInt := congrArg Int32.toInt ex11_14_15
          have f57 : 0 ≤ (σ10_14_15.1 0 1).toInt ∧ (σ10_14_15.1 0 1).toInt ≤ 1600 := hIσ10_14_15 0 1
          exact hrec_1 _ (x11_14_15, σ10_14_15) (show (20 + 1 - x11_14_15.toInt).toNat < n_1 by omega) ⟨rfl, hIσ10_14_15, hfσ10_14_15, (show 0 ≤ x11_14_15.toInt by omega), (show x11_14_15.toInt ≤ 20 by omega), (show (σ10_14_15.1 0 1).toInt = (σ.1 0 1).toInt + x11_14_15.toInt by omega)⟩
      · have f58 : (4 : Int32).toInt = 4 := by decide
        have g59 : ¬ (4 : Int32).toInt ≤ a6_1.toInt := fun z => h_12 (Int32.le_iff_toInt_le.mpr z)
        try unfold jX10_feed_71
        refine ok_nm.mpr ?_
        have f60 : 0 ≤ (σ1_1.1 0 1).toInt ∧ (σ1_1.1 0 1).toInt ≤ 1600 := hIσ1_1 0 1
        refine ok_gd.mpr ⟨gb_of (by omega) (by omega), ?_⟩
        refine ok_nm2 (fun σ9_16_17 eσ9_16_17 => ?_)
        have f61 : 0 ≤ ((p1 >>> ((8 * (3 - (irm a6_1 4))) &&& 31)) &&& 255).toInt ∧ ((p1 >>> ((8 * (3 - (irm a6_1 4))) &&& 31)) &&& 255).toInt ≤ 255 := iand_toInt (by decide) (by decide)
        have hIσ9_16_17 : JM σ9_16_17 := by rw [eσ9_16_17]; exact JM_w hIσ1_1 (show 0 ≤ _ by omega) (show _ ≤ 255 by omega)
        have hfσ9_16_17 : Fr fr_fX10_feed σ σ9_16_17 := by rw [eσ9_16_17]; exact Fr_w0 hfσ1_1 (by decide)
        have sσ9_16_17_0_1 : (σ9_16_17.1 0 1).toInt = (σ1_1.1 0 1).toInt := by rw [eσ9_16_17]; rfl
        refine ok_nm2 (fun σ10_16_17 eσ10_16_17 => ?_)
        have f62 : 0 ≤ (σ9_16_17.1 0 1).toInt ∧ (σ9_16_17.1 0 1).toInt ≤ 1600 := hIσ9_16_17 0 1
        have f63 : (1 : Int32).toInt = 1 := by decide
        have f64 : ((σ9_16_17.1 0 1) + (1 : Int32)).toInt = (σ9_16_17.1 0 1).toInt + (1 : Int32).toInt := iadd_toInt (by omega) (by omega)
        have hIσ10_16_17 : JM σ10_16_17 := by rw [eσ10_16_17]; exact JM_w hIσ9_16_17 (show 0 ≤ _ by omega) (show _ ≤ 1600 by omega)
        have hfσ10_16_17 : Fr fr_fX10_feed σ σ10_16_17 := by rw [eσ10_16_17]; exact Fr_w hfσ9_16_17 (by decide)
        have sσ10_16_17_0_1 : (σ10_16_17.1 0 1).toInt = ((σ9_16_17.1 0 1) + 1).toInt := by rw [eσ10_16_17]; rfl
        refine ok_nm2 (fun x11_16_17 ex11_16_17 => ?_)
        have f65 : (a6_1 + (1 : Int32)).toInt = a6_1.toInt + (1 : Int32).toInt := iadd_toInt (by omega) (by omega)
        have qx11_16_17 : x11_16_17.toInt = (a6_1 + 1).toInt := congrArg Int32.toInt ex11_16_17
        have f66 : 0 ≤ (σ10_16_17.1 0 1).toInt ∧ (σ10_16_17.1 0 1).toInt ≤ 1600 := hIσ10_16_17 0 1
        exact hrec_1 _ (x11_16_17, σ10_16_17) (show (20 + 1 - x11_16_17.toInt).toNat < n_1 by omega) ⟨rfl, hIσ10_16_17, hfσ10_16_17, (show 0 ≤ x11_16_17.toInt by omega), (show x11_16_17.toInt ≤ 20 by omega), (show (σ10_16_17.1 0 1).toInt = (σ.1 0 1).toInt + x11_16_17.toInt by omega)⟩
  · have f67 : (20 : Int32).toInt = 20 := by decide
    have f68 : ((σ.1 0 1) + (20 : Int32)).toInt = (σ.1 0 1).toInt + (20 : Int32).toInt := iadd_toInt (by omega) (by omega)
    have f69 : (1600 : Int32).toInt = 1600 := by decide
    have g70 : ¬ ((σ.1 0 1) + 20).toInt ≤ (1600 : Int32).toInt := fun z => h_2 (Int32.le_iff_toInt_le.mpr z)
    refine ok_some.mpr ?_
    have f71 : (-1 : Int32).toInt = -1 := by decide
    exact ⟨hIσ, hfσ, (show -1 ≤ (-1 : Int32).toInt by omega), (show (-1 : Int32).toInt ≤ 1600 by omega)⟩
set_option maxRecDepth 20000 in
set_option maxHeartbeats 2000000 in
theorem o_fX10_end {σ : gS} (hIσ : JM σ) {p1 : Int32}  : Ok (fX10_end σ p1) (fun out => JM out.2 ∧ Fr fr_fX10_end σ out.2 ∧ 0 ≤ out.1.toInt ∧ out.1.toInt ≤ 1) := by
  unfold fX10_end
  have hfσ : Fr fr_fX10_end σ σ := Fr_r
  have f1 : 0 ≤ (σ.1 0 1).toInt ∧ (σ.1 0 1).toInt ≤ 1600 := hIσ 0 1
  refine ok_ite.mpr ⟨fun h_2 => ?_, fun h_2 => ?_⟩
  · have f3 : (0 : Int32).toInt = 0 := by decide
    have g4 : p1.toInt < (0 : Int32).toInt := Int32.lt_iff_toInt_lt.mp h_2
    refine ok_some.mpr ?_
    exact ⟨hIσ, hfσ, (show 0 ≤ (0 : Int32).toInt by omega), (show (0 : Int32).toInt ≤ 1 by omega)⟩
  · have f5 : (0 : Int32).toInt = 0 := by decide
    have g6 : ¬ p1.toInt < (0 : Int32).toInt := fun z => h_2 (Int32.lt_iff_toInt_lt.mpr z)
    refine ok_ite.mpr ⟨fun h_7 => ?_, fun h_7 => ?_⟩
    · have g8 : p1.toInt ≤ (σ.1 0 1).toInt := Int32.le_iff_toInt_le.mp h_7
      refine ok_nm2 (fun σ3 eσ3 => ?_)
      have hIσ3 : JM σ3 := by rw [eσ3]; exact JM_w hIσ (show 0 ≤ _ by omega) (show _ ≤ 1600 by omega)
      have hfσ3 : Fr fr_fX10_end σ σ3 := by rw [eσ3]; exact Fr_w hfσ (by decide)
      have sσ3_0_1 : (σ3.1 0 1).toInt = p1.toInt := by rw [eσ3]; rfl
      refine ok_some.mpr ?_
      have f9 : (1 : Int32).toInt = 1 := by decide
      exact ⟨hIσ3, hfσ3, (show 0 ≤ (1 : Int32).toInt by omega), (show (1 : Int32).toInt ≤ 1 by omega)⟩
    · have g10 : ¬ p1.toInt ≤ (σ.1 0 1).toInt := fun z => h_7 (Int32.le_iff_toInt_le.mpr z)
      refine ok_some.mpr ?_
      exact ⟨hIσ, hfσ, (show 0 ≤ (0 : Int32).toInt by omega), (show (0 : Int32).toInt ≤ 1 by omega)⟩
set_option maxRecDepth 20000 in
set_option maxHeartbeats 2000000 in
theorem o_fX10_pictures {σ : gS} (hIσ : JM σ)   : Ok (fX10_pictures σ ) (fun out => 0 ≤ out.toInt ∧ out.toInt ≤ 12) := by
  unfold fX10_pictures
  have f1 : (7 : Int32).toInt = 7 := by decide
  refine ok_gd.mpr ⟨gb_of (by omega) (by omega), ?_⟩
  refine ok_nm2 (fun v1 ev1 => ?_)
  have f2 : 0 ≤ (σ.1 15 7).toInt ∧ (σ.1 15 7).toInt ≤ 12 := hIσ 15 7
  have qv1 : v1.toInt = (σ.1 15 7).toInt := congrArg Int32.toInt ev1
  refine ok_some.mpr ?_
  exact ⟨(show 0 ≤ v1.toInt by omega), (show v1.toInt ≤ 12 by omega)⟩
theorem m_fns {σ : gS} (hIσ : JM σ) : fX10_firstNotStarted σ = some (fI (fun p => decide (σ.1 29 p = 0)) (σ.1 15 7).toInt.toNat 0) := by
  have hn := (JM_n hIσ).2.2.1
  unfold fX10_firstNotStarted
  refine (q_nm rfl).trans ?_
  refine fI_lpc (n := σ.1 15 7) (c := fun p => decide (σ.1 29 p = 0)) (fun rec a h0 h1 => ?_) (fun rec a h0 h1 => ?_) _ K9 0 (by have := z0; omega) (by decide) (by unfold K9; omega)
  · unfold bX10_firstNotStarted_2
    exact (q_bd (m_pictures σ)).trans (if_pos (q_le h1))
  · unfold bX10_firstNotStarted_2
    refine (q_bd (m_pictures σ)).trans ((if_neg (q_nle h1)).trans ((q_gd (gb_of h0 (by omega))).trans ((q_nm rfl).trans ?_)))
    rw [n_toInt]
    by_cases c1 : σ.1 29 a.toInt.toNat = 0
    · exact (if_pos c1).trans (if_pos (decide_eq_true c1)).symm
    · exact (if_neg c1).trans (if_neg (fun z => c1 (of_decide_eq_true z))).symm
theorem o_fX10_firstNotStarted {σ : gS} (hIσ : JM σ)   : Ok (fX10_firstNotStarted σ ) (fun out => -1 ≤ out.toInt ∧ out.toInt ≤ 11 ∧ out.toInt = (fnS σ).toInt ∧ (out.toInt ≠ -1 → nSt (gsI σ 29 out.toNatClampNeg (vp_nar .boolean 1)) < nSt σ)) := by
  have hn := (JM_n hIσ).2.2.1
  refine ok_is (m_fns hIσ) ?_
  rcases fI_spec (fun p => decide (σ.1 29 p = 0)) (σ.1 15 7).toInt.toNat 0 (by omega) with ⟨h1, -⟩ | ⟨j, -, h2, h3, h4, -⟩
  · rw [h1]
    exact ⟨by decide, by decide, by unfold fnS; rw [h1], fun z => absurd (by decide) z⟩
  · have h3 := of_decide_eq_true h3
    unfold fnS
    generalize fI (fun p => decide (σ.1 29 p = 0)) (σ.1 15 7).toInt.toNat 0 = r at h4 ⊢
    have hr : r.toNatClampNeg = j := by rw [n_toInt]; omega
    refine ⟨by omega, by omega, rfl, fun _ => ?_⟩
    refine nSt_dec (p := j) (by omega) h3 (fun i => ?_)
    rw [gsI_1, hr]
    by_cases e : i = j
    · rw [if_pos ⟨rfl, e⟩, if_pos e]; decide
    · rw [if_neg (fun z => e z.2), if_neg e]
set_option maxRecDepth 20000 in
set_option maxHeartbeats 2000000 in
theorem o_fX10_points {σ : gS} (hIσ : JM σ)   : Ok (fX10_points σ ) (fun out => 0 ≤ out.toInt ∧ out.toInt ≤ 20) := by
  unfold fX10_points
  have f1 : (8 : Int32).toInt = 8 := by decide
  refine ok_gd.mpr ⟨gb_of (by omega) (by omega), ?_⟩
  refine ok_nm2 (fun v1 ev1 => ?_)
  have f2 : 0 ≤ (σ.1 15 8).toInt ∧ (σ.1 15 8).toInt ≤ 20 := hIσ 15 8
  have qv1 : v1.toInt = (σ.1 15 8).toInt := congrArg Int32.toInt ev1
  refine ok_some.mpr ?_
  exact ⟨(show 0 ≤ v1.toInt by omega), (show v1.toInt ≤ 20 by omega)⟩
set_option maxRecDepth 20000 in
set_option maxHeartbeats 2000000 in
theorem o_fX10_isControl {σ : gS} (hIσ : JM σ) {p1 : Int32} (h0p1 : 0 ≤ p1.toInt) (h1p1 : p1.toInt ≤ 19) : Ok (fX10_isControl σ p1) (fun out => 0 ≤ out.toInt ∧ out.toInt ≤ 1) := by
  unfold fX10_isControl
  have f1 : (20 : Int32).toInt = 20 := by decide
  have f2 : ((20 : Int32) + p1).toInt = (20 : Int32).toInt + p1.toInt := iadd_toInt (by omega) (by omega)
  refine ok_gd.mpr ⟨gb_of (by omega) (by omega), ?_⟩
  refine ok_nm2 (fun v1 ev1 => ?_)
  have qv1 : v1.toInt = (σ.1 20 (20 + p1).toNatClampNeg).toInt := congrArg Int32.toInt ev1
  refine ok_nm.mpr ?_
  refine ok_ite.mpr ⟨fun h_3 => ?_, fun h_3 => ?_⟩
  · have f4 : (0 : Int32).toInt = 0 := by decide
    have g5 : v1.toInt = (0 : Int32).toInt := by rw [h_3]
    refine ok_some.mpr ?_
    exact ⟨(show 0 ≤ (0 : Int32).toInt by omega), (show (0 : Int32).toInt ≤ 1 by omega)⟩
  · have f6 : (0 : Int32).toInt = 0 := by decide
    have g7 : v1.toInt ≠ (0 : Int32).toInt := fun z => h_3 (Int32.toInt_inj.mp z)
    refine ok_ite.mpr ⟨fun h_8 => ?_, fun h_8 => ?_⟩
    · have f9 : 0 ≤ (((σ.1 0 36) >>> ((v1 - 1) &&& 31)) &&& 1).toInt ∧ (((σ.1 0 36) >>> ((v1 - 1) &&& 31)) &&& 1).toInt ≤ 1 := iand_toInt (by decide) (by decide)
      have f10 : (1 : Int32).toInt = 1 := by decide
      have g11 : (((σ.1 0 36) >>> ((v1 - 1) &&& 31)) &&& 1).toInt = (1 : Int32).toInt := by rw [h_8]
      refine ok_some.mpr ?_
      exact ⟨(show 0 ≤ (1 : Int32).toInt by omega), (show (1 : Int32).toInt ≤ 1 by omega)⟩
    · have f12 : 0 ≤ (((σ.1 0 36) >>> ((v1 - 1) &&& 31)) &&& 1).toInt ∧ (((σ.1 0 36) >>> ((v1 - 1) &&& 31)) &&& 1).toInt ≤ 1 := iand_toInt (by decide) (by decide)
      have f13 : (1 : Int32).toInt = 1 := by decide
      have g14 : (((σ.1 0 36) >>> ((v1 - 1) &&& 31)) &&& 1).toInt ≠ (1 : Int32).toInt := fun z => h_8 (Int32.toInt_inj.mp z)
      refine ok_some.mpr ?_
      exact ⟨(show 0 ≤ (0 : Int32).toInt by omega), (show (0 : Int32).toInt ≤ 1 by omega)⟩
set_option maxRecDepth 20000 in
set_option maxHeartbeats 2000000 in
theorem o_fX10_standControls {σ : gS} (hIσ : JM σ)   : Ok (fX10_standControls σ ) (fun out => JM out ∧ Fr fr_fX10_standControls σ out) := by
  unfold fX10_standControls
  have hfσ : Fr fr_fX10_standControls σ σ := Fr_r
  refine ok_nm2 (fun x1 ex1 => ?_)
  have f1 : (0 : Int32).toInt = 0 := by decide
  have qx1 : x1.toInt = 0 := by rw [ex1]; decide
  refine ok_lpc (I := fun n s => n = (20 + 1 - s.1.toInt).toNat ∧ JM s.2 ∧ Fr fr_fX10_standControls σ s.2 ∧ 0 ≤ s.1.toInt ∧ s.1.toInt ≤ 20) (fun rec2_1r n_1 s_1 hs_1 hrec_1 => ?_) K9 ((20 + 1 - x1.toInt).toNat) (x1, σ) ⟨rfl, hIσ, hfσ, (show 0 ≤ x1.toInt by omega), (show x1.toInt ≤ 20 by omega)⟩ (by unfold K9; omega)
  obtain ⟨a1_1, σ1_1⟩ := s_1
  obtain ⟨hn_1, hIσ1_1, hfσ1_1, b0a1_1, b1a1_1⟩ := hs_1
  dsimp only at hn_1 hIσ1_1 hfσ1_1 b0a1_1 b1a1_1
  unfold bX10_standControls_2
  try dsimp only
  refine ok_bd.mpr ?_
  try unfold fX10_points
  have f2 : (8 : Int32).toInt = 8 := by decide
  refine ok_gd.mpr ⟨gb_of (by omega) (by omega), ?_⟩
  refine ok_nm2 (fun v1_60 ev1_60 => ?_)
  have f3 : 0 ≤ (σ1_1.1 15 8).toInt ∧ (σ1_1.1 15 8).toInt ≤ 20 := hIσ1_1 15 8
  have qv1_60 : v1_60.toInt = (σ1_1.1 15 8).toInt := congrArg Int32.toInt ev1_60
  refine ok_some.mpr ?_
  refine ok_ite.mpr ⟨fun h_4 => ?_, fun h_4 => ?_⟩
  · have g5 : v1_60.toInt ≤ a1_1.toInt := Int32.le_iff_toInt_le.mp h_4
    refine ok_some.mpr ?_
    exact ⟨hIσ1_1, hfσ1_1⟩
  · have g6 : ¬ v1_60.toInt ≤ a1_1.toInt := fun z => h_4 (Int32.le_iff_toInt_le.mpr z)
    refine ok_nm2 (fun x5_57_61 ex5_57_61 => ?_)
    have qx5_57_61 : x5_57_61.toInt = 0 := by rw [ex5_57_61]; decide
    refine ok_lpc (I := fun n s => n = (3 + 1 - s.1.toInt).toNat ∧ JM s.2 ∧ Fr fr_fX10_standControls σ s.2 ∧ 0 ≤ s.1.toInt ∧ s.1.toInt ≤ 3) (fun rec12_62r n_62 s_62 hs_62 hrec_62 => ?_) K9 ((3 + 1 - x5_57_61.toInt).toNat) (x5_57_61, σ1_1) ⟨rfl, hIσ1_1, hfσ1_1, (show 0 ≤ x5_57_61.toInt by omega), (show x5_57_61.toInt ≤ 3 by omega)⟩ (by unfold K9; omega)
    obtain ⟨a2_62, σ1_62⟩ := s_62
    obtain ⟨hn_62, hIσ1_62, hfσ1_62, b0a2_62, b1a2_62⟩ := hs_62
    dsimp only at hn_62 hIσ1_62 hfσ1_62 b0a2_62 b1a2_62
    unfold bX10_standControls_12
    try dsimp only
    refine ok_ite.mpr ⟨fun h_7 => ?_, fun h_7 => ?_⟩
    · have f8 : (2 : Int32).toInt = 2 := by decide
      have g9 : (2 : Int32).toInt ≤ a2_62.toInt := Int32.le_iff_toInt_le.mp h_7
      refine ok_nm2 (fun x7_67 ex7_67 => ?_)
      have f10 : (1 : Int32).toInt = 1 := by decide
      have f11 : (a1_1 + (1 : Int32)).toInt = a1_1.toInt + (1 : Int32).toInt := iadd_toInt (by omega) (by omega)
      have qx7_67 : x7_67.toInt = (a1_1 + 1).toInt := congrArg Int32.toInt ex7_67
      exact hrec_1 _ (x7_67, σ1_62) (show (20 + 1 - x7_67.toInt).toNat < n_1 by omega) ⟨rfl, hIσ1_62, hfσ1_62, (show 0 ≤ x7_67.toInt by omega), (show x7_67.toInt ≤ 20 by omega)⟩
    · have f12 : (2 : Int32).toInt = 2 := by decide
      have g13 : ¬ (2 : Int32).toInt ≤ a2_62.toInt := fun z => h_7 (Int32.le_iff_toInt_le.mpr z)
      refine ok_bd.mpr ?_
      try unfold fX10_isControl
      have f14 : (20 : Int32).toInt = 20 := by decide
      have f15 : ((20 : Int32) + a1_1).toInt = (20 : Int32).toInt + a1_1.toInt := iadd_toInt (by omega) (by omega)
      refine ok_gd.mpr ⟨gb_of (by omega) (by omega), ?_⟩
      refine ok_nm2 (fun v1_68 ev1_68 => ?_)
      have qv1_68 : v1_68.toInt = (σ1_62.1 20 (20 + a1_1).toNatClampNeg).toInt := congrArg Int32.toInt ev1_68
      refine ok_nm.mpr ?_
      refine ok_ite.mpr ⟨fun h_16 => ?_, fun h_16 => ?_⟩
      · have g17 : v1_68.toInt = (0 : Int32).toInt := by rw [h_16]
        refine ok_some.mpr ?_
        refine ok_ite.mpr ⟨fun h_18 => ?_, fun h_18 => ?_⟩
        · have g19 : (0 : Int32).toInt = (0 : Int32).toInt := by rw [h_18]
          refine ok_nm2 (fun x11_67_69_70 ex11_67_69_70 => ?_)
          have f20 : (1 : Int32).toInt = 1 := by decide
          have f21 : (a2_62 + (1 : Int32)).toInt = a2_62.toInt + (1 : Int32).toInt := iadd_toInt (by omega) (by omega)
          have qx11_67_69_70 : x11_67_69_70.toInt = (a2_62 + 1).toInt := congrArg Int32.toInt ex11_67_69_70
          exact hrec_62 _ (x11_67_69_70, σ1_62) (show (3 + 1 - x11_67_69_70.toInt).toNat < n_62 by omega) ⟨rfl, hIσ1_62, hfσ1_62, (show 0 ≤ x11_67_69_70.toInt by omega), (show x11_67_69_70.toInt ≤ 3 by omega)⟩
        · have g22 : (0 : Int32).toInt ≠ (0 : Int32).toInt := fun z => h_18 (Int32.toInt_inj.mp z)
          exfalso
          omega
      · have g23 : v1_68.toInt ≠ (0 : Int32).toInt := fun z => h_16 (Int32.toInt_inj.mp z)
        refine ok_ite.mpr ⟨fun h_24 => ?_, fun h_24 => ?_⟩
        · have f25 : 0 ≤ (((σ1_62.1 0 36) >>> ((v1_68 - 1) &&& 31)) &&& 1).toInt ∧ (((σ1_62.1 0 36) >>> ((v1_68 - 1) &&& 31)) &&& 1).toInt ≤ 1 := iand_toInt (by decide) (by decide)
          have f26 : (1 : Int32).toInt = 1 := by decide
          have g27 : (((σ1_62.1 0 36) >>> ((v1_68 - 1) &&& 31)) &&& 1).toInt = (1 : Int32).toInt := by rw [h_24]
          refine ok_some.mpr ?_
          refine ok_ite.mpr ⟨fun h_28 => ?_, fun h_28 => ?_⟩
          · have g29 : (1 : Int32).toInt = (0 : Int32).toInt := by rw [h_28]
            exfalso
            omega
          · have g30 : (1 : Int32).toInt ≠ (0 : Int32).toInt := fun z => h_28 (Int32.toInt_inj.mp z)
            have f31 : (40 : Int32).toInt = 40 := by decide
            have f32 : ((2 : Int32) * a1_1).toInt = 2 * a1_1.toInt := imulc (by decide) (by omega) (by omega)
            have f33 : ((40 : Int32) + (2 * a1_1)).toInt = (40 : Int32).toInt + (2 * a1_1).toInt := iadd_toInt (by omega) (by omega)
            have f34 : ((40 + (2 * a1_1)) + a2_62).toInt = (40 + (2 * a1_1)).toInt + a2_62.toInt := iadd_toInt (by omega) (by omega)
            refine ok_gd.mpr ⟨gb_of (by omega) (by omega), ?_⟩
            refine ok_nm2 (fun v12_67_69_71 ev12_67_69_71 => ?_)
            have qv12_67_69_71 : v12_67_69_71.toInt = (σ1_62.1 21 ((40 + (2 * a1_1)) + a2_62).toNatClampNeg).toInt := congrArg Int32.toInt ev12_67_69_71
            have f35 : (38 : Int32).toInt = 38 := by decide
            have f36 : ((38 : Int32) * a2_62).toInt = 38 * a2_62.toInt := imulc (by decide) (by omega) (by omega)
            have f37 : (12 : Int32).toInt = 12 := by decide
            have f38 : ((38 * a2_62) + (12 : Int32)).toInt = (38 * a2_62).toInt + (12 : Int32).toInt := iadd_toInt (by omega) (by omega)
            have f39 : (((38 * a2_62) + 12) + a1_1).toInt = ((38 * a2_62) + 12).toInt + a1_1.toInt := iadd_toInt (by omega) (by omega)
            refine ok_gd.mpr ⟨gb_of (by omega) (by omega), ?_⟩
            refine ok_nm2 (fun σ13_67_69_71 eσ13_67_69_71 => ?_)
            have f40 : (100 : Int32).toInt = 100 := by decide
            have hIσ13_67_69_71 : JM σ13_67_69_71 := by rw [eσ13_67_69_71]; exact JM_w hIσ1_62 (Int32.le_toInt _) (Int32.toInt_le _)
            have hfσ13_67_69_71 : Fr fr_fX10_standControls σ σ13_67_69_71 := by rw [eσ13_67_69_71]; exact Fr_w0 hfσ1_62 (by decide)
            refine ok_nm2 (fun x14_67_69_71 ex14_67_69_71 => ?_)
            have f41 : (a2_62 + (1 : Int32)).toInt = a2_62.toInt + (1 : Int32).toInt := iadd_toInt (by omega) (by omega)
            have qx14_67_69_71 : x14_67_69_71.toInt = (a2_62 + 1).toInt := congrArg Int32.toInt ex14_67_69_71
            exact hrec_62 _ (x14_67_69_71, σ13_67_69_71) (show (3 + 1 - x14_67_69_71.toInt).toNat < n_62 by omega) ⟨rfl, hIσ13_67_69_71, hfσ13_67_69_71, (show 0 ≤ x14_67_69_71.toInt by omega), (show x14_67_69_71.toInt ≤ 3 by omega)⟩
        · have f42 : 0 ≤ (((σ1_62.1 0 36) >>> ((v1_68 - 1) &&& 31)) &&& 1).toInt ∧ (((σ1_62.1 0 36) >>> ((v1_68 - 1) &&& 31)) &&& 1).toInt ≤ 1 := iand_toInt (by decide) (by decide)
          have f43 : (1 : Int32).toInt = 1 := by decide
          have g44 : (((σ1_62.1 0 36) >>> ((v1_68 - 1) &&& 31)) &&& 1).toInt ≠ (1 : Int32).toInt := fun z => h_24 (Int32.toInt_inj.mp z)
          refine ok_some.mpr ?_
          refine ok_ite.mpr ⟨fun h_45 => ?_, fun h_45 => ?_⟩
          · have g46 : (0 : Int32).toInt = (0 : Int32).toInt := by rw [h_45]
            refine ok_nm2 (fun x11_67_69_72 ex11_67_69_72 => ?_)
            have f47 : (a2_62 + (1 : Int32)).toInt = a2_62.toInt + (1 : Int32).toInt := iadd_toInt (by omega) (by omega)
            have qx11_67_69_72 : x11_67_69_72.toInt = (a2_62 + 1).toInt := congrArg Int32.toInt ex11_67_69_72
            exact hrec_62 _ (x11_67_69_72, σ1_62) (show (3 + 1 - x11_67_69_72.toInt).toNat < n_62 by omega) ⟨rfl, hIσ1_62, hfσ1_62, (show 0 ≤ x11_67_69_72.toInt by omega), (show x11_67_69_72.toInt ≤ 3 by omega)⟩
          · have g48 : (0 : Int32).toInt ≠ (0 : Int32).toInt := fun z => h_45 (Int32.toInt_inj.mp z)
            exfalso
            omega
set_option maxRecDepth 20000 in
set_option maxHeartbeats 2000000 in
theorem o_fX10_rows {σ : gS} (hIσ : JM σ)   : Ok (fX10_rows σ ) (fun out => 0 ≤ out.toInt ∧ out.toInt ≤ 60) := by
  unfold fX10_rows
  have f1 : (9 : Int32).toInt = 9 := by decide
  refine ok_gd.mpr ⟨gb_of (by omega) (by omega), ?_⟩
  refine ok_nm2 (fun v1 ev1 => ?_)
  have f2 : 0 ≤ (σ.1 15 9).toInt ∧ (σ.1 15 9).toInt ≤ 60 := hIσ 15 9
  have qv1 : v1.toInt = (σ.1 15 9).toInt := congrArg Int32.toInt ev1
  refine ok_some.mpr ?_
  exact ⟨(show 0 ≤ v1.toInt by omega), (show v1.toInt ≤ 60 by omega)⟩
set_option maxRecDepth 20000 in
set_option maxHeartbeats 2000000 in
theorem o_fX10_pointOf {σ : gS} (hIσ : JM σ) {p1 : Int32} (h0p1 : 0 ≤ p1.toInt) (h1p1 : p1.toInt ≤ 59) : Ok (fX10_pointOf σ p1) (fun out => 0 ≤ out.toInt ∧ out.toInt ≤ 19) := by
  unfold fX10_pointOf
  have f1 : (60 : Int32).toInt = 60 := by decide
  have f2 : ((60 : Int32) + p1).toInt = (60 : Int32).toInt + p1.toInt := iadd_toInt (by omega) (by omega)
  refine ok_gd.mpr ⟨gb_of (by omega) (by omega), ?_⟩
  refine ok_nm2 (fun v1 ev1 => ?_)
  have f3 : 0 ≤ (σ.1 23 (60 + p1).toNatClampNeg).toInt ∧ (σ.1 23 (60 + p1).toNatClampNeg).toInt ≤ 19 := hIσ 23 _
  have qv1 : v1.toInt = (σ.1 23 (60 + p1).toNatClampNeg).toInt := congrArg Int32.toInt ev1
  refine ok_some.mpr ?_
  exact ⟨(show 0 ≤ v1.toInt by omega), (show v1.toInt ≤ 19 by omega)⟩
set_option maxRecDepth 20000 in
set_option maxHeartbeats 2000000 in
theorem o_fX10_pictureOf {σ : gS} (hIσ : JM σ) {p1 : Int32} (h0p1 : 0 ≤ p1.toInt) (h1p1 : p1.toInt ≤ 59) : Ok (fX10_pictureOf σ p1) (fun out => 0 ≤ out.toInt ∧ out.toInt ≤ 11) := by
  unfold fX10_pictureOf
  have f1 : (60 : Int32).toInt = 60 := by decide
  have f2 : ((60 : Int32) + p1).toInt = (60 : Int32).toInt + p1.toInt := iadd_toInt (by omega) (by omega)
  refine ok_gd.mpr ⟨gb_of (by omega) (by omega), ?_⟩
  refine ok_nm2 (fun v1 ev1 => ?_)
  have f3 : 0 ≤ (σ.1 22 (60 + p1).toNatClampNeg).toInt ∧ (σ.1 22 (60 + p1).toNatClampNeg).toInt ≤ 11 := hIσ 22 _
  have qv1 : v1.toInt = (σ.1 22 (60 + p1).toNatClampNeg).toInt := congrArg Int32.toInt ev1
  refine ok_some.mpr ?_
  exact ⟨(show 0 ≤ v1.toInt by omega), (show v1.toInt ≤ 11 by omega)⟩
set_option maxRecDepth 20000 in
set_option maxHeartbeats 2000000 in
theorem o_fX10_startedRow {σ : gS} (hIσ : JM σ) {p1 : Int32}  : Ok (fX10_startedRow σ p1) (fun out => -1 ≤ out.toInt ∧ out.toInt ≤ 59) := by
  unfold fX10_startedRow
  refine ok_nm2 (fun x1 ex1 => ?_)
  have f1 : (0 : Int32).toInt = 0 := by decide
  have qx1 : x1.toInt = 0 := by rw [ex1]; decide
  refine ok_lpc (I := fun n s => n = (60 + 1 - s.toInt).toNat ∧ 0 ≤ s.toInt ∧ s.toInt ≤ 60) (fun rec2_1r n_1 s_1 hs_1 hrec_1 => ?_) K9 ((60 + 1 - x1.toInt).toNat) x1 ⟨rfl, (show 0 ≤ x1.toInt by omega), (show x1.toInt ≤ 60 by omega)⟩ (by unfold K9; omega)
  obtain ⟨a2_1, hq_1⟩ : ∃ y, y = s_1 := ⟨_, rfl⟩
  subst hq_1
  obtain ⟨hn_1, b0a2_1, b1a2_1⟩ := hs_1
  skip
  unfold bX10_startedRow_2
  try dsimp only
  refine ok_bd.mpr ?_
  try unfold fX10_rows
  have f2 : (9 : Int32).toInt = 9 := by decide
  refine ok_gd.mpr ⟨gb_of (by omega) (by omega), ?_⟩
  refine ok_nm2 (fun v1_57 ev1_57 => ?_)
  have f3 : 0 ≤ (σ.1 15 9).toInt ∧ (σ.1 15 9).toInt ≤ 60 := hIσ 15 9
  have qv1_57 : v1_57.toInt = (σ.1 15 9).toInt := congrArg Int32.toInt ev1_57
  refine ok_some.mpr ?_
  refine ok_ite.mpr ⟨fun h_4 => ?_, fun h_4 => ?_⟩
  · have g5 : v1_57.toInt ≤ a2_1.toInt := Int32.le_iff_toInt_le.mp h_4
    refine ok_some.mpr ?_
    have f6 : (-1 : Int32).toInt = -1 := by decide
    exact ⟨(show -1 ≤ (-1 : Int32).toInt by omega), (show (-1 : Int32).toInt ≤ 59 by omega)⟩
  · have g7 : ¬ v1_57.toInt ≤ a2_1.toInt := fun z => h_4 (Int32.le_iff_toInt_le.mpr z)
    refine ok_gd.mpr ⟨gb_of (by omega) (by omega), ?_⟩
    refine ok_nm2 (fun v5_56_58 ev5_56_58 => ?_)
    have qv5_56_58 : v5_56_58.toInt = (σ.1 26 a2_1.toNatClampNeg).toInt := congrArg Int32.toInt ev5_56_58
    refine ok_ite.mpr ⟨fun h_8 => ?_, fun h_8 => ?_⟩
    · have g9 : v5_56_58.toInt = (0 : Int32).toInt := by rw [h_8]
      refine ok_bd.mpr ?_
      try unfold fX10_pointOf
      have f10 : (60 : Int32).toInt = 60 := by decide
      have f11 : ((60 : Int32) + a2_1).toInt = (60 : Int32).toInt + a2_1.toInt := iadd_toInt (by omega) (by omega)
      refine ok_gd.mpr ⟨gb_of (by omega) (by omega), ?_⟩
      refine ok_nm2 (fun v1_59 ev1_59 => ?_)
      have f12 : 0 ≤ (σ.1 23 (60 + a2_1).toNatClampNeg).toInt ∧ (σ.1 23 (60 + a2_1).toNatClampNeg).toInt ≤ 19 := hIσ 23 _
      have qv1_59 : v1_59.toInt = (σ.1 23 (60 + a2_1).toNatClampNeg).toInt := congrArg Int32.toInt ev1_59
      refine ok_some.mpr ?_
      refine ok_ite.mpr ⟨fun h_13 => ?_, fun h_13 => ?_⟩
      · have g14 : v1_59.toInt = p1.toInt := by rw [h_13]
        refine ok_bd.mpr ?_
        try unfold fX10_pictureOf
        refine ok_gd.mpr ⟨gb_of (by omega) (by omega), ?_⟩
        refine ok_nm2 (fun v1_61 ev1_61 => ?_)
        have f15 : 0 ≤ (σ.1 22 (60 + a2_1).toNatClampNeg).toInt ∧ (σ.1 22 (60 + a2_1).toNatClampNeg).toInt ≤ 11 := hIσ 22 _
        have qv1_61 : v1_61.toInt = (σ.1 22 (60 + a2_1).toNatClampNeg).toInt := congrArg Int32.toInt ev1_61
        refine ok_some.mpr ?_
        refine ok_gd.mpr ⟨gb_of (by omega) (by omega), ?_⟩
        refine ok_nm2 (fun v14_56_58_60_62 ev14_56_58_60_62 => ?_)
        have qv14_56_58_60_62 : v14_56_58_60_62.toInt = (σ.1 29 v1_61.toNatClampNeg).toInt := congrArg Int32.toInt ev14_56_58_60_62
        refine ok_ite.mpr ⟨fun h_16 => ?_, fun h_16 => ?_⟩
        · have g17 : v14_56_58_60_62.toInt = (0 : Int32).toInt := by rw [h_16]
          refine ok_nm2 (fun x16_56_58_60_62 ex16_56_58_60_62 => ?_)
          have f18 : (1 : Int32).toInt = 1 := by decide
          have f19 : (a2_1 + (1 : Int32)).toInt = a2_1.toInt + (1 : Int32).toInt := iadd_toInt (by omega) (by omega)
          have qx16_56_58_60_62 : x16_56_58_60_62.toInt = (a2_1 + 1).toInt := congrArg Int32.toInt ex16_56_58_60_62
          exact hrec_1 _ x16_56_58_60_62 (show (60 + 1 - x16_56_58_60_62.toInt).toNat < n_1 by omega) ⟨rfl, (show 0 ≤ x16_56_58_60_62.toInt by omega), (show x16_56_58_60_62.toInt ≤ 60 by omega)⟩
        · have g20 : v14_56_58_60_62.toInt ≠ (0 : Int32).toInt := fun z => h_16 (Int32.toInt_inj.mp z)
          refine ok_some.mpr ?_
          exact ⟨(show -1 ≤ a2_1.toInt by omega), (show a2_1.toInt ≤ 59 by omega)⟩
      · have g21 : v1_59.toInt ≠ p1.toInt := fun z => h_13 (Int32.toInt_inj.mp z)
        refine ok_nm2 (fun x11_56_58_60 ex11_56_58_60 => ?_)
        have f22 : (1 : Int32).toInt = 1 := by decide
        have f23 : (a2_1 + (1 : Int32)).toInt = a2_1.toInt + (1 : Int32).toInt := iadd_toInt (by omega) (by omega)
        have qx11_56_58_60 : x11_56_58_60.toInt = (a2_1 + 1).toInt := congrArg Int32.toInt ex11_56_58_60
        exact hrec_1 _ x11_56_58_60 (show (60 + 1 - x11_56_58_60.toInt).toNat < n_1 by omega) ⟨rfl, (show 0 ≤ x11_56_58_60.toInt by omega), (show x11_56_58_60.toInt ≤ 60 by omega)⟩
    · have g24 : v5_56_58.toInt ≠ (0 : Int32).toInt := fun z => h_8 (Int32.toInt_inj.mp z)
      refine ok_nm2 (fun x7_56_58 ex7_56_58 => ?_)
      have f25 : (1 : Int32).toInt = 1 := by decide
      have f26 : (a2_1 + (1 : Int32)).toInt = a2_1.toInt + (1 : Int32).toInt := iadd_toInt (by omega) (by omega)
      have qx7_56_58 : x7_56_58.toInt = (a2_1 + 1).toInt := congrArg Int32.toInt ex7_56_58
      exact hrec_1 _ x7_56_58 (show (60 + 1 - x7_56_58.toInt).toNat < n_1 by omega) ⟨rfl, (show 0 ≤ x7_56_58.toInt by omega), (show x7_56_58.toInt ≤ 60 by omega)⟩
set_option maxRecDepth 20000 in
set_option maxHeartbeats 2000000 in
theorem o_fX10_turnedBy {σ : gS} (hIσ : JM σ) {p1 : Int32} {p2 : Int32} {p3 : Int32} (h0p1 : 0 ≤ p1.toInt) (h1p1 : p1.toInt ≤ 59) (h0p3 : 0 ≤ p3.toInt) (h1p3 : p3.toInt ≤ 1) : Ok (fX10_turnedBy σ p1 p2 p3) (fun _ => True) := by
  unfold fX10_turnedBy
  have f1 : (120 : Int32).toInt = 120 := by decide
  have f2 : (2 : Int32).toInt = 2 := by decide
  have f3 : ((2 : Int32) * p1).toInt = 2 * p1.toInt := imulc (by decide) (by omega) (by omega)
  have f4 : ((120 : Int32) + (2 * p1)).toInt = (120 : Int32).toInt + (2 * p1).toInt := iadd_toInt (by omega) (by omega)
  refine ok_gd.mpr ⟨gb_of (by omega) (by omega), ?_⟩
  refine ok_nm2 (fun v1 ev1 => ?_)
  have qv1 : v1.toInt = (σ.1 24 (120 + (2 * p1)).toNatClampNeg).toInt := congrArg Int32.toInt ev1
  refine ok_nm.mpr ?_
  have f5 : (1 : Int32).toInt = 1 := by decide
  have f6 : ((120 + (2 * p1)) + (1 : Int32)).toInt = (120 + (2 * p1)).toInt + (1 : Int32).toInt := iadd_toInt (by omega) (by omega)
  refine ok_gd.mpr ⟨gb_of (by omega) (by omega), ?_⟩
  refine ok_nm2 (fun v3_1 ev3_1 => ?_)
  have qv3_1 : v3_1.toInt = (σ.1 24 ((120 + (2 * p1)) + 1).toNatClampNeg).toInt := congrArg Int32.toInt ev3_1
  refine ok_nm.mpr ?_
  refine ok_ite.mpr ⟨fun h_7 => ?_, fun h_7 => ?_⟩
  · have f8 : (0 : Int32).toInt = 0 := by decide
    have g9 : p3.toInt = (0 : Int32).toInt := by rw [h_7]
    try unfold jX10_turnedBy_38
    refine ok_nm2 (fun x6_3 ex6_3 => ?_)
    have qx6_3 : x6_3.toInt = (irm (p2 + 0) 4).toInt := congrArg Int32.toInt ex6_3
    refine ok_ite.mpr ⟨fun h_10 => ?_, fun h_10 => ?_⟩
    · have g11 : x6_3.toInt = (0 : Int32).toInt := by rw [h_10]
      refine ok_some.mpr ?_
      have f12 : (100 : Int32).toInt = 100 := by decide
      exact trivial
    · have g13 : x6_3.toInt ≠ (0 : Int32).toInt := fun z => h_10 (Int32.toInt_inj.mp z)
      refine ok_ite.mpr ⟨fun h_14 => ?_, fun h_14 => ?_⟩
      · have g15 : x6_3.toInt = (1 : Int32).toInt := by rw [h_14]
        refine ok_some.mpr ?_
        have f16 : (100 : Int32).toInt = 100 := by decide
        exact trivial
      · have g17 : x6_3.toInt ≠ (1 : Int32).toInt := fun z => h_14 (Int32.toInt_inj.mp z)
        refine ok_ite.mpr ⟨fun h_18 => ?_, fun h_18 => ?_⟩
        · have g19 : x6_3.toInt = (2 : Int32).toInt := by rw [h_18]
          refine ok_some.mpr ?_
          have f20 : (100 : Int32).toInt = 100 := by decide
          exact trivial
        · have g21 : x6_3.toInt ≠ (2 : Int32).toInt := fun z => h_18 (Int32.toInt_inj.mp z)
          refine ok_some.mpr ?_
          have f22 : (100 : Int32).toInt = 100 := by decide
          exact trivial
  · have f23 : (0 : Int32).toInt = 0 := by decide
    have g24 : p3.toInt ≠ (0 : Int32).toInt := fun z => h_7 (Int32.toInt_inj.mp z)
    try unfold jX10_turnedBy_38
    refine ok_nm2 (fun x6_4 ex6_4 => ?_)
    have f25 : (3 : Int32).toInt = 3 := by decide
    have qx6_4 : x6_4.toInt = (irm (p2 + 3) 4).toInt := congrArg Int32.toInt ex6_4
    refine ok_ite.mpr ⟨fun h_26 => ?_, fun h_26 => ?_⟩
    · have g27 : x6_4.toInt = (0 : Int32).toInt := by rw [h_26]
      refine ok_some.mpr ?_
      have f28 : (100 : Int32).toInt = 100 := by decide
      exact trivial
    · have g29 : x6_4.toInt ≠ (0 : Int32).toInt := fun z => h_26 (Int32.toInt_inj.mp z)
      refine ok_ite.mpr ⟨fun h_30 => ?_, fun h_30 => ?_⟩
      · have g31 : x6_4.toInt = (1 : Int32).toInt := by rw [h_30]
        refine ok_some.mpr ?_
        have f32 : (100 : Int32).toInt = 100 := by decide
        exact trivial
      · have g33 : x6_4.toInt ≠ (1 : Int32).toInt := fun z => h_30 (Int32.toInt_inj.mp z)
        refine ok_ite.mpr ⟨fun h_34 => ?_, fun h_34 => ?_⟩
        · have g35 : x6_4.toInt = (2 : Int32).toInt := by rw [h_34]
          refine ok_some.mpr ?_
          have f36 : (100 : Int32).toInt = 100 := by decide
          exact trivial
        · have g37 : x6_4.toInt ≠ (2 : Int32).toInt := fun z => h_34 (Int32.toInt_inj.mp z)
          refine ok_some.mpr ?_
          have f38 : (100 : Int32).toInt = 100 := by decide
          exact trivial
set_option maxRecDepth 20000 in
set_option maxHeartbeats 2000000 in
theorem o_fX10_turned {σ : gS} (hIσ : JM σ) {p1 : Int32} {p2 : Int32} (h0p1 : 0 ≤ p1.toInt) (h1p1 : p1.toInt ≤ 59) (h0p2 : 0 ≤ p2.toInt) (h1p2 : p2.toInt ≤ 1) : Ok (fX10_turned σ p1 p2) (fun _ => True) := by
  unfold fX10_turned
  refine ok_bd.mpr ?_
  try unfold fX10_pictureOf
  have f1 : (60 : Int32).toInt = 60 := by decide
  have f2 : ((60 : Int32) + p1).toInt = (60 : Int32).toInt + p1.toInt := iadd_toInt (by omega) (by omega)
  refine ok_gd.mpr ⟨gb_of (by omega) (by omega), ?_⟩
  refine ok_nm2 (fun v1_1 ev1_1 => ?_)
  have f3 : 0 ≤ (σ.1 22 (60 + p1).toNatClampNeg).toInt ∧ (σ.1 22 (60 + p1).toNatClampNeg).toInt ≤ 11 := hIσ 22 _
  have qv1_1 : v1_1.toInt = (σ.1 22 (60 + p1).toNatClampNeg).toInt := congrArg Int32.toInt ev1_1
  refine ok_some.mpr ?_
  refine ok_gd.mpr ⟨gb_of (by omega) (by omega), ?_⟩
  refine ok_nm2 (fun v3_2 ev3_2 => ?_)
  have qv3_2 : v3_2.toInt = (σ.1 27 v1_1.toNatClampNeg).toInt := congrArg Int32.toInt ev3_2
  refine ok_bd.mpr ((o_fX10_turnedBy hIσ (p1 := p1) (p2 := v3_2) (p3 := p2) (by omega) (by omega) (by omega) (by omega)).mono (fun r5_2 ho_5 => ?_))
  refine ok_some.mpr ?_
  exact trivial
set_option maxRecDepth 20000 in
set_option maxHeartbeats 2000000 in
theorem o_fX10_put {σ : gS} (hIσ : JM σ) {p1 : Int32} {p2 : Int32} (h0p1 : 0 ≤ p1.toInt) (h1p1 : p1.toInt ≤ 59) (h0p2 : 0 ≤ p2.toInt) (h1p2 : p2.toInt ≤ 1) : Ok (fX10_put σ p1 p2) (fun _ => True) := by
  unfold fX10_put
  refine ok_bd.mpr ?_
  try unfold fX10_pictureOf
  have f1 : (60 : Int32).toInt = 60 := by decide
  have f2 : ((60 : Int32) + p1).toInt = (60 : Int32).toInt + p1.toInt := iadd_toInt (by omega) (by omega)
  refine ok_gd.mpr ⟨gb_of (by omega) (by omega), ?_⟩
  refine ok_nm2 (fun v1_1 ev1_1 => ?_)
  have f3 : 0 ≤ (σ.1 22 (60 + p1).toNatClampNeg).toInt ∧ (σ.1 22 (60 + p1).toNatClampNeg).toInt ≤ 11 := hIσ 22 _
  have qv1_1 : v1_1.toInt = (σ.1 22 (60 + p1).toNatClampNeg).toInt := congrArg Int32.toInt ev1_1
  refine ok_some.mpr ?_
  have f4 : (38 : Int32).toInt = 38 := by decide
  have f5 : ((38 : Int32) * p2).toInt = 38 * p2.toInt := imulc (by decide) (by omega) (by omega)
  have f6 : ((38 * p2) + v1_1).toInt = (38 * p2).toInt + v1_1.toInt := iadd_toInt (by omega) (by omega)
  refine ok_gd.mpr ⟨gb_of (by omega) (by omega), ?_⟩
  refine ok_nm2 (fun v3_2 ev3_2 => ?_)
  have qv3_2 : v3_2.toInt = (σ.1 28 ((38 * p2) + v1_1).toNatClampNeg).toInt := congrArg Int32.toInt ev3_2
  refine ok_bd.mpr ((o_fX10_turned hIσ (p1 := p1) (p2 := p2) (by omega) (by omega) (by omega) (by omega)).mono (fun r5_2 ho_8 => ?_))
  refine ok_some.mpr ?_
  exact trivial
set_option maxRecDepth 20000 in
set_option maxHeartbeats 2000000 in
theorem o_fX10_rowOf {σ : gS} (hIσ : JM σ) {p1 : Int32} {p2 : Int32}  : Ok (fX10_rowOf σ p1 p2) (fun out => -1 ≤ out.toInt ∧ out.toInt ≤ 59) := by
  unfold fX10_rowOf
  refine ok_nm2 (fun x1 ex1 => ?_)
  have f1 : (0 : Int32).toInt = 0 := by decide
  have qx1 : x1.toInt = 0 := by rw [ex1]; decide
  refine ok_lpc (I := fun n s => n = (60 + 1 - s.toInt).toNat ∧ 0 ≤ s.toInt ∧ s.toInt ≤ 60) (fun rec2_1r n_1 s_1 hs_1 hrec_1 => ?_) K9 ((60 + 1 - x1.toInt).toNat) x1 ⟨rfl, (show 0 ≤ x1.toInt by omega), (show x1.toInt ≤ 60 by omega)⟩ (by unfold K9; omega)
  obtain ⟨a3_1, hq_1⟩ : ∃ y, y = s_1 := ⟨_, rfl⟩
  subst hq_1
  obtain ⟨hn_1, b0a3_1, b1a3_1⟩ := hs_1
  skip
  unfold bX10_rowOf_2
  try dsimp only
  refine ok_bd.mpr ?_
  try unfold fX10_rows
  have f2 : (9 : Int32).toInt = 9 := by decide
  refine ok_gd.mpr ⟨gb_of (by omega) (by omega), ?_⟩
  refine ok_nm2 (fun v1_57 ev1_57 => ?_)
  have f3 : 0 ≤ (σ.1 15 9).toInt ∧ (σ.1 15 9).toInt ≤ 60 := hIσ 15 9
  have qv1_57 : v1_57.toInt = (σ.1 15 9).toInt := congrArg Int32.toInt ev1_57
  refine ok_some.mpr ?_
  refine ok_ite.mpr ⟨fun h_4 => ?_, fun h_4 => ?_⟩
  · have g5 : v1_57.toInt ≤ a3_1.toInt := Int32.le_iff_toInt_le.mp h_4
    refine ok_some.mpr ?_
    have f6 : (-1 : Int32).toInt = -1 := by decide
    exact ⟨(show -1 ≤ (-1 : Int32).toInt by omega), (show (-1 : Int32).toInt ≤ 59 by omega)⟩
  · have g7 : ¬ v1_57.toInt ≤ a3_1.toInt := fun z => h_4 (Int32.le_iff_toInt_le.mpr z)
    refine ok_gd.mpr ⟨gb_of (by omega) (by omega), ?_⟩
    refine ok_nm2 (fun v5_56_58 ev5_56_58 => ?_)
    have qv5_56_58 : v5_56_58.toInt = (σ.1 26 a3_1.toNatClampNeg).toInt := congrArg Int32.toInt ev5_56_58
    refine ok_ite.mpr ⟨fun h_8 => ?_, fun h_8 => ?_⟩
    · have g9 : v5_56_58.toInt = (0 : Int32).toInt := by rw [h_8]
      refine ok_bd.mpr ?_
      try unfold fX10_pictureOf
      have f10 : (60 : Int32).toInt = 60 := by decide
      have f11 : ((60 : Int32) + a3_1).toInt = (60 : Int32).toInt + a3_1.toInt := iadd_toInt (by omega) (by omega)
      refine ok_gd.mpr ⟨gb_of (by omega) (by omega), ?_⟩
      refine ok_nm2 (fun v1_59 ev1_59 => ?_)
      have f12 : 0 ≤ (σ.1 22 (60 + a3_1).toNatClampNeg).toInt ∧ (σ.1 22 (60 + a3_1).toNatClampNeg).toInt ≤ 11 := hIσ 22 _
      have qv1_59 : v1_59.toInt = (σ.1 22 (60 + a3_1).toNatClampNeg).toInt := congrArg Int32.toInt ev1_59
      refine ok_some.mpr ?_
      refine ok_ite.mpr ⟨fun h_13 => ?_, fun h_13 => ?_⟩
      · have g14 : v1_59.toInt = p1.toInt := by rw [h_13]
        refine ok_bd.mpr ?_
        try unfold fX10_pointOf
        refine ok_gd.mpr ⟨gb_of (by omega) (by omega), ?_⟩
        refine ok_nm2 (fun v1_61 ev1_61 => ?_)
        have f15 : 0 ≤ (σ.1 23 (60 + a3_1).toNatClampNeg).toInt ∧ (σ.1 23 (60 + a3_1).toNatClampNeg).toInt ≤ 19 := hIσ 23 _
        have qv1_61 : v1_61.toInt = (σ.1 23 (60 + a3_1).toNatClampNeg).toInt := congrArg Int32.toInt ev1_61
        refine ok_some.mpr ?_
        refine ok_ite.mpr ⟨fun h_16 => ?_, fun h_16 => ?_⟩
        · have g17 : v1_61.toInt = p2.toInt := by rw [h_16]
          refine ok_some.mpr ?_
          exact ⟨(show -1 ≤ a3_1.toInt by omega), (show a3_1.toInt ≤ 59 by omega)⟩
        · have g18 : v1_61.toInt ≠ p2.toInt := fun z => h_16 (Int32.toInt_inj.mp z)
          refine ok_nm2 (fun x15_56_58_60_62 ex15_56_58_60_62 => ?_)
          have f19 : (1 : Int32).toInt = 1 := by decide
          have f20 : (a3_1 + (1 : Int32)).toInt = a3_1.toInt + (1 : Int32).toInt := iadd_toInt (by omega) (by omega)
          have qx15_56_58_60_62 : x15_56_58_60_62.toInt = (a3_1 + 1).toInt := congrArg Int32.toInt ex15_56_58_60_62
          exact hrec_1 _ x15_56_58_60_62 (show (60 + 1 - x15_56_58_60_62.toInt).toNat < n_1 by omega) ⟨rfl, (show 0 ≤ x15_56_58_60_62.toInt by omega), (show x15_56_58_60_62.toInt ≤ 60 by omega)⟩
      · have g21 : v1_59.toInt ≠ p1.toInt := fun z => h_13 (Int32.toInt_inj.mp z)
        refine ok_nm2 (fun x11_56_58_60 ex11_56_58_60 => ?_)
        have f22 : (1 : Int32).toInt = 1 := by decide
        have f23 : (a3_1 + (1 : Int32)).toInt = a3_1.toInt + (1 : Int32).toInt := iadd_toInt (by omega) (by omega)
        have qx11_56_58_60 : x11_56_58_60.toInt = (a3_1 + 1).toInt := congrArg Int32.toInt ex11_56_58_60
        exact hrec_1 _ x11_56_58_60 (show (60 + 1 - x11_56_58_60.toInt).toNat < n_1 by omega) ⟨rfl, (show 0 ≤ x11_56_58_60.toInt by omega), (show x11_56_58_60.toInt ≤ 60 by omega)⟩
    · have g24 : v5_56_58.toInt ≠ (0 : Int32).toInt := fun z => h_8 (Int32.toInt_inj.mp z)
      refine ok_nm2 (fun x7_56_58 ex7_56_58 => ?_)
      have f25 : (1 : Int32).toInt = 1 := by decide
      have f26 : (a3_1 + (1 : Int32)).toInt = a3_1.toInt + (1 : Int32).toInt := iadd_toInt (by omega) (by omega)
      have qx7_56_58 : x7_56_58.toInt = (a3_1 + 1).toInt := congrArg Int32.toInt ex7_56_58
      exact hrec_1 _ x7_56_58 (show (60 + 1 - x7_56_58.toInt).toNat < n_1 by omega) ⟨rfl, (show 0 ≤ x7_56_58.toInt by omega), (show x7_56_58.toInt ≤ 60 by omega)⟩
theorem o_fX10_sharedMany {σ : gS} (hIσ : JM σ) {p1 : Int32} (h0p1 : 0 ≤ p1.toInt) (h1p1 : p1.toInt ≤ 11) : Ok (fX10_sharedMany σ p1) (fun out => (0 < out.toInt → SH σ p1)) := by
  have hn := (JM_n hIσ).2.1
  unfold fX10_sharedMany
  refine ok_nm.mpr (ok_nm.mpr (ok_lpc (I := fun (n : Nat) (s : Int32 × Int32) => n = (20 - s.2.toInt).toNat ∧ 0 ≤ s.2.toInt ∧ s.2.toInt ≤ 20 ∧ 0 ≤ s.1.toInt ∧ s.1.toInt ≤ s.2.toInt ∧ (0 < s.1.toInt → SH σ p1)) (fun rec n s hs hrec => ?_) K9 20 (0, 0) ⟨by first | decide | (dsimp only; decide), by first | decide | (dsimp only; decide), by first | decide | (dsimp only; decide), by first | decide | (dsimp only; decide), by first | decide | (dsimp only; decide), fun z => absurd z (by first | decide | (dsimp only; decide))⟩ (by unfold K9; decide)))
  obtain ⟨k, q⟩ := s
  obtain ⟨hn', h0, h1, h2, h3, h4⟩ := hs
  dsimp only at hn' h0 h1 h2 h3 h4 ⊢
  unfold bX10_sharedMany_4
  refine ok_bde (m_points σ) (ok_ite.mpr ⟨fun h => ok_some.mpr h4, fun h => ?_⟩)
  have hq : q.toInt < (σ.1 15 8).toInt := by
    have := q_gt h
    omega
  have e1 : (q + 1).toInt = q.toInt + 1 := i_inc (by omega) h1 (by decide)
  have e2 : (k + 1).toInt = k.toInt + 1 := i_inc (c := 20) (by omega) (by omega) (by decide)
  have next : ∀ k' : Int32, 0 ≤ k'.toInt → k'.toInt ≤ q.toInt + 1 → (0 < k'.toInt → SH σ p1) → Ok (rec (k', q + 1)) (fun out => 0 < out.toInt → SH σ p1) := fun k' a b c => hrec (20 - (q + 1).toInt).toNat (k', q + 1) (by omega) ⟨rfl, show 0 ≤ (q + 1).toInt by omega, show (q + 1).toInt ≤ 20 by omega, a, show k'.toInt ≤ (q + 1).toInt by omega, c⟩
  refine ok_bde (m_rowOf hIσ p1 q) (ok_ite.mpr ⟨fun _ => next k h2 (by omega) h4, fun c1 => ?_⟩)
  refine ok_bde (m_startedRow hIσ q) (ok_ite.mpr ⟨fun _ => next k h2 (by omega) h4, fun c2 => ?_⟩)
  exact next (k + 1) (by omega) (by omega) (fun _ => ⟨q, h0, hq, c1, c2⟩)
theorem o_fX10_nextStarted {σ : gS} (hIσ : JM σ)   : Ok (fX10_nextStarted σ ) (fun out => -1 ≤ out.toInt ∧ out.toInt ≤ 11 ∧ (out.toInt ≠ -1 → (σ.1 29 out.toNatClampNeg).toInt = 0) ∧ (out.toInt ≠ -1 → SH σ out)) := by
  have hn := (JM_n hIσ).2.2.1
  unfold fX10_nextStarted
  refine ok_nm.mpr (ok_lpc (I := fun (n : Nat) (s : Int32) => n = (12 - s.toInt).toNat ∧ 0 ≤ s.toInt ∧ s.toInt ≤ 12) (fun rec n s hs hrec => ?_) K9 12 0 ⟨by decide, by decide, by decide⟩ (by unfold K9; decide))
  obtain ⟨hn', h0, h1⟩ := hs
  unfold bX10_nextStarted_2
  refine ok_bde (m_pictures σ) (ok_ite.mpr ⟨fun h => ok_some.mpr ⟨by decide, by decide, fun z => absurd (by decide) z, fun z => absurd (by decide) z⟩, fun h => ?_⟩)
  have hq : s.toInt < (σ.1 15 7).toInt := by
    have := q_gt h
    omega
  have e1 : (s + 1).toInt = s.toInt + 1 := i_inc (by omega) h1 (by decide)
  have next : Ok (rec (s + 1)) (fun out => -1 ≤ out.toInt ∧ out.toInt ≤ 11 ∧ (out.toInt ≠ -1 → (σ.1 29 out.toNatClampNeg).toInt = 0) ∧ (out.toInt ≠ -1 → SH σ out)) := hrec (12 - (s + 1).toInt).toNat (s + 1) (by omega) ⟨rfl, by omega, by omega⟩
  refine ok_gd.mpr ⟨gb_of h0 (by omega), ok_nm.mpr (ok_ite.mpr ⟨fun c1 => ?_, fun _ => next⟩)⟩
  refine ok_bd.mpr ((o_fX10_sharedMany hIσ (p1 := s) h0 (by omega)).mono (fun w hw => ?_))
  have l12 : (12 : Int32).toInt = 12 := by decide
  have e12 : (12 + s).toInt = 12 + s.toInt := by rw [iadd_toInt] <;> omega
  refine ok_gd.mpr ⟨gb_of (by omega) (by omega), ok_nm.mpr ?_⟩
  have J : ∀ z : Int32, 0 < z.toInt → Ok (jX10_nextStarted_42 σ (fun a1 => rec a1) s z w) (fun out => -1 ≤ out.toInt ∧ out.toInt ≤ 11 ∧ (out.toInt ≠ -1 → (σ.1 29 out.toNatClampNeg).toInt = 0) ∧ (out.toInt ≠ -1 → SH σ out)) := fun z hz => by
    unfold jX10_nextStarted_42
    refine ok_ite.mpr ⟨fun _ => next, fun hw2 => ok_some.mpr ⟨by omega, by omega, fun _ => by rw [c1]; decide, fun _ => hw ?_⟩⟩
    have : ¬ w.toInt < z.toInt := fun y => hw2 (Int32.lt_iff_toInt_lt.mpr y)
    omega
  exact ok_ite.mpr ⟨fun _ => J 2 (by decide), fun _ => J 1 (by decide)⟩
set_option maxRecDepth 20000 in
set_option maxHeartbeats 2000000 in
theorem o_fX10_apart {σ : gS} (hIσ : JM σ) {p0 : Int64} {p2 : Int64}  : Ok (fX10_apart σ p0 p2) (fun _ => True) := by
  unfold fX10_apart
  refine ok_ite.mpr ⟨fun h_1 => ?_, fun h_1 => ?_⟩
  · have g2 : p0.toInt ≤ p2.toInt := Int64.le_iff_toInt_le.mp h_1
    refine ok_some.mpr ?_
    exact trivial
  · have g3 : ¬ p0.toInt ≤ p2.toInt := fun z => h_1 (Int64.le_iff_toInt_le.mpr z)
    refine ok_some.mpr ?_
    exact trivial
theorem w9_apart (σ : gS) (a b : Int64) : Ok (fX10_apart σ a b) (fun _ => True) := by
  unfold fX10_apart
  exact ok_ite.mpr ⟨fun _ => ok_some.mpr trivial, fun _ => ok_some.mpr trivial⟩
theorem w9_unlike60 {σ : gS} (hIσ : JM σ) {p t f q r s : Int32} {P : Int64 → Prop} (hf : RO σ p f ≠ -1) (hf2 : SR σ f ≠ -1) (r0 : 0 ≤ r.toInt ∧ r.toInt ≤ 59) (s0 : 0 ≤ s.toInt ∧ s.toInt ≤ 59) {rec8 : Int32 → Int64 → Int32 → Option Int64} (k8 : ∀ x, Ok (rec8 f x (q + 1)) P) (a4 : Int64) : Ok (lpc (S := Int64 × Int32) K9 (fun rec z => bX10_unlike_60 σ p t f q r s rec8 (fun a4 a9 => rec (a4, a9)) z.1 z.2) (a4, 0)) P := by
  refine ok_lpc (I := fun (n : Nat) (z : Int64 × Int32) => n = (2 - z.2.toInt).toNat ∧ 0 ≤ z.2.toInt ∧ z.2.toInt ≤ 2) (fun rec n z hz hrec => ?_) K9 2 (a4, 0) ⟨by first | decide | (dsimp only; decide), by first | decide | (dsimp only; decide), by first | decide | (dsimp only; decide)⟩ (by unfold K9; decide)
  obtain ⟨v, a⟩ := z
  obtain ⟨hn, h0, h1⟩ := hz
  dsimp only at hn h0 h1 ⊢
  have l2 : (2 : Int32).toInt = 2 := by decide
  unfold bX10_unlike_60
  refine ok_ite.mpr ⟨fun _ => ok_nm.mpr (k8 v), fun h => ?_⟩
  have h2 : a.toInt ≤ 1 := by
    have := q_gt h
    omega
  have e1 : (a + 1).toInt = a.toInt + 1 := i_inc (by omega) h1 (by decide)
  have rf := RO_ok hIσ hf
  have sf := SR_ok hIσ hf2
  refine ok_bd.mpr ((o_fX10_turnedBy hIσ (p1 := r) (p2 := t) (p3 := a) r0.1 r0.2 h0 h2).mono (fun x1 _ => ?_))
  refine ok_bde (m_rowOf hIσ p f) ?_
  refine ok_bd.mpr ((o_fX10_turnedBy hIσ (p2 := t) (p3 := a) rf.1 rf.2 h0 h2).mono (fun x2 _ => ?_))
  refine ok_bd.mpr ((o_fX10_put hIσ (p1 := s) (p2 := a) s0.1 s0.2 h0 h2).mono (fun x3 _ => ?_))
  refine ok_bde (m_startedRow hIσ f) ?_
  refine ok_bd.mpr ((o_fX10_put hIσ (p2 := a) sf.1 sf.2 h0 h2).mono (fun x4 _ => ?_))
  refine ok_bd.mpr ((w9_apart σ _ _).mono (fun x5 _ => ok_nm.mpr (ok_nm.mpr ?_)))
  exact hrec (2 - (a + 1).toInt).toNat (_, a + 1) (by omega) ⟨rfl, show 0 ≤ (a + 1).toInt by omega, show (a + 1).toInt ≤ 2 by omega⟩
theorem o_fX10_unlike {σ : gS} (hIσ : JM σ) {p1 : Int32} {p2 : Int32} (h0p1 : 0 ≤ p1.toInt) (h1p1 : p1.toInt ≤ 11) : Ok (fX10_unlike σ p1 p2) (fun _ => True) := by
  have hn := (JM_n hIσ).2.1
  unfold fX10_unlike
  refine ok_nm.mpr (ok_nm.mpr (ok_nm.mpr (ok_lpc (I := fun (n : Nat) (z : Int32 × Int64 × Int32) => n = (20 - z.2.2.toInt).toNat ∧ 0 ≤ z.2.2.toInt ∧ z.2.2.toInt ≤ 20 ∧ (z.1 = -1 ∨ RO σ p1 z.1 ≠ -1 ∧ SR σ z.1 ≠ -1)) (fun rec n z hz hrec => ?_) K9 20 (-1, 0, 0) ⟨by first | decide | (dsimp only; decide), by first | decide | (dsimp only; decide), by first | decide | (dsimp only; decide), .inl rfl⟩ (by unfold K9; decide))))
  obtain ⟨f, v, q⟩ := z
  obtain ⟨hn', h0, h1, hf⟩ := hz
  dsimp only at hn' h0 h1 hf ⊢
  unfold bX10_unlike_8
  refine ok_bde (m_points σ) (ok_ite.mpr ⟨fun _ => ok_some.mpr trivial, fun h => ?_⟩)
  have hq : q.toInt < (σ.1 15 8).toInt := by
    have := q_gt h
    omega
  have e1 : (q + 1).toInt = q.toInt + 1 := i_inc (by omega) h1 (by decide)
  have next : ∀ (f' : Int32) (v' : Int64), (f' = -1 ∨ RO σ p1 f' ≠ -1 ∧ SR σ f' ≠ -1) → Ok (rec (f', v', q + 1)) (fun _ => True) := fun f' v' c => hrec (20 - (q + 1).toInt).toNat (f', v', q + 1) (by omega) ⟨rfl, show 0 ≤ (q + 1).toInt by omega, show (q + 1).toInt ≤ 20 by omega, c⟩
  refine ok_bde (m_rowOf hIσ p1 q) (ok_nm.mpr (ok_bde (m_startedRow hIσ q) (ok_nm.mpr (ok_ite.mpr ⟨fun _ => ok_nm.mpr (next f v hf), fun c1 => ok_ite.mpr ⟨fun _ => ok_nm.mpr (next f v hf), fun c2 => ?_⟩⟩))))
  refine ok_ite.mpr ⟨fun _ => ok_nm.mpr (ok_nm.mpr ?_), fun hne => ok_nm.mpr ?_⟩
  · exact w9_unlike60 hIσ c1 c2 (RO_ok hIσ c1) (SR_ok hIσ c2) (fun x => next q x (.inr ⟨c1, c2⟩)) v
  · rcases hf with hf | hf
    · exact absurd hf hne
    · exact w9_unlike60 hIσ hf.1 hf.2 (RO_ok hIσ c1) (SR_ok hIσ c2) (fun x => next f x (.inr hf)) v
theorem RO_eq {σ τ : gS} (h : τ.1 15 = σ.1 15 ∧ τ.1 22 = σ.1 22 ∧ τ.1 23 = σ.1 23 ∧ τ.1 26 = σ.1 26) (p q : Int32) : RO τ p q = RO σ p q := by
  unfold RO
  rw [h.1, h.2.1, h.2.2.1, h.2.2.2]
theorem SR_eq {σ τ : gS} (h : τ.1 15 = σ.1 15 ∧ τ.1 22 = σ.1 22 ∧ τ.1 23 = σ.1 23 ∧ τ.1 26 = σ.1 26) (h2 : τ.1 29 = σ.1 29) (q : Int32) : SR τ q = SR σ q := by
  unfold SR
  rw [h.1, h.2.1, h.2.2.1, h.2.2.2, h2]
theorem w9_sb82 {σ : gS} (hIσ : JM σ) {p q : Int32} (p0 : 0 ≤ p.toInt) (p1 : p.toInt ≤ 11) (c1 : RO σ p q ≠ -1) (c2 : SR σ q ≠ -1) : Ok (lpc (S := Int32 × gS) K9 (fun rec s => bX10_startsBy_82 σ p q (fun a3 σ1 => rec (a3, σ1)) s.1 s.2) (0, σ)) (fun out => JM out ∧ Fr [(27, 0), (28, 0), (29, 0)] σ out ∧ ∀ j, out.1 29 j = if j = p.toInt.toNat then 1 else σ.1 29 j) := by
  refine ok_lpc (I := fun (n : Nat) (z : Int32 × gS) => n = (2 - z.1.toInt).toNat ∧ 0 ≤ z.1.toInt ∧ z.1.toInt ≤ 2 ∧ JM z.2 ∧ Fr [(28, 0)] σ z.2) (fun rec n z hz hrec => ?_) K9 2 (0, σ) ⟨by first | decide | (dsimp only; decide), by first | decide | (dsimp only; decide), by first | decide | (dsimp only; decide), hIσ, Fr_r⟩ (by unfold K9; decide)
  obtain ⟨a, τ⟩ := z
  obtain ⟨hn, h0, h1, hI, hF⟩ := hz
  dsimp only at hn h0 h1 hI hF ⊢
  have l2 : (2 : Int32).toInt = 2 := by decide
  unfold bX10_startsBy_82
  refine ok_ite.mpr ⟨fun _ => ?_, fun h => ?_⟩
  · refine ok_gd.mpr ⟨gb_of p0 (by omega), ok_nm.mpr (ok_some.mpr ⟨JM_w hI (Int32.le_toInt _) (Int32.toInt_le _), ?_, fun j => ?_⟩)⟩
    · exact Fr_w0 (Fr_c (Fr_r (L := [(27, 0), (28, 0), (29, 0)])) hF (by decide)) (by decide)
    · rw [gsI_1, n_toInt]
      by_cases e : j = p.toInt.toNat
      · rw [if_pos ⟨rfl, e⟩, if_pos e]; decide
      · rw [if_neg (fun z => e z.2), if_neg e, (hF 29 j (by decide) (by simp)).1]
  · have h2 : a.toInt ≤ 1 := by
      have := q_gt h
      omega
    have e1 : (a + 1).toInt = a.toInt + 1 := i_inc (by omega) h1 (by decide)
    have g1 : ∀ k, k ≠ 28 → τ.1 k = σ.1 k := fun k hk => funext fun i => (hF k i (by simp [hk]) (by simp)).1
    have E : τ.1 15 = σ.1 15 ∧ τ.1 22 = σ.1 22 ∧ τ.1 23 = σ.1 23 ∧ τ.1 26 = σ.1 26 := ⟨g1 15 (by decide), g1 22 (by decide), g1 23 (by decide), g1 26 (by decide)⟩
    have d1 : RO τ p q ≠ -1 := by rw [RO_eq E]; exact c1
    have d2 : SR τ q ≠ -1 := by rw [SR_eq E (g1 29 (by decide))]; exact c2
    have rf := RO_ok hI d1
    have sf := SR_ok hI d2
    refine ok_bde (m_startedRow hI q) ?_
    refine ok_bd.mpr ((o_fX10_put hI (p2 := a) sf.1 sf.2 h0 h2).mono (fun x1 _ => ?_))
    refine ok_bde (m_rowOf hI p q) ?_
    refine ok_bd.mpr ((o_fX10_turned hI (p2 := a) rf.1 rf.2 h0 h2).mono (fun x2 _ => ?_))
    have l38 : (38 : Int32).toInt = 38 := by decide
    have e2 : (38 * a).toInt = 38 * a.toInt := imulc (by decide) (by omega) (by omega)
    have e3 : (38 * a + p).toInt = (38 * a).toInt + p.toInt := iadd_toInt (by omega) (by omega)
    refine ok_gd.mpr ⟨gb_of (by omega) (by omega), ok_nm.mpr (ok_nm.mpr ?_)⟩
    exact hrec (2 - (a + 1).toInt).toNat (a + 1, _) (by omega) ⟨rfl, show 0 ≤ (a + 1).toInt by omega, show (a + 1).toInt ≤ 2 by omega, JM_w hI (Int32.le_toInt _) (Int32.toInt_le _), Fr_w0 hF (by decide)⟩
theorem w9_sb55 {σ : gS} (hIσ : JM σ) {p : Int32} (p0 : 0 ≤ p.toInt) (p1 : p.toInt ≤ 11) (hS : SH σ p) : Ok (lpc (S := Int32) K9 (fun rec s => bX10_startsBy_55 σ p (fun a2 => rec (a2)) s) 0) (fun out => JM out ∧ Fr [(27, 0), (28, 0), (29, 0)] σ out ∧ ∀ j, out.1 29 j = if j = p.toInt.toNat then 1 else σ.1 29 j) := by
  have hn := (JM_n hIσ).2.1
  obtain ⟨q0, k0, k1, k2, k3⟩ := hS
  have l0 : (0 : Int32).toInt ≤ q0.toInt := k0
  refine ok_lpc (I := fun (n : Nat) (z : Int32) => n = (20 - z.toInt).toNat ∧ 0 ≤ z.toInt ∧ z.toInt ≤ q0.toInt) (fun rec n z hz hrec => ?_) K9 20 0 ⟨by decide, by decide, l0⟩ (by unfold K9; decide)
  obtain ⟨hn', h0, h1⟩ := hz
  have e1 : (z + 1).toInt = z.toInt + 1 := i_inc (c := 20) (by omega) (by omega) (by decide)
  have next : z ≠ q0 → Ok (rec (z + 1)) (fun out => JM out ∧ Fr [(27, 0), (28, 0), (29, 0)] σ out ∧ ∀ j, out.1 29 j = if j = p.toInt.toNat then 1 else σ.1 29 j) := fun hne => by
    have : z.toInt ≠ q0.toInt := fun y => hne (Int32.toInt_inj.mp y)
    exact hrec (20 - (z + 1).toInt).toNat (z + 1) (by omega) ⟨rfl, by omega, by omega⟩
  unfold bX10_startsBy_55
  refine ok_bde (m_rowOf hIσ p z) (ok_ite.mpr ⟨fun c => ok_nm.mpr (next (fun e => k2 (by rw [← e]; exact c))), fun c1 => ?_⟩)
  refine ok_bde (m_startedRow hIσ z) (ok_ite.mpr ⟨fun c => ok_nm.mpr (next (fun e => k3 (by rw [← e]; exact c))), fun c2 => ?_⟩)
  exact ok_nm.mpr (w9_sb82 hIσ p0 p1 c1 c2)
theorem o_fX10_startsBy {σ : gS} (hIσ : JM σ) {p1 : Int32} (h0p1 : 0 ≤ p1.toInt) (h1p1 : p1.toInt ≤ 11) (pre0 : SH σ p1) (pre1 : (σ.1 29 p1.toNatClampNeg).toInt = 0) : Ok (fX10_startsBy σ p1) (fun out => JM out ∧ Fr fr_fX10_startsBy σ out ∧ nSt out < nSt σ) := by
  have l12 : (12 : Int32).toInt = 12 := by decide
  have e12 : (12 + p1).toInt = 12 + p1.toInt := by rw [iadd_toInt] <;> omega
  unfold fX10_startsBy
  refine ok_gd.mpr ⟨gb_of (by omega) (by omega), ok_nm.mpr (ok_ite.mpr ⟨fun _ => ?_, fun _ => ok_nm.mpr ?_⟩)⟩
  · refine ok_nm.mpr (ok_nm.mpr (ok_lpc (I := fun (n : Nat) (z : Int32 × Int32) => n = (4 - z.2.toInt).toNat ∧ 0 ≤ z.2.toInt ∧ z.2.toInt ≤ 4) (fun rec n z hz hrec => ?_) K9 3 (0, 1) ⟨by first | decide | (dsimp only; decide), by first | decide | (dsimp only; decide), by first | decide | (dsimp only; decide)⟩ (by unfold K9; decide)))
    obtain ⟨b, t⟩ := z
    obtain ⟨hn', h0, h1⟩ := hz
    dsimp only at hn' h0 h1 ⊢
    have l4 : (4 : Int32).toInt = 4 := by decide
    unfold bX10_startsBy_17
    refine ok_ite.mpr ⟨fun _ => ?_, fun h => ?_⟩
    · refine ok_gd.mpr ⟨gb_of h0p1 (by omega), ok_nm.mpr (ok_nm.mpr ?_)⟩
      have hS : SH (gsI σ 27 p1.toNatClampNeg b) p1 := pre0
      refine (w9_sb55 (JM_w (k := 27) (i := p1.toNatClampNeg) (x := b) hIσ (Int32.le_toInt _) (Int32.toInt_le _)) h0p1 h1p1 hS).mono (fun out ho => ⟨ho.1, ?_, ?_⟩)
      · exact Fr_c (Fr_w0 (Fr_r (L := fr_fX10_startsBy)) (by decide)) ho.2.1 (by decide)
      · exact nSt_dec (p := p1.toInt.toNat) (by omega) (q_of 0 (pre1.trans (by decide))) ho.2.2
    · have h2 : t.toInt ≤ 3 := by
        have := q_gt h
        omega
      have e1 : (t + 1).toInt = t.toInt + 1 := i_inc (by omega) h1 (by decide)
      refine ok_bd.mpr ((o_fX10_unlike hIσ (p1 := p1) (p2 := t) h0p1 h1p1).mono (fun x1 _ => ?_))
      refine ok_bd.mpr ((o_fX10_unlike hIσ (p1 := p1) (p2 := b) h0p1 h1p1).mono (fun x2 _ => ?_))
      have next : ∀ b', Ok (rec (b', t + 1)) (fun out => JM out ∧ Fr fr_fX10_startsBy σ out ∧ nSt out < nSt σ) := fun b' => hrec (4 - (t + 1).toInt).toNat (b', t + 1) (by omega) ⟨rfl, show 0 ≤ (t + 1).toInt by omega, show (t + 1).toInt ≤ 4 by omega⟩
      exact ok_ite.mpr ⟨fun _ => ok_nm.mpr (next _), fun _ => ok_nm.mpr (ok_nm.mpr (next _))⟩
  · exact (w9_sb55 hIσ h0p1 h1p1 pre0).mono (fun out ho => ⟨ho.1, ho.2.1, nSt_dec (p := p1.toInt.toNat) (by omega) (q_of 0 (pre1.trans (by decide))) ho.2.2⟩)
set_option maxRecDepth 20000 in
set_option maxHeartbeats 2000000 in
theorem o_fX10_starts {σ : gS} (hIσ : JM σ)   : Ok (fX10_starts σ ) (fun out => JM out.2 ∧ Fr fr_fX10_starts σ out.2) := by
  unfold fX10_starts
  have hfσ : Fr fr_fX10_starts σ σ := Fr_r
  refine ok_nm2 (fun x1 ex1 => ?_)
  have f1 : (0 : Int32).toInt = 0 := by decide
  have qx1 : x1.toInt = 0 := by rw [ex1]; decide
  have xl1 := nSt_le σ
  refine ok_lpc (I := fun n s => n = (120 + 1 - s.1.toInt).toNat ∧ JM s.2 ∧ Fr fr_fX10_starts σ s.2 ∧ 0 ≤ s.1.toInt ∧ s.1.toInt ≤ 120) (fun rec2_1r n_1 s_1 hs_1 hrec_1 => ?_) K9 ((120 + 1 - x1.toInt).toNat) (x1, σ) ⟨rfl, hIσ, hfσ, (show 0 ≤ x1.toInt by omega), (show x1.toInt ≤ 120 by omega)⟩ (by unfold K9; omega)
  obtain ⟨a1_1, σ1_1⟩ := s_1
  obtain ⟨hn_1, hIσ1_1, hfσ1_1, b0a1_1, b1a1_1⟩ := hs_1
  dsimp only at hn_1 hIσ1_1 hfσ1_1 b0a1_1 b1a1_1
  unfold bX10_starts_2
  try dsimp only
  refine ok_ite.mpr ⟨fun h_2 => ?_, fun h_2 => ?_⟩
  · have f3 : (76 : Int32).toInt = 76 := by decide
    have g4 : (76 : Int32).toInt ≤ a1_1.toInt := Int32.le_iff_toInt_le.mp h_2
    refine ok_nm2 (fun x3_48 ex3_48 => ?_)
    have qx3_48 : x3_48.toInt = 0 := by rw [ex3_48]; decide
    have xl49 := nSt_le σ1_1
    refine ok_lpc (I := fun n s => n = (12 + 1 - s.1.toInt).toNat ∧ JM s.2 ∧ Fr fr_fX10_starts σ s.2 ∧ 0 ≤ s.1.toInt ∧ s.1.toInt ≤ 12) (fun rec23_49r n_49 s_49 hs_49 hrec_49 => ?_) K9 ((12 + 1 - x3_48.toInt).toNat) (x3_48, σ1_1) ⟨rfl, hIσ1_1, hfσ1_1, (show 0 ≤ x3_48.toInt by omega), (show x3_48.toInt ≤ 12 by omega)⟩ (by unfold K9; omega)
    obtain ⟨a1_49, σ1_49⟩ := s_49
    obtain ⟨hn_49, hIσ1_49, hfσ1_49, b0a1_49, b1a1_49⟩ := hs_49
    dsimp only at hn_49 hIσ1_49 hfσ1_49 b0a1_49 b1a1_49
    unfold bX10_starts_23
    try dsimp only
    refine ok_ite.mpr ⟨fun h_5 => ?_, fun h_5 => ?_⟩
    · have f6 : (12 : Int32).toInt = 12 := by decide
      have g7 : (12 : Int32).toInt ≤ a1_49.toInt := Int32.le_iff_toInt_le.mp h_5
      refine ok_bd.mpr ?_
      try unfold fX10_pictures
      have f8 : (7 : Int32).toInt = 7 := by decide
      refine ok_gd.mpr ⟨gb_of (by omega) (by omega), ?_⟩
      refine ok_nm2 (fun v1_99 ev1_99 => ?_)
      have f9 : 0 ≤ (σ1_49.1 15 7).toInt ∧ (σ1_49.1 15 7).toInt ≤ 12 := hIσ1_49 15 7
      have qv1_99 : v1_99.toInt = (σ1_49.1 15 7).toInt := congrArg Int32.toInt ev1_99
      refine ok_some.mpr ?_
      refine ok_ite.mpr ⟨fun h_10 => ?_, fun h_10 => ?_⟩
      · have g11 : v1_99.toInt = (0 : Int32).toInt := by rw [h_10]
        refine ok_nm2 (fun x46_96_100 ex46_96_100 => ?_)
        have qx46_96_100 : x46_96_100.toInt = 0 := by rw [ex46_96_100]; decide
        have xl101 := nSt_le σ1_49
        refine ok_lpc (I := fun n s => n = nSt s.2 ∧ JM s.2 ∧ Fr fr_fX10_starts σ s.2) (fun rec89_101r n_101 s_101 hs_101 hrec_101 => ?_) K9 (nSt σ1_49) (x46_96_100, σ1_49) ⟨(by dsimp only), hIσ1_49, hfσ1_49⟩ (by unfold K9; omega)
        obtain ⟨a1_101, σ1_101⟩ := s_101
        obtain ⟨hn_101, hIσ1_101, hfσ1_101⟩ := hs_101
        dsimp only at hn_101 hIσ1_101 hfσ1_101
        unfold bX10_starts_89
        try dsimp only
        refine ok_bd.mpr ((o_fX10_firstNotStarted hIσ1_101  ).mono (fun r10_124 ho_13 => ?_))
        obtain ⟨r0r10_124, r1r10_124, hp_14, hp_15⟩ := ho_13
        refine ok_ite.mpr ⟨fun h_16 => ?_, fun h_16 => ?_⟩
        · have f17 : (-1 : Int32).toInt = -1 := by decide
          have g18 : r10_124.toInt = (-1 : Int32).toInt := by rw [h_16]
          refine ok_nm2 (fun x12_124 ex12_124 => ?_)
          have qx12_124 : x12_124.toInt = 0 := by rw [ex12_124]; decide
          have xl125 := nSt_le σ1_101
          refine ok_lpc (I := fun n s => n = (20 + 1 - s.1.toInt).toNat ∧ JM s.2 ∧ Fr fr_fX10_starts σ s.2 ∧ 0 ≤ s.1.toInt ∧ s.1.toInt ≤ 20) (fun rec133_125r n_125 s_125 hs_125 hrec_125 => ?_) K9 ((20 + 1 - x12_124.toInt).toNat) (x12_124, σ1_101) ⟨rfl, hIσ1_101, hfσ1_101, (show 0 ≤ x12_124.toInt by omega), (show x12_124.toInt ≤ 20 by omega)⟩ (by unfold K9; omega)
          obtain ⟨a2_125, σ1_125⟩ := s_125
          obtain ⟨hn_125, hIσ1_125, hfσ1_125, b0a2_125, b1a2_125⟩ := hs_125
          dsimp only at hn_125 hIσ1_125 hfσ1_125 b0a2_125 b1a2_125
          unfold bX10_starts_133
          try dsimp only
          refine ok_bd.mpr ?_
          try unfold fX10_points
          have f19 : (8 : Int32).toInt = 8 := by decide
          refine ok_gd.mpr ⟨gb_of (by omega) (by omega), ?_⟩
          refine ok_nm2 (fun v1_153 ev1_153 => ?_)
          have f20 : 0 ≤ (σ1_125.1 15 8).toInt ∧ (σ1_125.1 15 8).toInt ≤ 20 := hIσ1_125 15 8
          have qv1_153 : v1_153.toInt = (σ1_125.1 15 8).toInt := congrArg Int32.toInt ev1_153
          refine ok_some.mpr ?_
          refine ok_ite.mpr ⟨fun h_21 => ?_, fun h_21 => ?_⟩
          · have g22 : v1_153.toInt ≤ a2_125.toInt := Int32.le_iff_toInt_le.mp h_21
            refine ok_bd.mpr ((o_fX10_standControls hIσ1_125  ).mono (fun σ17_148_154 ho_24 => ?_))
            obtain ⟨hIσ17_148_154, hcσ17_148_154⟩ := ho_24
            have hfσ17_148_154 : Fr fr_fX10_starts σ σ17_148_154 := Fr_c hfσ1_125 hcσ17_148_154 (by decide)
            have x25 : nSt σ17_148_154 = nSt σ1_125 := nSt_fr hcσ17_148_154 (by decide) (by intro i; simp [fr_fX10_standControls])
            refine ok_some.mpr ?_
            exact ⟨hIσ17_148_154, hfσ17_148_154⟩
          · have g26 : ¬ v1_153.toInt ≤ a2_125.toInt := fun z => h_21 (Int32.le_iff_toInt_le.mpr z)
            refine ok_bd.mpr ?_
            try unfold fX10_pictures
            refine ok_gd.mpr ⟨gb_of (by omega) (by omega), ?_⟩
            refine ok_nm2 (fun v1_155 ev1_155 => ?_)
            have f27 : 0 ≤ (σ1_125.1 15 7).toInt ∧ (σ1_125.1 15 7).toInt ≤ 12 := hIσ1_125 15 7
            have qv1_155 : v1_155.toInt = (σ1_125.1 15 7).toInt := congrArg Int32.toInt ev1_155
            refine ok_some.mpr ?_
            refine ok_ite.mpr ⟨fun h_28 => ?_, fun h_28 => ?_⟩
            · have g29 : v1_155.toInt = (0 : Int32).toInt := by rw [h_28]
              refine ok_nm2 (fun x34_148_154_156 ex34_148_154_156 => ?_)
              have qx34_148_154_156 : x34_148_154_156.toInt = -1 := by rw [ex34_148_154_156]; decide
              refine ok_nm2 (fun x35_148_154_156 ex35_148_154_156 => ?_)
              have qx35_148_154_156 : x35_148_154_156.toInt = 0 := by rw [ex35_148_154_156]; decide
              have xl157 := nSt_le σ1_125
              refine ok_lpc (I := fun n s => n = (3 + 1 - s.1.toInt).toNat ∧ JM s.2 ∧ Fr fr_fX10_starts σ s.2 ∧ 0 ≤ s.1.toInt ∧ s.1.toInt ≤ 3) (fun rec161_157r n_157 s_157 hs_157 hrec_157 => ?_) K9 ((3 + 1 - x35_148_154_156.toInt).toNat) (x35_148_154_156, σ1_125) ⟨rfl, hIσ1_125, hfσ1_125, (show 0 ≤ x35_148_154_156.toInt by omega), (show x35_148_154_156.toInt ≤ 3 by omega)⟩ (by unfold K9; omega)
              obtain ⟨a4_157, σ1_157⟩ := s_157
              obtain ⟨hn_157, hIσ1_157, hfσ1_157, b0a4_157, b1a4_157⟩ := hs_157
              dsimp only at hn_157 hIσ1_157 hfσ1_157 b0a4_157 b1a4_157
              unfold bX10_starts_161
              try dsimp only
              refine ok_ite.mpr ⟨fun h_30 => ?_, fun h_30 => ?_⟩
              · have f31 : (2 : Int32).toInt = 2 := by decide
                have g32 : (2 : Int32).toInt ≤ a4_157.toInt := Int32.le_iff_toInt_le.mp h_30
                refine ok_nm2 (fun x26_158 ex26_158 => ?_)
                have f33 : (1 : Int32).toInt = 1 := by decide
                have f34 : (a2_125 + (1 : Int32)).toInt = a2_125.toInt + (1 : Int32).toInt := iadd_toInt (by omega) (by omega)
                have qx26_158 : x26_158.toInt = (a2_125 + 1).toInt := congrArg Int32.toInt ex26_158
                exact hrec_125 _ (x26_158, σ1_157) (show (20 + 1 - x26_158.toInt).toNat < n_125 by omega) ⟨rfl, hIσ1_157, hfσ1_157, (show 0 ≤ x26_158.toInt by omega), (show x26_158.toInt ≤ 20 by omega)⟩
              · have f35 : (2 : Int32).toInt = 2 := by decide
                have g36 : ¬ (2 : Int32).toInt ≤ a4_157.toInt := fun z => h_30 (Int32.le_iff_toInt_le.mpr z)
                refine ok_ite.mpr ⟨fun h_37 => ?_, fun h_37 => ?_⟩
                · have g38 : x34_148_154_156.toInt = (-1 : Int32).toInt := by rw [h_37]
                  have f39 : (38 : Int32).toInt = 38 := by decide
                  have f40 : ((38 : Int32) * a4_157).toInt = 38 * a4_157.toInt := imulc (by decide) (by omega) (by omega)
                  have f41 : ((38 * a4_157) + (12 : Int32)).toInt = (38 * a4_157).toInt + (12 : Int32).toInt := iadd_toInt (by omega) (by omega)
                  have f42 : (((38 * a4_157) + 12) + a2_125).toInt = ((38 * a4_157) + 12).toInt + a2_125.toInt := iadd_toInt (by omega) (by omega)
                  refine ok_gd.mpr ⟨gb_of (by omega) (by omega), ?_⟩
                  refine ok_nm2 (fun σ32_158 eσ32_158 => ?_)
                  have hIσ32_158 : JM σ32_158 := by rw [eσ32_158]; exact JM_w hIσ1_157 (Int32.le_toInt _) (Int32.toInt_le _)
                  have hfσ32_158 : Fr fr_fX10_starts σ σ32_158 := by rw [eσ32_158]; exact Fr_w0 hfσ1_157 (by decide)
                  have x43 : nSt σ32_158 = nSt σ1_157 := by rw [eσ32_158]; rfl
                  refine ok_nm2 (fun x33_158 ex33_158 => ?_)
                  have f44 : (1 : Int32).toInt = 1 := by decide
                  have f45 : (a4_157 + (1 : Int32)).toInt = a4_157.toInt + (1 : Int32).toInt := iadd_toInt (by omega) (by omega)
                  have qx33_158 : x33_158.toInt = (a4_157 + 1).toInt := congrArg Int32.toInt ex33_158
                  exact hrec_157 _ (x33_158, σ32_158) (show (3 + 1 - x33_158.toInt).toNat < n_157 by omega) ⟨rfl, hIσ32_158, hfσ32_158, (show 0 ≤ x33_158.toInt by omega), (show x33_158.toInt ≤ 3 by omega)⟩
                · have g46 : x34_148_154_156.toInt ≠ (-1 : Int32).toInt := fun z => h_37 (Int32.toInt_inj.mp z)
                  exfalso
                  omega
            · have g47 : v1_155.toInt ≠ (0 : Int32).toInt := fun z => h_28 (Int32.toInt_inj.mp z)
              refine ok_bd.mpr ((o_fX10_startedRow hIσ1_125 (p1 := a2_125) ).mono (fun r22_148_154_156 ho_49 => ?_))
              obtain ⟨r0r22_148_154_156, r1r22_148_154_156⟩ := ho_49
              refine ok_nm.mpr ?_
              refine ok_nm2 (fun x24_148_154_156_159 ex24_148_154_156_159 => ?_)
              have qx24_148_154_156_159 : x24_148_154_156_159.toInt = 0 := by rw [ex24_148_154_156_159]; decide
              have xl160 := nSt_le σ1_125
              refine ok_lpc (I := fun n s => n = (3 + 1 - s.1.toInt).toNat ∧ JM s.2 ∧ Fr fr_fX10_starts σ s.2 ∧ 0 ≤ s.1.toInt ∧ s.1.toInt ≤ 3) (fun rec161_160r n_160 s_160 hs_160 hrec_160 => ?_) K9 ((3 + 1 - x24_148_154_156_159.toInt).toNat) (x24_148_154_156_159, σ1_125) ⟨rfl, hIσ1_125, hfσ1_125, (show 0 ≤ x24_148_154_156_159.toInt by omega), (show x24_148_154_156_159.toInt ≤ 3 by omega)⟩ (by unfold K9; omega)
              obtain ⟨a4_160, σ1_160⟩ := s_160
              obtain ⟨hn_160, hIσ1_160, hfσ1_160, b0a4_160, b1a4_160⟩ := hs_160
              dsimp only at hn_160 hIσ1_160 hfσ1_160 b0a4_160 b1a4_160
              unfold bX10_starts_161
              try dsimp only
              refine ok_ite.mpr ⟨fun h_50 => ?_, fun h_50 => ?_⟩
              · have f51 : (2 : Int32).toInt = 2 := by decide
                have g52 : (2 : Int32).toInt ≤ a4_160.toInt := Int32.le_iff_toInt_le.mp h_50
                refine ok_nm2 (fun x26_161 ex26_161 => ?_)
                have f53 : (1 : Int32).toInt = 1 := by decide
                have f54 : (a2_125 + (1 : Int32)).toInt = a2_125.toInt + (1 : Int32).toInt := iadd_toInt (by omega) (by omega)
                have qx26_161 : x26_161.toInt = (a2_125 + 1).toInt := congrArg Int32.toInt ex26_161
                exact hrec_125 _ (x26_161, σ1_160) (show (20 + 1 - x26_161.toInt).toNat < n_125 by omega) ⟨rfl, hIσ1_160, hfσ1_160, (show 0 ≤ x26_161.toInt by omega), (show x26_161.toInt ≤ 20 by omega)⟩
              · have f55 : (2 : Int32).toInt = 2 := by decide
                have g56 : ¬ (2 : Int32).toInt ≤ a4_160.toInt := fun z => h_50 (Int32.le_iff_toInt_le.mpr z)
                refine ok_ite.mpr ⟨fun h_57 => ?_, fun h_57 => ?_⟩
                · have g58 : r22_148_154_156.toInt = (-1 : Int32).toInt := by rw [h_57]
                  have f59 : (38 : Int32).toInt = 38 := by decide
                  have f60 : ((38 : Int32) * a4_160).toInt = 38 * a4_160.toInt := imulc (by decide) (by omega) (by omega)
                  have f61 : ((38 * a4_160) + (12 : Int32)).toInt = (38 * a4_160).toInt + (12 : Int32).toInt := iadd_toInt (by omega) (by omega)
                  have f62 : (((38 * a4_160) + 12) + a2_125).toInt = ((38 * a4_160) + 12).toInt + a2_125.toInt := iadd_toInt (by omega) (by omega)
                  refine ok_gd.mpr ⟨gb_of (by omega) (by omega), ?_⟩
                  refine ok_nm2 (fun σ32_161 eσ32_161 => ?_)
                  have hIσ32_161 : JM σ32_161 := by rw [eσ32_161]; exact JM_w hIσ1_160 (Int32.le_toInt _) (Int32.toInt_le _)
                  have hfσ32_161 : Fr fr_fX10_starts σ σ32_161 := by rw [eσ32_161]; exact Fr_w0 hfσ1_160 (by decide)
                  have x63 : nSt σ32_161 = nSt σ1_160 := by rw [eσ32_161]; rfl
                  refine ok_nm2 (fun x33_161 ex33_161 => ?_)
                  have f64 : (1 : Int32).toInt = 1 := by decide
                  have f65 : (a4_160 + (1 : Int32)).toInt = a4_160.toInt + (1 : Int32).toInt := iadd_toInt (by omega) (by omega)
                  have qx33_161 : x33_161.toInt = (a4_160 + 1).toInt := congrArg Int32.toInt ex33_161
                  exact hrec_160 _ (x33_161, σ32_161) (show (3 + 1 - x33_161.toInt).toNat < n_160 by omega) ⟨rfl, hIσ32_161, hfσ32_161, (show 0 ≤ x33_161.toInt by omega), (show x33_161.toInt ≤ 3 by omega)⟩
                · have g66 : r22_148_154_156.toInt ≠ (-1 : Int32).toInt := fun z => h_57 (Int32.toInt_inj.mp z)
                  refine ok_bd.mpr ((o_fX10_put hIσ1_160 (p1 := r22_148_154_156) (p2 := a4_160) (by omega) (by omega) (by omega) (by omega)).mono (fun r29_161 ho_68 => ?_))
                  have f69 : (38 : Int32).toInt = 38 := by decide
                  have f70 : ((38 : Int32) * a4_160).toInt = 38 * a4_160.toInt := imulc (by decide) (by omega) (by omega)
                  have f71 : ((38 * a4_160) + (12 : Int32)).toInt = (38 * a4_160).toInt + (12 : Int32).toInt := iadd_toInt (by omega) (by omega)
                  have f72 : (((38 * a4_160) + 12) + a2_125).toInt = ((38 * a4_160) + 12).toInt + a2_125.toInt := iadd_toInt (by omega) (by omega)
                  refine ok_gd.mpr ⟨gb_of (by omega) (by omega), ?_⟩
                  refine ok_nm2 (fun σ30_161 eσ30_161 => ?_)
                  have hIσ30_161 : JM σ30_161 := by rw [eσ30_161]; exact JM_w hIσ1_160 (Int32.le_toInt _) (Int32.toInt_le _)
                  have hfσ30_161 : Fr fr_fX10_starts σ σ30_161 := by rw [eσ30_161]; exact Fr_w0 hfσ1_160 (by decide)
                  have x73 : nSt σ30_161 = nSt σ1_160 := by rw [eσ30_161]; rfl
                  refine ok_nm2 (fun x31_161 ex31_161 => ?_)
                  have f74 : (1 : Int32).toInt = 1 := by decide
                  have f75 : (a4_160 + (1 : Int32)).toInt = a4_160.toInt + (1 : Int32).toInt := iadd_toInt (by omega) (by omega)
                  have qx31_161 : x31_161.toInt = (a4_160 + 1).toInt := congrArg Int32.toInt ex31_161
                  exact hrec_160 _ (x31_161, σ30_161) (show (3 + 1 - x31_161.toInt).toNat < n_160 by omega) ⟨rfl, hIσ30_161, hfσ30_161, (show 0 ≤ x31_161.toInt by omega), (show x31_161.toInt ≤ 3 by omega)⟩
        · have f76 : (-1 : Int32).toInt = -1 := by decide
          have g77 : r10_124.toInt ≠ (-1 : Int32).toInt := fun z => h_16 (Int32.toInt_inj.mp z)
          refine ok_bd.mpr ((o_fX10_nextStarted hIσ1_101  ).mono (fun r37_124 ho_79 => ?_))
          obtain ⟨r0r37_124, r1r37_124, hp_80, hp_81⟩ := ho_79
          refine ok_nm.mpr ?_
          refine ok_ite.mpr ⟨fun h_82 => ?_, fun h_82 => ?_⟩
          · have g83 : r37_124.toInt = (-1 : Int32).toInt := by rw [h_82]
            refine ok_bd.mpr ((o_fX10_firstNotStarted hIσ1_101  ).mono (fun r41_124_162 ho_85 => ?_))
            obtain ⟨r0r41_124_162, r1r41_124_162, hp_86, hp_87⟩ := ho_85
            refine ok_gd.mpr ⟨gb_of (by omega) (by omega), ?_⟩
            refine ok_nm2 (fun σ42_124_162 eσ42_124_162 => ?_)
            have f88 : (vp_nar .boolean 1).toInt = 1 := by decide
            have hIσ42_124_162 : JM σ42_124_162 := by rw [eσ42_124_162]; exact JM_w hIσ1_101 (Int32.le_toInt _) (Int32.toInt_le _)
            have hfσ42_124_162 : Fr fr_fX10_starts σ σ42_124_162 := by rw [eσ42_124_162]; exact Fr_w0 hfσ1_101 (by decide)
            have x89 : nSt σ42_124_162 = nSt (gsI σ1_101 29 r41_124_162.toNatClampNeg (vp_nar .boolean 1)) := by rw [eσ42_124_162]
            refine ok_nm2 (fun x43_124_162 ex43_124_162 => ?_)
            have f90 : (1 : Int32).toInt = 1 := by decide
            have qx43_124_162 : x43_124_162.toInt = (a1_101 + 1).toInt := congrArg Int32.toInt ex43_124_162
            exact hrec_101 _ (x43_124_162, σ42_124_162) (show nSt σ42_124_162 < n_101 by omega) ⟨(by dsimp only), hIσ42_124_162, hfσ42_124_162⟩
          · have g91 : r37_124.toInt ≠ (-1 : Int32).toInt := fun z => h_82 (Int32.toInt_inj.mp z)
            refine ok_bd.mpr ((o_fX10_startsBy hIσ1_101 (p1 := r37_124) (by omega) (by omega) (by first | assumption | exact hp_81 (by omega)) (by omega)).mono (fun σ45_124_162 ho_93 => ?_))
            obtain ⟨hIσ45_124_162, hcσ45_124_162, hp_94⟩ := ho_93
            have hfσ45_124_162 : Fr fr_fX10_starts σ σ45_124_162 := Fr_c hfσ1_101 hcσ45_124_162 (by decide)
            exact hrec_101 _ (a1_101, σ45_124_162) (show nSt σ45_124_162 < n_101 by omega) ⟨(by dsimp only), hIσ45_124_162, hfσ45_124_162⟩
      · have g95 : v1_99.toInt ≠ (0 : Int32).toInt := fun z => h_10 (Int32.toInt_inj.mp z)
        refine ok_nm2 (fun x8_96_100 ex8_96_100 => ?_)
        have f96 : (1 : Int32).toInt = 1 := by decide
        have qx8_96_100 : x8_96_100.toInt = 1 := by rw [ex8_96_100]; decide
        have xl163 := nSt_le σ1_49
        refine ok_lpc (I := fun n s => n = nSt s.2 ∧ JM s.2 ∧ Fr fr_fX10_starts σ s.2) (fun rec89_163r n_163 s_163 hs_163 hrec_163 => ?_) K9 (nSt σ1_49) (x8_96_100, σ1_49) ⟨(by dsimp only), hIσ1_49, hfσ1_49⟩ (by unfold K9; omega)
        obtain ⟨a1_163, σ1_163⟩ := s_163
        obtain ⟨hn_163, hIσ1_163, hfσ1_163⟩ := hs_163
        dsimp only at hn_163 hIσ1_163 hfσ1_163
        unfold bX10_starts_89
        try dsimp only
        refine ok_bd.mpr ((o_fX10_firstNotStarted hIσ1_163  ).mono (fun r10_186 ho_98 => ?_))
        obtain ⟨r0r10_186, r1r10_186, hp_99, hp_100⟩ := ho_98
        refine ok_ite.mpr ⟨fun h_101 => ?_, fun h_101 => ?_⟩
        · have f102 : (-1 : Int32).toInt = -1 := by decide
          have g103 : r10_186.toInt = (-1 : Int32).toInt := by rw [h_101]
          refine ok_nm2 (fun x12_186 ex12_186 => ?_)
          have qx12_186 : x12_186.toInt = 0 := by rw [ex12_186]; decide
          have xl187 := nSt_le σ1_163
          refine ok_lpc (I := fun n s => n = (20 + 1 - s.1.toInt).toNat ∧ JM s.2 ∧ Fr fr_fX10_starts σ s.2 ∧ 0 ≤ s.1.toInt ∧ s.1.toInt ≤ 20) (fun rec133_187r n_187 s_187 hs_187 hrec_187 => ?_) K9 ((20 + 1 - x12_186.toInt).toNat) (x12_186, σ1_163) ⟨rfl, hIσ1_163, hfσ1_163, (show 0 ≤ x12_186.toInt by omega), (show x12_186.toInt ≤ 20 by omega)⟩ (by unfold K9; omega)
          obtain ⟨a2_187, σ1_187⟩ := s_187
          obtain ⟨hn_187, hIσ1_187, hfσ1_187, b0a2_187, b1a2_187⟩ := hs_187
          dsimp only at hn_187 hIσ1_187 hfσ1_187 b0a2_187 b1a2_187
          unfold bX10_starts_133
          try dsimp only
          refine ok_bd.mpr ?_
          try unfold fX10_points
          have f104 : (8 : Int32).toInt = 8 := by decide
          refine ok_gd.mpr ⟨gb_of (by omega) (by omega), ?_⟩
          refine ok_nm2 (fun v1_215 ev1_215 => ?_)
          have f105 : 0 ≤ (σ1_187.1 15 8).toInt ∧ (σ1_187.1 15 8).toInt ≤ 20 := hIσ1_187 15 8
          have qv1_215 : v1_215.toInt = (σ1_187.1 15 8).toInt := congrArg Int32.toInt ev1_215
          refine ok_some.mpr ?_
          refine ok_ite.mpr ⟨fun h_106 => ?_, fun h_106 => ?_⟩
          · have g107 : v1_215.toInt ≤ a2_187.toInt := Int32.le_iff_toInt_le.mp h_106
            refine ok_bd.mpr ((o_fX10_standControls hIσ1_187  ).mono (fun σ17_210_216 ho_109 => ?_))
            obtain ⟨hIσ17_210_216, hcσ17_210_216⟩ := ho_109
            have hfσ17_210_216 : Fr fr_fX10_starts σ σ17_210_216 := Fr_c hfσ1_187 hcσ17_210_216 (by decide)
            have x110 : nSt σ17_210_216 = nSt σ1_187 := nSt_fr hcσ17_210_216 (by decide) (by intro i; simp [fr_fX10_standControls])
            refine ok_some.mpr ?_
            exact ⟨hIσ17_210_216, hfσ17_210_216⟩
          · have g111 : ¬ v1_215.toInt ≤ a2_187.toInt := fun z => h_106 (Int32.le_iff_toInt_le.mpr z)
            refine ok_bd.mpr ?_
            try unfold fX10_pictures
            refine ok_gd.mpr ⟨gb_of (by omega) (by omega), ?_⟩
            refine ok_nm2 (fun v1_217 ev1_217 => ?_)
            have f112 : 0 ≤ (σ1_187.1 15 7).toInt ∧ (σ1_187.1 15 7).toInt ≤ 12 := hIσ1_187 15 7
            have qv1_217 : v1_217.toInt = (σ1_187.1 15 7).toInt := congrArg Int32.toInt ev1_217
            refine ok_some.mpr ?_
            refine ok_ite.mpr ⟨fun h_113 => ?_, fun h_113 => ?_⟩
            · have g114 : v1_217.toInt = (0 : Int32).toInt := by rw [h_113]
              refine ok_nm2 (fun x34_210_216_218 ex34_210_216_218 => ?_)
              have qx34_210_216_218 : x34_210_216_218.toInt = -1 := by rw [ex34_210_216_218]; decide
              refine ok_nm2 (fun x35_210_216_218 ex35_210_216_218 => ?_)
              have qx35_210_216_218 : x35_210_216_218.toInt = 0 := by rw [ex35_210_216_218]; decide
              have xl219 := nSt_le σ1_187
              refine ok_lpc (I := fun n s => n = (3 + 1 - s.1.toInt).toNat ∧ JM s.2 ∧ Fr fr_fX10_starts σ s.2 ∧ 0 ≤ s.1.toInt ∧ s.1.toInt ≤ 3) (fun rec161_219r n_219 s_219 hs_219 hrec_219 => ?_) K9 ((3 + 1 - x35_210_216_218.toInt).toNat) (x35_210_216_218, σ1_187) ⟨rfl, hIσ1_187, hfσ1_187, (show 0 ≤ x35_210_216_218.toInt by omega), (show x35_210_216_218.toInt ≤ 3 by omega)⟩ (by unfold K9; omega)
              obtain ⟨a4_219, σ1_219⟩ := s_219
              obtain ⟨hn_219, hIσ1_219, hfσ1_219, b0a4_219, b1a4_219⟩ := hs_219
              dsimp only at hn_219 hIσ1_219 hfσ1_219 b0a4_219 b1a4_219
              unfold bX10_starts_161
              try dsimp only
              refine ok_ite.mpr ⟨fun h_115 => ?_, fun h_115 => ?_⟩
              · have f116 : (2 : Int32).toInt = 2 := by decide
                have g117 : (2 : Int32).toInt ≤ a4_219.toInt := Int32.le_iff_toInt_le.mp h_115
                refine ok_nm2 (fun x26_220 ex26_220 => ?_)
                have f118 : (a2_187 + (1 : Int32)).toInt = a2_187.toInt + (1 : Int32).toInt := iadd_toInt (by omega) (by omega)
                have qx26_220 : x26_220.toInt = (a2_187 + 1).toInt := congrArg Int32.toInt ex26_220
                exact hrec_187 _ (x26_220, σ1_219) (show (20 + 1 - x26_220.toInt).toNat < n_187 by omega) ⟨rfl, hIσ1_219, hfσ1_219, (show 0 ≤ x26_220.toInt by omega), (show x26_220.toInt ≤ 20 by omega)⟩
              · have f119 : (2 : Int32).toInt = 2 := by decide
                have g120 : ¬ (2 : Int32).toInt ≤ a4_219.toInt := fun z => h_115 (Int32.le_iff_toInt_le.mpr z)
                refine ok_ite.mpr ⟨fun h_121 => ?_, fun h_121 => ?_⟩
                · have g122 : x34_210_216_218.toInt = (-1 : Int32).toInt := by rw [h_121]
                  have f123 : (38 : Int32).toInt = 38 := by decide
                  have f124 : ((38 : Int32) * a4_219).toInt = 38 * a4_219.toInt := imulc (by decide) (by omega) (by omega)
                  have f125 : ((38 * a4_219) + (12 : Int32)).toInt = (38 * a4_219).toInt + (12 : Int32).toInt := iadd_toInt (by omega) (by omega)
                  have f126 : (((38 * a4_219) + 12) + a2_187).toInt = ((38 * a4_219) + 12).toInt + a2_187.toInt := iadd_toInt (by omega) (by omega)
                  refine ok_gd.mpr ⟨gb_of (by omega) (by omega), ?_⟩
                  refine ok_nm2 (fun σ32_220 eσ32_220 => ?_)
                  have hIσ32_220 : JM σ32_220 := by rw [eσ32_220]; exact JM_w hIσ1_219 (Int32.le_toInt _) (Int32.toInt_le _)
                  have hfσ32_220 : Fr fr_fX10_starts σ σ32_220 := by rw [eσ32_220]; exact Fr_w0 hfσ1_219 (by decide)
                  have x127 : nSt σ32_220 = nSt σ1_219 := by rw [eσ32_220]; rfl
                  refine ok_nm2 (fun x33_220 ex33_220 => ?_)
                  have f128 : (a4_219 + (1 : Int32)).toInt = a4_219.toInt + (1 : Int32).toInt := iadd_toInt (by omega) (by omega)
                  have qx33_220 : x33_220.toInt = (a4_219 + 1).toInt := congrArg Int32.toInt ex33_220
                  exact hrec_219 _ (x33_220, σ32_220) (show (3 + 1 - x33_220.toInt).toNat < n_219 by omega) ⟨rfl, hIσ32_220, hfσ32_220, (show 0 ≤ x33_220.toInt by omega), (show x33_220.toInt ≤ 3 by omega)⟩
                · have g129 : x34_210_216_218.toInt ≠ (-1 : Int32).toInt := fun z => h_121 (Int32.toInt_inj.mp z)
                  exfalso
                  omega
            · have g130 : v1_217.toInt ≠ (0 : Int32).toInt := fun z => h_113 (Int32.toInt_inj.mp z)
              refine ok_bd.mpr ((o_fX10_startedRow hIσ1_187 (p1 := a2_187) ).mono (fun r22_210_216_218 ho_132 => ?_))
              obtain ⟨r0r22_210_216_218, r1r22_210_216_218⟩ := ho_132
              refine ok_nm.mpr ?_
              refine ok_nm2 (fun x24_210_216_218_221 ex24_210_216_218_221 => ?_)
              have qx24_210_216_218_221 : x24_210_216_218_221.toInt = 0 := by rw [ex24_210_216_218_221]; decide
              have xl222 := nSt_le σ1_187
              refine ok_lpc (I := fun n s => n = (3 + 1 - s.1.toInt).toNat ∧ JM s.2 ∧ Fr fr_fX10_starts σ s.2 ∧ 0 ≤ s.1.toInt ∧ s.1.toInt ≤ 3) (fun rec161_222r n_222 s_222 hs_222 hrec_222 => ?_) K9 ((3 + 1 - x24_210_216_218_221.toInt).toNat) (x24_210_216_218_221, σ1_187) ⟨rfl, hIσ1_187, hfσ1_187, (show 0 ≤ x24_210_216_218_221.toInt by omega), (show x24_210_216_218_221.toInt ≤ 3 by omega)⟩ (by unfold K9; omega)
              obtain ⟨a4_222, σ1_222⟩ := s_222
              obtain ⟨hn_222, hIσ1_222, hfσ1_222, b0a4_222, b1a4_222⟩ := hs_222
              dsimp only at hn_222 hIσ1_222 hfσ1_222 b0a4_222 b1a4_222
              unfold bX10_starts_161
              try dsimp only
              refine ok_ite.mpr ⟨fun h_133 => ?_, fun h_133 => ?_⟩
              · have f134 : (2 : Int32).toInt = 2 := by decide
                have g135 : (2 : Int32).toInt ≤ a4_222.toInt := Int32.le_iff_toInt_le.mp h_133
                refine ok_nm2 (fun x26_223 ex26_223 => ?_)
                have f136 : (a2_187 + (1 : Int32)).toInt = a2_187.toInt + (1 : Int32).toInt := iadd_toInt (by omega) (by omega)
                have qx26_223 : x26_223.toInt = (a2_187 + 1).toInt := congrArg Int32.toInt ex26_223
                exact hrec_187 _ (x26_223, σ1_222) (show (20 + 1 - x26_223.toInt).toNat < n_187 by omega) ⟨rfl, hIσ1_222, hfσ1_222, (show 0 ≤ x26_223.toInt by omega), (show x26_223.toInt ≤ 20 by omega)⟩
              · have f137 : (2 : Int32).toInt = 2 := by decide
                have g138 : ¬ (2 : Int32).toInt ≤ a4_222.toInt := fun z => h_133 (Int32.le_iff_toInt_le.mpr z)
                refine ok_ite.mpr ⟨fun h_139 => ?_, fun h_139 => ?_⟩
                · have g140 : r22_210_216_218.toInt = (-1 : Int32).toInt := by rw [h_139]
                  have f141 : (38 : Int32).toInt = 38 := by decide
                  have f142 : ((38 : Int32) * a4_222).toInt = 38 * a4_222.toInt := imulc (by decide) (by omega) (by omega)
                  have f143 : ((38 * a4_222) + (12 : Int32)).toInt = (38 * a4_222).toInt + (12 : Int32).toInt := iadd_toInt (by omega) (by omega)
                  have f144 : (((38 * a4_222) + 12) + a2_187).toInt = ((38 * a4_222) + 12).toInt + a2_187.toInt := iadd_toInt (by omega) (by omega)
                  refine ok_gd.mpr ⟨gb_of (by omega) (by omega), ?_⟩
                  refine ok_nm2 (fun σ32_223 eσ32_223 => ?_)
                  have hIσ32_223 : JM σ32_223 := by rw [eσ32_223]; exact JM_w hIσ1_222 (Int32.le_toInt _) (Int32.toInt_le _)
                  have hfσ32_223 : Fr fr_fX10_starts σ σ32_223 := by rw [eσ32_223]; exact Fr_w0 hfσ1_222 (by decide)
                  have x145 : nSt σ32_223 = nSt σ1_222 := by rw [eσ32_223]; rfl
                  refine ok_nm2 (fun x33_223 ex33_223 => ?_)
                  have f146 : (a4_222 + (1 : Int32)).toInt = a4_222.toInt + (1 : Int32).toInt := iadd_toInt (by omega) (by omega)
                  have qx33_223 : x33_223.toInt = (a4_222 + 1).toInt := congrArg Int32.toInt ex33_223
                  exact hrec_222 _ (x33_223, σ32_223) (show (3 + 1 - x33_223.toInt).toNat < n_222 by omega) ⟨rfl, hIσ32_223, hfσ32_223, (show 0 ≤ x33_223.toInt by omega), (show x33_223.toInt ≤ 3 by omega)⟩
                · have g147 : r22_210_216_218.toInt ≠ (-1 : Int32).toInt := fun z => h_139 (Int32.toInt_inj.mp z)
                  refine ok_bd.mpr ((o_fX10_put hIσ1_222 (p1 := r22_210_216_218) (p2 := a4_222) (by omega) (by omega) (by omega) (by omega)).mono (fun r29_223 ho_149 => ?_))
                  have f150 : (38 : Int32).toInt = 38 := by decide
                  have f151 : ((38 : Int32) * a4_222).toInt = 38 * a4_222.toInt := imulc (by decide) (by omega) (by omega)
                  have f152 : ((38 * a4_222) + (12 : Int32)).toInt = (38 * a4_222).toInt + (12 : Int32).toInt := iadd_toInt (by omega) (by omega)
                  have f153 : (((38 * a4_222) + 12) + a2_187).toInt = ((38 * a4_222) + 12).toInt + a2_187.toInt := iadd_toInt (by omega) (by omega)
                  refine ok_gd.mpr ⟨gb_of (by omega) (by omega), ?_⟩
                  refine ok_nm2 (fun σ30_223 eσ30_223 => ?_)
                  have hIσ30_223 : JM σ30_223 := by rw [eσ30_223]; exact JM_w hIσ1_222 (Int32.le_toInt _) (Int32.toInt_le _)
                  have hfσ30_223 : Fr fr_fX10_starts σ σ30_223 := by rw [eσ30_223]; exact Fr_w0 hfσ1_222 (by decide)
                  have x154 : nSt σ30_223 = nSt σ1_222 := by rw [eσ30_223]; rfl
                  refine ok_nm2 (fun x31_223 ex31_223 => ?_)
                  have f155 : (a4_222 + (1 : Int32)).toInt = a4_222.toInt + (1 : Int32).toInt := iadd_toInt (by omega) (by omega)
                  have qx31_223 : x31_223.toInt = (a4_222 + 1).toInt := congrArg Int32.toInt ex31_223
                  exact hrec_222 _ (x31_223, σ30_223) (show (3 + 1 - x31_223.toInt).toNat < n_222 by omega) ⟨rfl, hIσ30_223, hfσ30_223, (show 0 ≤ x31_223.toInt by omega), (show x31_223.toInt ≤ 3 by omega)⟩
        · have f156 : (-1 : Int32).toInt = -1 := by decide
          have g157 : r10_186.toInt ≠ (-1 : Int32).toInt := fun z => h_101 (Int32.toInt_inj.mp z)
          refine ok_bd.mpr ((o_fX10_nextStarted hIσ1_163  ).mono (fun r37_186 ho_159 => ?_))
          obtain ⟨r0r37_186, r1r37_186, hp_160, hp_161⟩ := ho_159
          refine ok_nm.mpr ?_
          refine ok_ite.mpr ⟨fun h_162 => ?_, fun h_162 => ?_⟩
          · have g163 : r37_186.toInt = (-1 : Int32).toInt := by rw [h_162]
            refine ok_bd.mpr ((o_fX10_firstNotStarted hIσ1_163  ).mono (fun r41_186_224 ho_165 => ?_))
            obtain ⟨r0r41_186_224, r1r41_186_224, hp_166, hp_167⟩ := ho_165
            refine ok_gd.mpr ⟨gb_of (by omega) (by omega), ?_⟩
            refine ok_nm2 (fun σ42_186_224 eσ42_186_224 => ?_)
            have f168 : (vp_nar .boolean 1).toInt = 1 := by decide
            have hIσ42_186_224 : JM σ42_186_224 := by rw [eσ42_186_224]; exact JM_w hIσ1_163 (Int32.le_toInt _) (Int32.toInt_le _)
            have hfσ42_186_224 : Fr fr_fX10_starts σ σ42_186_224 := by rw [eσ42_186_224]; exact Fr_w0 hfσ1_163 (by decide)
            have x169 : nSt σ42_186_224 = nSt (gsI σ1_163 29 r41_186_224.toNatClampNeg (vp_nar .boolean 1)) := by rw [eσ42_186_224]
            refine ok_nm2 (fun x43_186_224 ex43_186_224 => ?_)
            have qx43_186_224 : x43_186_224.toInt = (a1_163 + 1).toInt := congrArg Int32.toInt ex43_186_224
            exact hrec_163 _ (x43_186_224, σ42_186_224) (show nSt σ42_186_224 < n_163 by omega) ⟨(by dsimp only), hIσ42_186_224, hfσ42_186_224⟩
          · have g170 : r37_186.toInt ≠ (-1 : Int32).toInt := fun z => h_162 (Int32.toInt_inj.mp z)
            refine ok_bd.mpr ((o_fX10_startsBy hIσ1_163 (p1 := r37_186) (by omega) (by omega) (by first | assumption | exact hp_161 (by omega)) (by omega)).mono (fun σ45_186_224 ho_172 => ?_))
            obtain ⟨hIσ45_186_224, hcσ45_186_224, hp_173⟩ := ho_172
            have hfσ45_186_224 : Fr fr_fX10_starts σ σ45_186_224 := Fr_c hfσ1_163 hcσ45_186_224 (by decide)
            exact hrec_163 _ (a1_163, σ45_186_224) (show nSt σ45_186_224 < n_163 by omega) ⟨(by dsimp only), hIσ45_186_224, hfσ45_186_224⟩
    · have f174 : (12 : Int32).toInt = 12 := by decide
      have g175 : ¬ (12 : Int32).toInt ≤ a1_49.toInt := fun z => h_5 (Int32.le_iff_toInt_le.mpr z)
      have f176 : ((12 : Int32) + a1_49).toInt = (12 : Int32).toInt + a1_49.toInt := iadd_toInt (by omega) (by omega)
      refine ok_gd.mpr ⟨gb_of (by omega) (by omega), ?_⟩
      refine ok_nm2 (fun v47_96 ev47_96 => ?_)
      have qv47_96 : v47_96.toInt = (σ1_49.1 17 (12 + a1_49).toNatClampNeg).toInt := congrArg Int32.toInt ev47_96
      refine ok_nm.mpr ?_
      refine ok_ite.mpr ⟨fun h_177 => ?_, fun h_177 => ?_⟩
      · have f178 : (4 : Int32).toInt = 4 := by decide
        have g179 : v47_96.toInt = (4 : Int32).toInt := by rw [h_177]
        try unfold jX10_starts_54
        refine ok_gd.mpr ⟨gb_of (by omega) (by omega), ?_⟩
        refine ok_nm2 (fun σ50_226 eσ50_226 => ?_)
        have hIσ50_226 : JM σ50_226 := by rw [eσ50_226]; exact JM_w hIσ1_49 (Int32.le_toInt _) (Int32.toInt_le _)
        have hfσ50_226 : Fr fr_fX10_starts σ σ50_226 := by rw [eσ50_226]; exact Fr_w0 hfσ1_49 (by decide)
        have x180 : nSt σ50_226 = nSt σ1_49 := by rw [eσ50_226]; rfl
        refine ok_ite.mpr ⟨fun h_181 => ?_, fun h_181 => ?_⟩
        · have g182 : a1_49.toInt = (0 : Int32).toInt := by rw [h_181]
          refine ok_gd.mpr ⟨gb_of (by omega) (by omega), ?_⟩
          refine ok_nm2 (fun σ54_226 eσ54_226 => ?_)
          have f183 : (vp_nar .boolean 1).toInt = 1 := by decide
          have hIσ54_226 : JM σ54_226 := by rw [eσ54_226]; exact JM_w hIσ50_226 (Int32.le_toInt _) (Int32.toInt_le _)
          have hfσ54_226 : Fr fr_fX10_starts σ σ54_226 := by rw [eσ54_226]; exact Fr_w0 hfσ50_226 (by decide)
          have x184 : nSt σ54_226 = nSt (gsI σ50_226 29 a1_49.toNatClampNeg (vp_nar .boolean 1)) := by rw [eσ54_226]
          refine ok_nm2 (fun x55_226 ex55_226 => ?_)
          have f185 : (1 : Int32).toInt = 1 := by decide
          have f186 : (a1_49 + (1 : Int32)).toInt = a1_49.toInt + (1 : Int32).toInt := iadd_toInt (by omega) (by omega)
          have qx55_226 : x55_226.toInt = (a1_49 + 1).toInt := congrArg Int32.toInt ex55_226
          exact hrec_49 _ (x55_226, σ54_226) (show (12 + 1 - x55_226.toInt).toNat < n_49 by omega) ⟨rfl, hIσ54_226, hfσ54_226, (show 0 ≤ x55_226.toInt by omega), (show x55_226.toInt ≤ 12 by omega)⟩
        · have g187 : a1_49.toInt ≠ (0 : Int32).toInt := fun z => h_181 (Int32.toInt_inj.mp z)
          refine ok_gd.mpr ⟨gb_of (by omega) (by omega), ?_⟩
          refine ok_nm2 (fun σ52_226 eσ52_226 => ?_)
          have f188 : (vp_nar .boolean 0).toInt = 0 := by decide
          have hIσ52_226 : JM σ52_226 := by rw [eσ52_226]; exact JM_w hIσ50_226 (Int32.le_toInt _) (Int32.toInt_le _)
          have hfσ52_226 : Fr fr_fX10_starts σ σ52_226 := by rw [eσ52_226]; exact Fr_w0 hfσ50_226 (by decide)
          have x189 : nSt σ52_226 = nSt (gsI σ50_226 29 a1_49.toNatClampNeg (vp_nar .boolean 0)) := by rw [eσ52_226]
          refine ok_nm2 (fun x53_226 ex53_226 => ?_)
          have f190 : (1 : Int32).toInt = 1 := by decide
          have f191 : (a1_49 + (1 : Int32)).toInt = a1_49.toInt + (1 : Int32).toInt := iadd_toInt (by omega) (by omega)
          have qx53_226 : x53_226.toInt = (a1_49 + 1).toInt := congrArg Int32.toInt ex53_226
          exact hrec_49 _ (x53_226, σ52_226) (show (12 + 1 - x53_226.toInt).toNat < n_49 by omega) ⟨rfl, hIσ52_226, hfσ52_226, (show 0 ≤ x53_226.toInt by omega), (show x53_226.toInt ≤ 12 by omega)⟩
      · have f192 : (4 : Int32).toInt = 4 := by decide
        have g193 : v47_96.toInt ≠ (4 : Int32).toInt := fun z => h_177 (Int32.toInt_inj.mp z)
        try unfold jX10_starts_54
        refine ok_gd.mpr ⟨gb_of (by omega) (by omega), ?_⟩
        refine ok_nm2 (fun σ50_227 eσ50_227 => ?_)
        have hIσ50_227 : JM σ50_227 := by rw [eσ50_227]; exact JM_w hIσ1_49 (Int32.le_toInt _) (Int32.toInt_le _)
        have hfσ50_227 : Fr fr_fX10_starts σ σ50_227 := by rw [eσ50_227]; exact Fr_w0 hfσ1_49 (by decide)
        have x194 : nSt σ50_227 = nSt σ1_49 := by rw [eσ50_227]; rfl
        refine ok_ite.mpr ⟨fun h_195 => ?_, fun h_195 => ?_⟩
        · have g196 : a1_49.toInt = (0 : Int32).toInt := by rw [h_195]
          refine ok_gd.mpr ⟨gb_of (by omega) (by omega), ?_⟩
          refine ok_nm2 (fun σ54_227 eσ54_227 => ?_)
          have f197 : (vp_nar .boolean 1).toInt = 1 := by decide
          have hIσ54_227 : JM σ54_227 := by rw [eσ54_227]; exact JM_w hIσ50_227 (Int32.le_toInt _) (Int32.toInt_le _)
          have hfσ54_227 : Fr fr_fX10_starts σ σ54_227 := by rw [eσ54_227]; exact Fr_w0 hfσ50_227 (by decide)
          have x198 : nSt σ54_227 = nSt (gsI σ50_227 29 a1_49.toNatClampNeg (vp_nar .boolean 1)) := by rw [eσ54_227]
          refine ok_nm2 (fun x55_227 ex55_227 => ?_)
          have f199 : (1 : Int32).toInt = 1 := by decide
          have f200 : (a1_49 + (1 : Int32)).toInt = a1_49.toInt + (1 : Int32).toInt := iadd_toInt (by omega) (by omega)
          have qx55_227 : x55_227.toInt = (a1_49 + 1).toInt := congrArg Int32.toInt ex55_227
          exact hrec_49 _ (x55_227, σ54_227) (show (12 + 1 - x55_227.toInt).toNat < n_49 by omega) ⟨rfl, hIσ54_227, hfσ54_227, (show 0 ≤ x55_227.toInt by omega), (show x55_227.toInt ≤ 12 by omega)⟩
        · have g201 : a1_49.toInt ≠ (0 : Int32).toInt := fun z => h_195 (Int32.toInt_inj.mp z)
          refine ok_gd.mpr ⟨gb_of (by omega) (by omega), ?_⟩
          refine ok_nm2 (fun σ52_227 eσ52_227 => ?_)
          have f202 : (vp_nar .boolean 0).toInt = 0 := by decide
          have hIσ52_227 : JM σ52_227 := by rw [eσ52_227]; exact JM_w hIσ50_227 (Int32.le_toInt _) (Int32.toInt_le _)
          have hfσ52_227 : Fr fr_fX10_starts σ σ52_227 := by rw [eσ52_227]; exact Fr_w0 hfσ50_227 (by decide)
          have x203 : nSt σ52_227 = nSt (gsI σ50_227 29 a1_49.toNatClampNeg (vp_nar .boolean 0)) := by rw [eσ52_227]
          refine ok_nm2 (fun x53_227 ex53_227 => ?_)
          have f204 : (1 : Int32).toInt = 1 := by decide
          have f205 : (a1_49 + (1 : Int32)).toInt = a1_49.toInt + (1 : Int32).toInt := iadd_toInt (by omega) (by omega)
          have qx53_227 : x53_227.toInt = (a1_49 + 1).toInt := congrArg Int32.toInt ex53_227
          exact hrec_49 _ (x53_227, σ52_227) (show (12 + 1 - x53_227.toInt).toNat < n_49 by omega) ⟨rfl, hIσ52_227, hfσ52_227, (show 0 ≤ x53_227.toInt by omega), (show x53_227.toInt ≤ 12 by omega)⟩
  · have f206 : (76 : Int32).toInt = 76 := by decide
    have g207 : ¬ (76 : Int32).toInt ≤ a1_1.toInt := fun z => h_2 (Int32.le_iff_toInt_le.mpr z)
    refine ok_gd.mpr ⟨gb_of (by omega) (by omega), ?_⟩
    refine ok_nm2 (fun σ56_48 eσ56_48 => ?_)
    have hIσ56_48 : JM σ56_48 := by rw [eσ56_48]; exact JM_w hIσ1_1 (Int32.le_toInt _) (Int32.toInt_le _)
    have hfσ56_48 : Fr fr_fX10_starts σ σ56_48 := by rw [eσ56_48]; exact Fr_w0 hfσ1_1 (by decide)
    have x208 : nSt σ56_48 = nSt σ1_1 := by rw [eσ56_48]; rfl
    refine ok_nm2 (fun x57_48 ex57_48 => ?_)
    have f209 : (1 : Int32).toInt = 1 := by decide
    have f210 : (a1_1 + (1 : Int32)).toInt = a1_1.toInt + (1 : Int32).toInt := iadd_toInt (by omega) (by omega)
    have qx57_48 : x57_48.toInt = (a1_1 + 1).toInt := congrArg Int32.toInt ex57_48
    exact hrec_1 _ (x57_48, σ56_48) (show (120 + 1 - x57_48.toInt).toNat < n_1 by omega) ⟨rfl, hIσ56_48, hfσ56_48, (show 0 ≤ x57_48.toInt by omega), (show x57_48.toInt ≤ 120 by omega)⟩
set_option maxRecDepth 20000 in
set_option maxHeartbeats 2000000 in
theorem o_fX10_stands {σ : gS} (hIσ : JM σ)   : Ok (fX10_stands σ ) (fun out => JM out ∧ Fr fr_fX10_stands σ out) := by
  unfold fX10_stands
  have hfσ : Fr fr_fX10_stands σ σ := Fr_r
  refine ok_nm2 (fun x1 ex1 => ?_)
  have f1 : (0 : Int32).toInt = 0 := by decide
  have qx1 : x1.toInt = 0 := by rw [ex1]; decide
  refine ok_lpc (I := fun n s => n = (6 + 1 - s.1.toInt).toNat ∧ JM s.2 ∧ Fr fr_fX10_stands σ s.2 ∧ 0 ≤ s.1.toInt ∧ s.1.toInt ≤ 6) (fun rec2_1r n_1 s_1 hs_1 hrec_1 => ?_) K9 ((6 + 1 - x1.toInt).toNat) (x1, σ) ⟨rfl, hIσ, hfσ, (show 0 ≤ x1.toInt by omega), (show x1.toInt ≤ 6 by omega)⟩ (by unfold K9; omega)
  obtain ⟨a1_1, σ1_1⟩ := s_1
  obtain ⟨hn_1, hIσ1_1, hfσ1_1, b0a1_1, b1a1_1⟩ := hs_1
  dsimp only at hn_1 hIσ1_1 hfσ1_1 b0a1_1 b1a1_1
  unfold bX10_stands_2
  try dsimp only
  refine ok_ite.mpr ⟨fun h_2 => ?_, fun h_2 => ?_⟩
  · have f3 : (6 : Int32).toInt = 6 := by decide
    have g4 : (6 : Int32).toInt ≤ a1_1.toInt := Int32.le_iff_toInt_le.mp h_2
    refine ok_nm2 (fun x3_2 ex3_2 => ?_)
    have qx3_2 : x3_2.toInt = 0 := by rw [ex3_2]; decide
    refine ok_lpc (I := fun n s => n = (60 + 1 - s.1.toInt).toNat ∧ JM s.2 ∧ Fr fr_fX10_stands σ s.2 ∧ 0 ≤ s.1.toInt ∧ s.1.toInt ≤ 60) (fun rec31_3r n_3 s_3 hs_3 hrec_3 => ?_) K9 ((60 + 1 - x3_2.toInt).toNat) (x3_2, σ1_1) ⟨rfl, hIσ1_1, hfσ1_1, (show 0 ≤ x3_2.toInt by omega), (show x3_2.toInt ≤ 60 by omega)⟩ (by unfold K9; omega)
    obtain ⟨a1_3, σ1_3⟩ := s_3
    obtain ⟨hn_3, hIσ1_3, hfσ1_3, b0a1_3, b1a1_3⟩ := hs_3
    dsimp only at hn_3 hIσ1_3 hfσ1_3 b0a1_3 b1a1_3
    unfold bX10_stands_31
    try dsimp only
    refine ok_ite.mpr ⟨fun h_5 => ?_, fun h_5 => ?_⟩
    · have f6 : (60 : Int32).toInt = 60 := by decide
      have g7 : (60 : Int32).toInt ≤ a1_3.toInt := Int32.le_iff_toInt_le.mp h_5
      refine ok_nm2 (fun x5_4 ex5_4 => ?_)
      have qx5_4 : x5_4.toInt = 0 := by rw [ex5_4]; decide
      refine ok_lpc (I := fun n s => n = (12 + 1 - s.1.toInt).toNat ∧ JM s.2 ∧ Fr fr_fX10_stands σ s.2 ∧ 0 ≤ s.1.toInt ∧ s.1.toInt ≤ 12) (fun rec60_5r n_5 s_5 hs_5 hrec_5 => ?_) K9 ((12 + 1 - x5_4.toInt).toNat) (x5_4, σ1_3) ⟨rfl, hIσ1_3, hfσ1_3, (show 0 ≤ x5_4.toInt by omega), (show x5_4.toInt ≤ 12 by omega)⟩ (by unfold K9; omega)
      obtain ⟨a1_5, σ1_5⟩ := s_5
      obtain ⟨hn_5, hIσ1_5, hfσ1_5, b0a1_5, b1a1_5⟩ := hs_5
      dsimp only at hn_5 hIσ1_5 hfσ1_5 b0a1_5 b1a1_5
      unfold bX10_stands_60
      try dsimp only
      refine ok_ite.mpr ⟨fun h_8 => ?_, fun h_8 => ?_⟩
      · have f9 : (12 : Int32).toInt = 12 := by decide
        have g10 : (12 : Int32).toInt ≤ a1_5.toInt := Int32.le_iff_toInt_le.mp h_8
        refine ok_nm2 (fun x7_6 ex7_6 => ?_)
        have qx7_6 : x7_6.toInt = 0 := by rw [ex7_6]; decide
        refine ok_lpc (I := fun n s => n = (31 + 1 - s.1.toInt).toNat ∧ JM s.2 ∧ Fr fr_fX10_stands σ s.2 ∧ 0 ≤ s.1.toInt ∧ s.1.toInt ≤ 31) (fun rec133_7r n_7 s_7 hs_7 hrec_7 => ?_) K9 ((31 + 1 - x7_6.toInt).toNat) (x7_6, σ1_5) ⟨rfl, hIσ1_5, hfσ1_5, (show 0 ≤ x7_6.toInt by omega), (show x7_6.toInt ≤ 31 by omega)⟩ (by unfold K9; omega)
        obtain ⟨a1_7, σ1_7⟩ := s_7
        obtain ⟨hn_7, hIσ1_7, hfσ1_7, b0a1_7, b1a1_7⟩ := hs_7
        dsimp only at hn_7 hIσ1_7 hfσ1_7 b0a1_7 b1a1_7
        unfold bX10_stands_133
        try dsimp only
        refine ok_ite.mpr ⟨fun h_11 => ?_, fun h_11 => ?_⟩
        · have f12 : (24 : Int32).toInt = 24 := by decide
          have g13 : (24 : Int32).toInt ≤ a1_7.toInt := Int32.le_iff_toInt_le.mp h_11
          refine ok_nm2 (fun x9_8 ex9_8 => ?_)
          have qx9_8 : x9_8.toInt = 0 := by rw [ex9_8]; decide
          refine ok_lpc (I := fun n s => n = (20 + 1 - s.1.toInt).toNat ∧ JM s.2 ∧ Fr fr_fX10_stands σ s.2 ∧ 0 ≤ s.1.toInt ∧ s.1.toInt ≤ 20) (fun rec162_9r n_9 s_9 hs_9 hrec_9 => ?_) K9 ((20 + 1 - x9_8.toInt).toNat) (x9_8, σ1_7) ⟨rfl, hIσ1_7, hfσ1_7, (show 0 ≤ x9_8.toInt by omega), (show x9_8.toInt ≤ 20 by omega)⟩ (by unfold K9; omega)
          obtain ⟨a1_9, σ1_9⟩ := s_9
          obtain ⟨hn_9, hIσ1_9, hfσ1_9, b0a1_9, b1a1_9⟩ := hs_9
          dsimp only at hn_9 hIσ1_9 hfσ1_9 b0a1_9 b1a1_9
          unfold bX10_stands_162
          try dsimp only
          refine ok_ite.mpr ⟨fun h_14 => ?_, fun h_14 => ?_⟩
          · have f15 : (20 : Int32).toInt = 20 := by decide
            have g16 : (20 : Int32).toInt ≤ a1_9.toInt := Int32.le_iff_toInt_le.mp h_14
            refine ok_nm2 (fun x11_10 ex11_10 => ?_)
            have qx11_10 : x11_10.toInt = 0 := by rw [ex11_10]; decide
            refine ok_lpc (I := fun n s => n = (40 + 1 - s.1.toInt).toNat ∧ JM s.2 ∧ Fr fr_fX10_stands σ s.2 ∧ 0 ≤ s.1.toInt ∧ s.1.toInt ≤ 40) (fun rec205_11r n_11 s_11 hs_11 hrec_11 => ?_) K9 ((40 + 1 - x11_10.toInt).toNat) (x11_10, σ1_9) ⟨rfl, hIσ1_9, hfσ1_9, (show 0 ≤ x11_10.toInt by omega), (show x11_10.toInt ≤ 40 by omega)⟩ (by unfold K9; omega)
            obtain ⟨a1_11, σ1_11⟩ := s_11
            obtain ⟨hn_11, hIσ1_11, hfσ1_11, b0a1_11, b1a1_11⟩ := hs_11
            dsimp only at hn_11 hIσ1_11 hfσ1_11 b0a1_11 b1a1_11
            unfold bX10_stands_205
            try dsimp only
            refine ok_ite.mpr ⟨fun h_17 => ?_, fun h_17 => ?_⟩
            · have f18 : (40 : Int32).toInt = 40 := by decide
              have g19 : (40 : Int32).toInt ≤ a1_11.toInt := Int32.le_iff_toInt_le.mp h_17
              refine ok_nm2 (fun x13_12 ex13_12 => ?_)
              have qx13_12 : x13_12.toInt = 0 := by rw [ex13_12]; decide
              refine ok_lpc (I := fun n s => n = (60 + 1 - s.1.toInt).toNat ∧ JM s.2 ∧ Fr fr_fX10_stands σ s.2 ∧ 0 ≤ s.1.toInt ∧ s.1.toInt ≤ 60) (fun rec234_13r n_13 s_13 hs_13 hrec_13 => ?_) K9 ((60 + 1 - x13_12.toInt).toNat) (x13_12, σ1_11) ⟨rfl, hIσ1_11, hfσ1_11, (show 0 ≤ x13_12.toInt by omega), (show x13_12.toInt ≤ 60 by omega)⟩ (by unfold K9; omega)
              obtain ⟨a1_13, σ1_13⟩ := s_13
              obtain ⟨hn_13, hIσ1_13, hfσ1_13, b0a1_13, b1a1_13⟩ := hs_13
              dsimp only at hn_13 hIσ1_13 hfσ1_13 b0a1_13 b1a1_13
              unfold bX10_stands_234
              try dsimp only
              refine ok_ite.mpr ⟨fun h_20 => ?_, fun h_20 => ?_⟩
              · have g21 : (60 : Int32).toInt ≤ a1_13.toInt := Int32.le_iff_toInt_le.mp h_20
                refine ok_nm2 (fun x15_14 ex15_14 => ?_)
                have qx15_14 : x15_14.toInt = 0 := by rw [ex15_14]; decide
                refine ok_lpc (I := fun n s => n = (120 + 1 - s.1.toInt).toNat ∧ JM s.2 ∧ Fr fr_fX10_stands σ s.2 ∧ 0 ≤ s.1.toInt ∧ s.1.toInt ≤ 120) (fun rec300_15r n_15 s_15 hs_15 hrec_15 => ?_) K9 ((120 + 1 - x15_14.toInt).toNat) (x15_14, σ1_13) ⟨rfl, hIσ1_13, hfσ1_13, (show 0 ≤ x15_14.toInt by omega), (show x15_14.toInt ≤ 120 by omega)⟩ (by unfold K9; omega)
                obtain ⟨a1_15, σ1_15⟩ := s_15
                obtain ⟨hn_15, hIσ1_15, hfσ1_15, b0a1_15, b1a1_15⟩ := hs_15
                dsimp only at hn_15 hIσ1_15 hfσ1_15 b0a1_15 b1a1_15
                unfold bX10_stands_300
                try dsimp only
                refine ok_ite.mpr ⟨fun h_22 => ?_, fun h_22 => ?_⟩
                · have f23 : (120 : Int32).toInt = 120 := by decide
                  have g24 : (120 : Int32).toInt ≤ a1_15.toInt := Int32.le_iff_toInt_le.mp h_22
                  refine ok_nm2 (fun σ17_16 eσ17_16 => ?_)
                  have f25 : (3 : Int32).toInt = 3 := by decide
                  have hIσ17_16 : JM σ17_16 := by rw [eσ17_16]; exact JM_w hIσ1_15 (Int32.le_toInt _) (Int32.toInt_le _)
                  have hfσ17_16 : Fr fr_fX10_stands σ σ17_16 := by rw [eσ17_16]; exact Fr_w hfσ1_15 (by decide)
                  refine ok_bd2.mpr ((o_fX10_starts hIσ17_16  ).mono (fun o_26 ho_27 => ?_))
                  obtain ⟨r19_16, σ20_16⟩ := o_26
                  obtain ⟨hIσ20_16, hcσ20_16⟩ := ho_27
                  dsimp only at hIσ20_16 hcσ20_16 ⊢
                  have hfσ20_16 : Fr fr_fX10_stands σ σ20_16 := Fr_c hfσ17_16 hcσ20_16 (by decide)
                  refine ok_some.mpr ?_
                  exact ⟨hIσ20_16, hfσ20_16⟩
                · have f28 : (120 : Int32).toInt = 120 := by decide
                  have g29 : ¬ (120 : Int32).toInt ≤ a1_15.toInt := fun z => h_22 (Int32.le_iff_toInt_le.mpr z)
                  refine ok_gd.mpr ⟨gb_of (by omega) (by omega), ?_⟩
                  refine ok_nm2 (fun v21_16 ev21_16 => ?_)
                  have qv21_16 : v21_16.toInt = (σ1_15.1 24 a1_15.toNatClampNeg).toInt := congrArg Int32.toInt ev21_16
                  have f30 : ((120 : Int32) + a1_15).toInt = (120 : Int32).toInt + a1_15.toInt := iadd_toInt (by omega) (by omega)
                  refine ok_gd.mpr ⟨gb_of (by omega) (by omega), ?_⟩
                  refine ok_nm2 (fun σ22_16 eσ22_16 => ?_)
                  have hIσ22_16 : JM σ22_16 := by rw [eσ22_16]; exact JM_w hIσ1_15 (Int32.le_toInt _) (Int32.toInt_le _)
                  have hfσ22_16 : Fr fr_fX10_stands σ σ22_16 := by rw [eσ22_16]; exact Fr_w0 hfσ1_15 (by decide)
                  refine ok_nm2 (fun x23_16 ex23_16 => ?_)
                  have f31 : (1 : Int32).toInt = 1 := by decide
                  have f32 : (a1_15 + (1 : Int32)).toInt = a1_15.toInt + (1 : Int32).toInt := iadd_toInt (by omega) (by omega)
                  have qx23_16 : x23_16.toInt = (a1_15 + 1).toInt := congrArg Int32.toInt ex23_16
                  exact hrec_15 _ (x23_16, σ22_16) (show (120 + 1 - x23_16.toInt).toNat < n_15 by omega) ⟨rfl, hIσ22_16, hfσ22_16, (show 0 ≤ x23_16.toInt by omega), (show x23_16.toInt ≤ 120 by omega)⟩
              · have g33 : ¬ (60 : Int32).toInt ≤ a1_13.toInt := fun z => h_20 (Int32.le_iff_toInt_le.mpr z)
                refine ok_gd.mpr ⟨gb_of (by omega) (by omega), ?_⟩
                refine ok_nm2 (fun v24_14 ev24_14 => ?_)
                have f34 : 0 ≤ (σ1_13.1 22 a1_13.toNatClampNeg).toInt ∧ (σ1_13.1 22 a1_13.toNatClampNeg).toInt ≤ 11 := hIσ1_13 22 _
                have qv24_14 : v24_14.toInt = (σ1_13.1 22 a1_13.toNatClampNeg).toInt := congrArg Int32.toInt ev24_14
                have f35 : ((60 : Int32) + a1_13).toInt = (60 : Int32).toInt + a1_13.toInt := iadd_toInt (by omega) (by omega)
                refine ok_gd.mpr ⟨gb_of (by omega) (by omega), ?_⟩
                refine ok_nm2 (fun σ25_14 eσ25_14 => ?_)
                have hIσ25_14 : JM σ25_14 := by rw [eσ25_14]; exact JM_w hIσ1_13 (show 0 ≤ _ by omega) (show _ ≤ 11 by omega)
                have hfσ25_14 : Fr fr_fX10_stands σ σ25_14 := by rw [eσ25_14]; exact Fr_w0 hfσ1_13 (by decide)
                refine ok_gd.mpr ⟨gb_of (by omega) (by omega), ?_⟩
                refine ok_nm2 (fun v26_14 ev26_14 => ?_)
                have f36 : 0 ≤ (σ25_14.1 23 a1_13.toNatClampNeg).toInt ∧ (σ25_14.1 23 a1_13.toNatClampNeg).toInt ≤ 19 := hIσ25_14 23 _
                have qv26_14 : v26_14.toInt = (σ25_14.1 23 a1_13.toNatClampNeg).toInt := congrArg Int32.toInt ev26_14
                refine ok_gd.mpr ⟨gb_of (by omega) (by omega), ?_⟩
                refine ok_nm2 (fun σ27_14 eσ27_14 => ?_)
                have hIσ27_14 : JM σ27_14 := by rw [eσ27_14]; exact JM_w hIσ25_14 (show 0 ≤ _ by omega) (show _ ≤ 19 by omega)
                have hfσ27_14 : Fr fr_fX10_stands σ σ27_14 := by rw [eσ27_14]; exact Fr_w0 hfσ25_14 (by decide)
                refine ok_gd.mpr ⟨gb_of (by omega) (by omega), ?_⟩
                refine ok_nm2 (fun v28_14 ev28_14 => ?_)
                have qv28_14 : v28_14.toInt = (σ27_14.1 25 a1_13.toNatClampNeg).toInt := congrArg Int32.toInt ev28_14
                refine ok_gd.mpr ⟨gb_of (by omega) (by omega), ?_⟩
                refine ok_nm2 (fun σ29_14 eσ29_14 => ?_)
                have hIσ29_14 : JM σ29_14 := by rw [eσ29_14]; exact JM_w hIσ27_14 (Int32.le_toInt _) (Int32.toInt_le _)
                have hfσ29_14 : Fr fr_fX10_stands σ σ29_14 := by rw [eσ29_14]; exact Fr_w0 hfσ27_14 (by decide)
                refine ok_gd.mpr ⟨gb_of (by omega) (by omega), ?_⟩
                refine ok_nm2 (fun σ30_14 eσ30_14 => ?_)
                have f37 : (vp_nar .boolean 0).toInt = 0 := by decide
                have hIσ30_14 : JM σ30_14 := by rw [eσ30_14]; exact JM_w hIσ29_14 (Int32.le_toInt _) (Int32.toInt_le _)
                have hfσ30_14 : Fr fr_fX10_stands σ σ30_14 := by rw [eσ30_14]; exact Fr_w0 hfσ29_14 (by decide)
                refine ok_nm2 (fun x31_14 ex31_14 => ?_)
                have f38 : (1 : Int32).toInt = 1 := by decide
                have f39 : (a1_13 + (1 : Int32)).toInt = a1_13.toInt + (1 : Int32).toInt := iadd_toInt (by omega) (by omega)
                have qx31_14 : x31_14.toInt = (a1_13 + 1).toInt := congrArg Int32.toInt ex31_14
                exact hrec_13 _ (x31_14, σ30_14) (show (60 + 1 - x31_14.toInt).toNat < n_13 by omega) ⟨rfl, hIσ30_14, hfσ30_14, (show 0 ≤ x31_14.toInt by omega), (show x31_14.toInt ≤ 60 by omega)⟩
            · have f40 : (40 : Int32).toInt = 40 := by decide
              have g41 : ¬ (40 : Int32).toInt ≤ a1_11.toInt := fun z => h_17 (Int32.le_iff_toInt_le.mpr z)
              refine ok_gd.mpr ⟨gb_of (by omega) (by omega), ?_⟩
              refine ok_nm2 (fun v32_12 ev32_12 => ?_)
              have qv32_12 : v32_12.toInt = (σ1_11.1 21 a1_11.toNatClampNeg).toInt := congrArg Int32.toInt ev32_12
              have f42 : ((40 : Int32) + a1_11).toInt = (40 : Int32).toInt + a1_11.toInt := iadd_toInt (by omega) (by omega)
              refine ok_gd.mpr ⟨gb_of (by omega) (by omega), ?_⟩
              refine ok_nm2 (fun σ33_12 eσ33_12 => ?_)
              have hIσ33_12 : JM σ33_12 := by rw [eσ33_12]; exact JM_w hIσ1_11 (Int32.le_toInt _) (Int32.toInt_le _)
              have hfσ33_12 : Fr fr_fX10_stands σ σ33_12 := by rw [eσ33_12]; exact Fr_w0 hfσ1_11 (by decide)
              refine ok_nm2 (fun x34_12 ex34_12 => ?_)
              have f43 : (1 : Int32).toInt = 1 := by decide
              have f44 : (a1_11 + (1 : Int32)).toInt = a1_11.toInt + (1 : Int32).toInt := iadd_toInt (by omega) (by omega)
              have qx34_12 : x34_12.toInt = (a1_11 + 1).toInt := congrArg Int32.toInt ex34_12
              exact hrec_11 _ (x34_12, σ33_12) (show (40 + 1 - x34_12.toInt).toNat < n_11 by omega) ⟨rfl, hIσ33_12, hfσ33_12, (show 0 ≤ x34_12.toInt by omega), (show x34_12.toInt ≤ 40 by omega)⟩
          · have f45 : (20 : Int32).toInt = 20 := by decide
            have g46 : ¬ (20 : Int32).toInt ≤ a1_9.toInt := fun z => h_14 (Int32.le_iff_toInt_le.mpr z)
            have f47 : (2 : Int32).toInt = 2 := by decide
            refine ok_gd.mpr ⟨gb_of (by omega) (by omega), ?_⟩
            refine ok_nm2 (fun v35_10 ev35_10 => ?_)
            have f48 : 0 ≤ (σ1_9.1 15 2).toInt ∧ (σ1_9.1 15 2).toInt ≤ 20 := hIσ1_9 15 2
            have qv35_10 : v35_10.toInt = (σ1_9.1 15 2).toInt := congrArg Int32.toInt ev35_10
            refine ok_ite.mpr ⟨fun h_49 => ?_, fun h_49 => ?_⟩
            · have g50 : v35_10.toInt ≤ a1_9.toInt := Int32.le_iff_toInt_le.mp h_49
              have f51 : ((20 : Int32) + a1_9).toInt = (20 : Int32).toInt + a1_9.toInt := iadd_toInt (by omega) (by omega)
              refine ok_gd.mpr ⟨gb_of (by omega) (by omega), ?_⟩
              refine ok_nm2 (fun σ37_10 eσ37_10 => ?_)
              have hIσ37_10 : JM σ37_10 := by rw [eσ37_10]; exact JM_w hIσ1_9 (Int32.le_toInt _) (Int32.toInt_le _)
              have hfσ37_10 : Fr fr_fX10_stands σ σ37_10 := by rw [eσ37_10]; exact Fr_w0 hfσ1_9 (by decide)
              refine ok_nm2 (fun x38_10 ex38_10 => ?_)
              have f52 : (1 : Int32).toInt = 1 := by decide
              have f53 : (a1_9 + (1 : Int32)).toInt = a1_9.toInt + (1 : Int32).toInt := iadd_toInt (by omega) (by omega)
              have qx38_10 : x38_10.toInt = (a1_9 + 1).toInt := congrArg Int32.toInt ex38_10
              exact hrec_9 _ (x38_10, σ37_10) (show (20 + 1 - x38_10.toInt).toNat < n_9 by omega) ⟨rfl, hIσ37_10, hfσ37_10, (show 0 ≤ x38_10.toInt by omega), (show x38_10.toInt ≤ 20 by omega)⟩
            · have g54 : ¬ v35_10.toInt ≤ a1_9.toInt := fun z => h_49 (Int32.le_iff_toInt_le.mpr z)
              refine ok_gd.mpr ⟨gb_of (by omega) (by omega), ?_⟩
              refine ok_nm2 (fun v39_10 ev39_10 => ?_)
              have qv39_10 : v39_10.toInt = (σ1_9.1 20 a1_9.toNatClampNeg).toInt := congrArg Int32.toInt ev39_10
              have f55 : ((20 : Int32) + a1_9).toInt = (20 : Int32).toInt + a1_9.toInt := iadd_toInt (by omega) (by omega)
              refine ok_gd.mpr ⟨gb_of (by omega) (by omega), ?_⟩
              refine ok_nm2 (fun σ40_10 eσ40_10 => ?_)
              have hIσ40_10 : JM σ40_10 := by rw [eσ40_10]; exact JM_w hIσ1_9 (Int32.le_toInt _) (Int32.toInt_le _)
              have hfσ40_10 : Fr fr_fX10_stands σ σ40_10 := by rw [eσ40_10]; exact Fr_w0 hfσ1_9 (by decide)
              refine ok_nm2 (fun x41_10 ex41_10 => ?_)
              have f56 : (1 : Int32).toInt = 1 := by decide
              have f57 : (a1_9 + (1 : Int32)).toInt = a1_9.toInt + (1 : Int32).toInt := iadd_toInt (by omega) (by omega)
              have qx41_10 : x41_10.toInt = (a1_9 + 1).toInt := congrArg Int32.toInt ex41_10
              exact hrec_9 _ (x41_10, σ40_10) (show (20 + 1 - x41_10.toInt).toNat < n_9 by omega) ⟨rfl, hIσ40_10, hfσ40_10, (show 0 ≤ x41_10.toInt by omega), (show x41_10.toInt ≤ 20 by omega)⟩
        · have f58 : (24 : Int32).toInt = 24 := by decide
          have g59 : ¬ (24 : Int32).toInt ≤ a1_7.toInt := fun z => h_11 (Int32.le_iff_toInt_le.mpr z)
          refine ok_gd.mpr ⟨gb_of (by omega) (by omega), ?_⟩
          refine ok_nm2 (fun v42_8 ev42_8 => ?_)
          have qv42_8 : v42_8.toInt = (σ1_7.1 19 a1_7.toNatClampNeg).toInt := congrArg Int32.toInt ev42_8
          have f60 : ((24 : Int32) + a1_7).toInt = (24 : Int32).toInt + a1_7.toInt := iadd_toInt (by omega) (by omega)
          refine ok_gd.mpr ⟨gb_of (by omega) (by omega), ?_⟩
          refine ok_nm2 (fun σ43_8 eσ43_8 => ?_)
          have hIσ43_8 : JM σ43_8 := by rw [eσ43_8]; exact JM_w hIσ1_7 (Int32.le_toInt _) (Int32.toInt_le _)
          have hfσ43_8 : Fr fr_fX10_stands σ σ43_8 := by rw [eσ43_8]; exact Fr_w0 hfσ1_7 (by decide)
          refine ok_nm2 (fun x44_8 ex44_8 => ?_)
          have f61 : (1 : Int32).toInt = 1 := by decide
          have f62 : (a1_7 + (1 : Int32)).toInt = a1_7.toInt + (1 : Int32).toInt := iadd_toInt (by omega) (by omega)
          have qx44_8 : x44_8.toInt = (a1_7 + 1).toInt := congrArg Int32.toInt ex44_8
          exact hrec_7 _ (x44_8, σ43_8) (show (31 + 1 - x44_8.toInt).toNat < n_7 by omega) ⟨rfl, hIσ43_8, hfσ43_8, (show 0 ≤ x44_8.toInt by omega), (show x44_8.toInt ≤ 31 by omega)⟩
      · have f63 : (12 : Int32).toInt = 12 := by decide
        have g64 : ¬ (12 : Int32).toInt ≤ a1_5.toInt := fun z => h_8 (Int32.le_iff_toInt_le.mpr z)
        refine ok_gd.mpr ⟨gb_of (by omega) (by omega), ?_⟩
        refine ok_nm2 (fun v45_6 ev45_6 => ?_)
        have f65 : 0 ≤ (σ1_5.1 16 a1_5.toNatClampNeg).toInt ∧ (σ1_5.1 16 a1_5.toNatClampNeg).toInt ≤ 5 := hIσ1_5 16 _
        have qv45_6 : v45_6.toInt = (σ1_5.1 16 a1_5.toNatClampNeg).toInt := congrArg Int32.toInt ev45_6
        have f66 : ((12 : Int32) + a1_5).toInt = (12 : Int32).toInt + a1_5.toInt := iadd_toInt (by omega) (by omega)
        refine ok_gd.mpr ⟨gb_of (by omega) (by omega), ?_⟩
        refine ok_nm2 (fun σ46_6 eσ46_6 => ?_)
        have hIσ46_6 : JM σ46_6 := by rw [eσ46_6]; exact JM_w hIσ1_5 (show 0 ≤ _ by omega) (show _ ≤ 5 by omega)
        have hfσ46_6 : Fr fr_fX10_stands σ σ46_6 := by rw [eσ46_6]; exact Fr_w0 hfσ1_5 (by decide)
        refine ok_gd.mpr ⟨gb_of (by omega) (by omega), ?_⟩
        refine ok_nm2 (fun v47_6 ev47_6 => ?_)
        have qv47_6 : v47_6.toInt = (σ46_6.1 17 a1_5.toNatClampNeg).toInt := congrArg Int32.toInt ev47_6
        refine ok_gd.mpr ⟨gb_of (by omega) (by omega), ?_⟩
        refine ok_nm2 (fun σ48_6 eσ48_6 => ?_)
        have hIσ48_6 : JM σ48_6 := by rw [eσ48_6]; exact JM_w hIσ46_6 (Int32.le_toInt _) (Int32.toInt_le _)
        have hfσ48_6 : Fr fr_fX10_stands σ σ48_6 := by rw [eσ48_6]; exact Fr_w0 hfσ46_6 (by decide)
        have f67 : (1 : Int32).toInt = 1 := by decide
        refine ok_gd.mpr ⟨gb_of (by omega) (by omega), ?_⟩
        refine ok_nm2 (fun v49_6 ev49_6 => ?_)
        have f68 : 0 ≤ (σ48_6.1 15 1).toInt ∧ (σ48_6.1 15 1).toInt ≤ 12 := hIσ48_6 15 1
        have qv49_6 : v49_6.toInt = (σ48_6.1 15 1).toInt := congrArg Int32.toInt ev49_6
        refine ok_ite.mpr ⟨fun h_69 => ?_, fun h_69 => ?_⟩
        · have g70 : v49_6.toInt ≤ a1_5.toInt := Int32.le_iff_toInt_le.mp h_69
          refine ok_gd.mpr ⟨gb_of (by omega) (by omega), ?_⟩
          refine ok_nm2 (fun σ51_6 eσ51_6 => ?_)
          have hIσ51_6 : JM σ51_6 := by rw [eσ51_6]; exact JM_w hIσ48_6 (show 0 ≤ _ by omega) (show _ ≤ 9999 by omega)
          have hfσ51_6 : Fr fr_fX10_stands σ σ51_6 := by rw [eσ51_6]; exact Fr_w0 hfσ48_6 (by decide)
          refine ok_nm2 (fun x52_6 ex52_6 => ?_)
          have f71 : (a1_5 + (1 : Int32)).toInt = a1_5.toInt + (1 : Int32).toInt := iadd_toInt (by omega) (by omega)
          have qx52_6 : x52_6.toInt = (a1_5 + 1).toInt := congrArg Int32.toInt ex52_6
          exact hrec_5 _ (x52_6, σ51_6) (show (12 + 1 - x52_6.toInt).toNat < n_5 by omega) ⟨rfl, hIσ51_6, hfσ51_6, (show 0 ≤ x52_6.toInt by omega), (show x52_6.toInt ≤ 12 by omega)⟩
        · have g72 : ¬ v49_6.toInt ≤ a1_5.toInt := fun z => h_69 (Int32.le_iff_toInt_le.mpr z)
          refine ok_gd.mpr ⟨gb_of (by omega) (by omega), ?_⟩
          refine ok_nm2 (fun v53_6 ev53_6 => ?_)
          have f73 : 0 ≤ (σ48_6.1 18 a1_5.toNatClampNeg).toInt ∧ (σ48_6.1 18 a1_5.toNatClampNeg).toInt ≤ 9999 := hIσ48_6 18 _
          have qv53_6 : v53_6.toInt = (σ48_6.1 18 a1_5.toNatClampNeg).toInt := congrArg Int32.toInt ev53_6
          refine ok_gd.mpr ⟨gb_of (by omega) (by omega), ?_⟩
          refine ok_nm2 (fun σ54_6 eσ54_6 => ?_)
          have hIσ54_6 : JM σ54_6 := by rw [eσ54_6]; exact JM_w hIσ48_6 (show 0 ≤ _ by omega) (show _ ≤ 9999 by omega)
          have hfσ54_6 : Fr fr_fX10_stands σ σ54_6 := by rw [eσ54_6]; exact Fr_w0 hfσ48_6 (by decide)
          refine ok_nm2 (fun x55_6 ex55_6 => ?_)
          have f74 : (a1_5 + (1 : Int32)).toInt = a1_5.toInt + (1 : Int32).toInt := iadd_toInt (by omega) (by omega)
          have qx55_6 : x55_6.toInt = (a1_5 + 1).toInt := congrArg Int32.toInt ex55_6
          exact hrec_5 _ (x55_6, σ54_6) (show (12 + 1 - x55_6.toInt).toNat < n_5 by omega) ⟨rfl, hIσ54_6, hfσ54_6, (show 0 ≤ x55_6.toInt by omega), (show x55_6.toInt ≤ 12 by omega)⟩
    · have f75 : (60 : Int32).toInt = 60 := by decide
      have g76 : ¬ (60 : Int32).toInt ≤ a1_3.toInt := fun z => h_5 (Int32.le_iff_toInt_le.mpr z)
      refine ok_gd.mpr ⟨gb_of (by omega) (by omega), ?_⟩
      refine ok_nm2 (fun v56_4 ev56_4 => ?_)
      have f77 : ((60 : Int32) + a1_3).toInt = (60 : Int32).toInt + a1_3.toInt := iadd_toInt (by omega) (by omega)
      refine ok_gd.mpr ⟨gb_of (by omega) (by omega), ?_⟩
      refine ok_nm2 (fun σ57_4 eσ57_4 => ?_)
      have hIσ57_4 : JM σ57_4 := by rw [eσ57_4]; exact JM_l hIσ1_3
      have hfσ57_4 : Fr fr_fX10_stands σ σ57_4 := by rw [eσ57_4]; exact Fr_l0 hfσ1_3 (by decide)
      refine ok_nm2 (fun x58_4 ex58_4 => ?_)
      have f78 : (1 : Int32).toInt = 1 := by decide
      have f79 : (a1_3 + (1 : Int32)).toInt = a1_3.toInt + (1 : Int32).toInt := iadd_toInt (by omega) (by omega)
      have qx58_4 : x58_4.toInt = (a1_3 + 1).toInt := congrArg Int32.toInt ex58_4
      exact hrec_3 _ (x58_4, σ57_4) (show (60 + 1 - x58_4.toInt).toNat < n_3 by omega) ⟨rfl, hIσ57_4, hfσ57_4, (show 0 ≤ x58_4.toInt by omega), (show x58_4.toInt ≤ 60 by omega)⟩
  · have f80 : (6 : Int32).toInt = 6 := by decide
    have g81 : ¬ (6 : Int32).toInt ≤ a1_1.toInt := fun z => h_2 (Int32.le_iff_toInt_le.mpr z)
    refine ok_gd.mpr ⟨gb_of (by omega) (by omega), ?_⟩
    refine ok_nm2 (fun v59_2 ev59_2 => ?_)
    have f83 : a1_1.toNatClampNeg = a1_1.toInt.toNat := rfl
    have f83_ : (a1_1.toNatClampNeg = 0 ∧ 0 ≤ (σ1_1.1 15 a1_1.toNatClampNeg).toInt ∧ (σ1_1.1 15 a1_1.toNatClampNeg).toInt ≤ 6) ∨ (a1_1.toNatClampNeg = 1 ∧ 0 ≤ (σ1_1.1 15 a1_1.toNatClampNeg).toInt ∧ (σ1_1.1 15 a1_1.toNatClampNeg).toInt ≤ 12) ∨ (a1_1.toNatClampNeg = 2 ∧ 0 ≤ (σ1_1.1 15 a1_1.toNatClampNeg).toInt ∧ (σ1_1.1 15 a1_1.toNatClampNeg).toInt ≤ 20) ∨ (a1_1.toNatClampNeg = 3 ∧ 0 ≤ (σ1_1.1 15 a1_1.toNatClampNeg).toInt ∧ (σ1_1.1 15 a1_1.toNatClampNeg).toInt ≤ 60) ∨ (a1_1.toNatClampNeg = 4 ∧ -2147483648 ≤ (σ1_1.1 15 a1_1.toNatClampNeg).toInt ∧ (σ1_1.1 15 a1_1.toNatClampNeg).toInt ≤ 2147483647) ∨ (a1_1.toNatClampNeg = 5 ∧ -2147483648 ≤ (σ1_1.1 15 a1_1.toNatClampNeg).toInt ∧ (σ1_1.1 15 a1_1.toNatClampNeg).toInt ≤ 2147483647) := by
      have hb := hIσ1_1 15 a1_1.toNatClampNeg
      have hj : a1_1.toNatClampNeg = 0 ∨ a1_1.toNatClampNeg = 1 ∨ a1_1.toNatClampNeg = 2 ∨ a1_1.toNatClampNeg = 3 ∨ a1_1.toNatClampNeg = 4 ∨ a1_1.toNatClampNeg = 5 := by omega
      generalize a1_1.toNatClampNeg = j at hb hj ⊢
      rcases hj with rfl | rfl | rfl | rfl | rfl | rfl
      · exact .inl ⟨rfl, hb.1, hb.2⟩
      · exact .inr (.inl ⟨rfl, hb.1, hb.2⟩)
      · exact .inr (.inr (.inl ⟨rfl, hb.1, hb.2⟩))
      · exact .inr (.inr (.inr (.inl ⟨rfl, hb.1, hb.2⟩)))
      · exact .inr (.inr (.inr (.inr (.inl ⟨rfl, hb.1, hb.2⟩))))
      · exact .inr (.inr (.inr (.inr (.inr (⟨rfl, hb.1, hb.2⟩)))))
    have qv59_2 : v59_2.toInt = (σ1_1.1 15 a1_1.toNatClampNeg).toInt := congrArg Int32.toInt ev59_2
    have f84 : ((6 : Int32) + a1_1).toInt = (6 : Int32).toInt + a1_1.toInt := iadd_toInt (by omega) (by omega)
    refine ok_gd.mpr ⟨gb_of (by omega) (by omega), ?_⟩
    refine ok_nm2 (fun σ60_2 eσ60_2 => ?_)
    have hIσ60_2 : JM σ60_2 := by
      have hz : (6 + a1_1).toNatClampNeg = (6 + a1_1).toInt.toNat := rfl
      have hj : (6 + a1_1).toNatClampNeg = 6 ∨ (6 + a1_1).toNatClampNeg = 7 ∨ (6 + a1_1).toNatClampNeg = 8 ∨ (6 + a1_1).toNatClampNeg = 9 ∨ (6 + a1_1).toNatClampNeg = 10 ∨ (6 + a1_1).toNatClampNeg = 11 := by omega
      rw [eσ60_2]
      refine JM_w hIσ1_1 ?_ ?_
      · rcases hj with hj | hj | hj | hj | hj | hj <;> rw [hj]
        · show 0 ≤ _; omega
        · show 0 ≤ _; omega
        · show 0 ≤ _; omega
        · show 0 ≤ _; omega
        · show -2147483648 ≤ _; omega
        · show -2147483648 ≤ _; omega
      · rcases hj with hj | hj | hj | hj | hj | hj <;> rw [hj]
        · show _ ≤ 6; omega
        · show _ ≤ 12; omega
        · show _ ≤ 20; omega
        · show _ ≤ 60; omega
        · show _ ≤ 2147483647; omega
        · show _ ≤ 2147483647; omega
    have hfσ60_2 : Fr fr_fX10_stands σ σ60_2 := by rw [eσ60_2]; exact Fr_w0 hfσ1_1 (by decide)
    refine ok_nm2 (fun x61_2 ex61_2 => ?_)
    have f85 : (1 : Int32).toInt = 1 := by decide
    have f86 : (a1_1 + (1 : Int32)).toInt = a1_1.toInt + (1 : Int32).toInt := iadd_toInt (by omega) (by omega)
    have qx61_2 : x61_2.toInt = (a1_1 + 1).toInt := congrArg Int32.toInt ex61_2
    exact hrec_1 _ (x61_2, σ60_2) (show (6 + 1 - x61_2.toInt).toNat < n_1 by omega) ⟨rfl, hIσ60_2, hfσ60_2, (show 0 ≤ x61_2.toInt by omega), (show x61_2.toInt ≤ 6 by omega)⟩
