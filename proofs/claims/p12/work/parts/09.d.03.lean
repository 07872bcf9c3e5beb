/-! comes through, c 3 -/
set_option maxRecDepth 20000 in
set_option maxHeartbeats 2000000 in
theorem o_fX3_readNamed {σ : gS} (hIσ : JC σ) {p1 : Int32} (h0p1 : 0 ≤ p1.toInt) (h1p1 : p1.toInt ≤ 2) : Ok (fX3_readNamed σ p1) (fun out => JC out.2 ∧ Fr fr_fX3_readNamed σ out.2 ∧ 0 ≤ out.1.toInt ∧ out.1.toInt ≤ 1) := by
  unfold fX3_readNamed
  have hfσ : Fr fr_fX3_readNamed σ σ := Fr_r
  have f1 : -1 ≤ (σ.1 46 10).toInt ∧ (σ.1 46 10).toInt ≤ 19 := hIσ 46 10
  have f2 : (-1 : Int32).toInt = -1 := by decide
  refine ok_bd2.mpr ((o_fX3_readName hIσ (p1 := (-1 : Int32)) (by omega) (by omega)).mono (fun o_3 ho_4 => ?_))
  obtain ⟨r2, σ3⟩ := o_3
  obtain ⟨hIσ3, hcσ3, r0r2, r1r2, hp_5⟩ := ho_4
  dsimp only at hIσ3 hcσ3 r0r2 r1r2 hp_5 ⊢
  have hfσ3 : Fr fr_fX3_readNamed σ σ3 := Fr_c hfσ hcσ3 (by decide)
  refine ok_ite.mpr ⟨fun h_6 => ?_, fun h_6 => ?_⟩
  · have f7 : (0 : Int32).toInt = 0 := by decide
    have g8 : r2.toInt = (0 : Int32).toInt := by rw [h_6]
    refine ok_some.mpr ?_
    exact ⟨hIσ3, hfσ3, (show 0 ≤ (0 : Int32).toInt by omega), (show (0 : Int32).toInt ≤ 1 by omega)⟩
  · have f9 : (0 : Int32).toInt = 0 := by decide
    have g10 : r2.toInt ≠ (0 : Int32).toInt := fun z => h_6 (Int32.toInt_inj.mp z)
    refine ok_bd.mpr ((o_fX8_addNamed_24 hIσ3 (p1 := p1) (p2 := (σ3.1 46 9)) (by omega) (by omega)).mono (fun σ6 ho_12 => ?_))
    obtain ⟨hIσ6, hcσ6⟩ := ho_12
    have hfσ6 : Fr fr_fX3_readNamed σ σ6 := Fr_c hfσ3 hcσ6 (by decide)
    have sσ6_46_9 : (σ6.1 46 9).toInt = (σ3.1 46 9).toInt := by rw [(hcσ6 46 9 (by decide) (by decide)).1]
    have sσ6_46_10 : (σ6.1 46 10).toInt = (σ3.1 46 10).toInt := by rw [(hcσ6 46 10 (by decide) (by decide)).1]
    refine ok_some.mpr ?_
    have f13 : (1 : Int32).toInt = 1 := by decide
    exact ⟨hIσ6, hfσ6, (show 0 ≤ (1 : Int32).toInt by omega), (show (1 : Int32).toInt ≤ 1 by omega)⟩
set_option maxRecDepth 20000 in
set_option maxHeartbeats 2000000 in
theorem o_fX8_findRow_24 {σ : gS} (hIσ : JC σ) {p1 : Int32} {p2 : Int32}  : Ok (fX8_findRow_24 σ p1 p2) (fun out => -1 ≤ out.toInt ∧ out.toInt ≤ 59) := by
  unfold fX8_findRow_24
  refine ok_nm2 (fun x1 ex1 => ?_)
  have f1 : (0 : Int32).toInt = 0 := by decide
  have qx1 : x1.toInt = 0 := by rw [ex1]; decide
  refine ok_lpc (I := fun n s => n = (60 + 1 - s.toInt).toNat ∧ 0 ≤ s.toInt ∧ s.toInt ≤ 60) (fun rec2_1r n_1 s_1 hs_1 hrec_1 => ?_) K9 ((60 + 1 - x1.toInt).toNat) x1 ⟨rfl, (show 0 ≤ x1.toInt by omega), (show x1.toInt ≤ 60 by omega)⟩ (by unfold K9; omega)
  obtain ⟨a3_1, hq_1⟩ : ∃ y, y = s_1 := ⟨_, rfl⟩
  subst hq_1
  obtain ⟨hn_1, b0a3_1, b1a3_1⟩ := hs_1
  skip
  unfold bX8_findRow_24_2
  try dsimp only
  have f2 : (3 : Int32).toInt = 3 := by decide
  refine ok_gd.mpr ⟨gb_of (by omega) (by omega), ?_⟩
  refine ok_nm2 (fun v2_2 ev2_2 => ?_)
  have f3 : 0 ≤ (σ.1 25 3).toInt ∧ (σ.1 25 3).toInt ≤ 60 := hIσ 25 3
  have qv2_2 : v2_2.toInt = (σ.1 25 3).toInt := congrArg Int32.toInt ev2_2
  refine ok_ite.mpr ⟨fun h_4 => ?_, fun h_4 => ?_⟩
  · have g5 : v2_2.toInt ≤ a3_1.toInt := Int32.le_iff_toInt_le.mp h_4
    refine ok_some.mpr ?_
    have f6 : (-1 : Int32).toInt = -1 := by decide
    exact ⟨(show -1 ≤ (-1 : Int32).toInt by omega), (show (-1 : Int32).toInt ≤ 59 by omega)⟩
  · have g7 : ¬ v2_2.toInt ≤ a3_1.toInt := fun z => h_4 (Int32.le_iff_toInt_le.mpr z)
    refine ok_gd.mpr ⟨gb_of (by omega) (by omega), ?_⟩
    refine ok_nm2 (fun v4_2 ev4_2 => ?_)
    have f8 : 0 ≤ (σ.1 32 a3_1.toNatClampNeg).toInt ∧ (σ.1 32 a3_1.toNatClampNeg).toInt ≤ 11 := hIσ 32 _
    have qv4_2 : v4_2.toInt = (σ.1 32 a3_1.toNatClampNeg).toInt := congrArg Int32.toInt ev4_2
    refine ok_ite.mpr ⟨fun h_9 => ?_, fun h_9 => ?_⟩
    · have g10 : v4_2.toInt = p1.toInt := by rw [h_9]
      refine ok_gd.mpr ⟨gb_of (by omega) (by omega), ?_⟩
      refine ok_nm2 (fun v7_2 ev7_2 => ?_)
      have f11 : 0 ≤ (σ.1 33 a3_1.toNatClampNeg).toInt ∧ (σ.1 33 a3_1.toNatClampNeg).toInt ≤ 19 := hIσ 33 _
      have qv7_2 : v7_2.toInt = (σ.1 33 a3_1.toNatClampNeg).toInt := congrArg Int32.toInt ev7_2
      refine ok_ite.mpr ⟨fun h_12 => ?_, fun h_12 => ?_⟩
      · have g13 : v7_2.toInt = p2.toInt := by rw [h_12]
        refine ok_some.mpr ?_
        exact ⟨(show -1 ≤ a3_1.toInt by omega), (show a3_1.toInt ≤ 59 by omega)⟩
      · have g14 : v7_2.toInt ≠ p2.toInt := fun z => h_12 (Int32.toInt_inj.mp z)
        refine ok_nm2 (fun x9_2 ex9_2 => ?_)
        have f15 : (1 : Int32).toInt = 1 := by decide
        have f16 : (a3_1 + (1 : Int32)).toInt = a3_1.toInt + (1 : Int32).toInt := iadd_toInt (by omega) (by omega)
        have qx9_2 : x9_2.toInt = (a3_1 + 1).toInt := congrArg Int32.toInt ex9_2
        exact hrec_1 _ x9_2 (show (60 + 1 - x9_2.toInt).toNat < n_1 by omega) ⟨rfl, (show 0 ≤ x9_2.toInt by omega), (show x9_2.toInt ≤ 60 by omega)⟩
    · have g17 : v4_2.toInt ≠ p1.toInt := fun z => h_9 (Int32.toInt_inj.mp z)
      refine ok_nm2 (fun x6_2 ex6_2 => ?_)
      have f18 : (1 : Int32).toInt = 1 := by decide
      have f19 : (a3_1 + (1 : Int32)).toInt = a3_1.toInt + (1 : Int32).toInt := iadd_toInt (by omega) (by omega)
      have qx6_2 : x6_2.toInt = (a3_1 + 1).toInt := congrArg Int32.toInt ex6_2
      exact hrec_1 _ x6_2 (show (60 + 1 - x6_2.toInt).toNat < n_1 by omega) ⟨rfl, (show 0 ≤ x6_2.toInt by omega), (show x6_2.toInt ≤ 60 by omega)⟩
set_option maxRecDepth 20000 in
set_option maxHeartbeats 2000000 in
theorem o_fX3_readWord_K9 {σ : gS} (hIσ : JC σ)   : Ok (fX3_readWord_K9 σ ) (fun out => JC out.2 ∧ Fr fr_fX3_readWord_K9 σ out.2 ∧ 0 ≤ out.1.toInt ∧ out.1.toInt ≤ 1) := by
  unfold fX3_readWord_K9
  have hfσ : Fr fr_fX3_readWord_K9 σ σ := Fr_r
  have f1 : 0 ≤ (σ.1 46 6).toInt ∧ (σ.1 46 6).toInt ≤ 1600 := hIσ 46 6
  have f2 : (97 : Int32).toInt = 97 := by decide
  have f3 : (122 : Int32).toInt = 122 := by decide
  refine ok_bd.mpr ((o_fX3_markRun hIσ (p1 := (97 : Int32)) (p2 := (122 : Int32)) ).mono (fun σ2 ho_5 => ?_))
  obtain ⟨hIσ2, hcσ2⟩ := ho_5
  have hfσ2 : Fr fr_fX3_readWord_K9 σ σ2 := Fr_c hfσ hcσ2 (by decide)
  refine ok_bd.mpr ?_
  try unfold fX3_isNoRun
  refine ok_ite.mpr ⟨fun h_6 => ?_, fun h_6 => ?_⟩
  · have f7 : 0 ≤ (σ2.1 46 6).toInt ∧ (σ2.1 46 6).toInt ≤ 1600 := hIσ2 46 6
    have f8 : 0 ≤ (σ2.1 46 7).toInt ∧ (σ2.1 46 7).toInt ≤ 1600 := hIσ2 46 7
    have g9 : (σ2.1 46 6).toInt = (σ2.1 46 7).toInt := by rw [h_6]
    refine ok_some.mpr ?_
    refine ok_ite.mpr ⟨fun h_10 => ?_, fun h_10 => ?_⟩
    · have f11 : (1 : Int32).toInt = 1 := by decide
      have f12 : (0 : Int32).toInt = 0 := by decide
      have g13 : (1 : Int32).toInt = (0 : Int32).toInt := by rw [h_10]
      exfalso
      omega
    · have f14 : (1 : Int32).toInt = 1 := by decide
      have f15 : (0 : Int32).toInt = 0 := by decide
      have g16 : (1 : Int32).toInt ≠ (0 : Int32).toInt := fun z => h_10 (Int32.toInt_inj.mp z)
      refine ok_bd2.mpr ((o_fX3_fail hIσ2 (p1 := (1 : Int32)) (p2 := (σ2.1 46 6)) ).mono (fun o_17 ho_18 => ?_))
      obtain ⟨r7_2, σ8_2⟩ := o_17
      obtain ⟨hIσ8_2, hcσ8_2, r0r7_2, r1r7_2⟩ := ho_18
      dsimp only at hIσ8_2 hcσ8_2 r0r7_2 r1r7_2 ⊢
      have hfσ8_2 : Fr fr_fX3_readWord_K9 σ σ8_2 := Fr_c hfσ2 hcσ8_2 (by decide)
      have sσ8_2_46_6 : (σ8_2.1 46 6).toInt = (σ2.1 46 6).toInt := by rw [(hcσ8_2 46 6 (by decide) (by decide)).1]
      refine ok_some.mpr ?_
      have f19 : (vp_nar .boolean r7_2).toInt = r7_2.toInt := nar_bool2 (by omega) (by omega)
      exact ⟨hIσ8_2, hfσ8_2, (show 0 ≤ (vp_nar .boolean r7_2).toInt by omega), (show (vp_nar .boolean r7_2).toInt ≤ 1 by omega)⟩
  · have f20 : 0 ≤ (σ2.1 46 6).toInt ∧ (σ2.1 46 6).toInt ≤ 1600 := hIσ2 46 6
    have f21 : 0 ≤ (σ2.1 46 7).toInt ∧ (σ2.1 46 7).toInt ≤ 1600 := hIσ2 46 7
    have g22 : (σ2.1 46 6).toInt ≠ (σ2.1 46 7).toInt := fun z => h_6 (Int32.toInt_inj.mp z)
    refine ok_ite.mpr ⟨fun h_23 => ?_, fun h_23 => ?_⟩
    · have g24 : (σ2.1 46 6).toInt = (σ2.1 46 8).toInt := by rw [h_23]
      refine ok_some.mpr ?_
      refine ok_ite.mpr ⟨fun h_25 => ?_, fun h_25 => ?_⟩
      · have f26 : (1 : Int32).toInt = 1 := by decide
        have f27 : (0 : Int32).toInt = 0 := by decide
        have g28 : (1 : Int32).toInt = (0 : Int32).toInt := by rw [h_25]
        exfalso
        omega
      · have f29 : (1 : Int32).toInt = 1 := by decide
        have f30 : (0 : Int32).toInt = 0 := by decide
        have g31 : (1 : Int32).toInt ≠ (0 : Int32).toInt := fun z => h_25 (Int32.toInt_inj.mp z)
        refine ok_bd2.mpr ((o_fX3_fail hIσ2 (p1 := (1 : Int32)) (p2 := (σ2.1 46 6)) ).mono (fun o_32 ho_33 => ?_))
        obtain ⟨r7_3, σ8_3⟩ := o_32
        obtain ⟨hIσ8_3, hcσ8_3, r0r7_3, r1r7_3⟩ := ho_33
        dsimp only at hIσ8_3 hcσ8_3 r0r7_3 r1r7_3 ⊢
        have hfσ8_3 : Fr fr_fX3_readWord_K9 σ σ8_3 := Fr_c hfσ2 hcσ8_3 (by decide)
        have sσ8_3_46_6 : (σ8_3.1 46 6).toInt = (σ2.1 46 6).toInt := by rw [(hcσ8_3 46 6 (by decide) (by decide)).1]
        refine ok_some.mpr ?_
        have f34 : (vp_nar .boolean r7_3).toInt = r7_3.toInt := nar_bool2 (by omega) (by omega)
        exact ⟨hIσ8_3, hfσ8_3, (show 0 ≤ (vp_nar .boolean r7_3).toInt by omega), (show (vp_nar .boolean r7_3).toInt ≤ 1 by omega)⟩
    · have g35 : (σ2.1 46 6).toInt ≠ (σ2.1 46 8).toInt := fun z => h_23 (Int32.toInt_inj.mp z)
      refine ok_some.mpr ?_
      refine ok_ite.mpr ⟨fun h_36 => ?_, fun h_36 => ?_⟩
      · have f37 : (0 : Int32).toInt = 0 := by decide
        have g38 : (0 : Int32).toInt = (0 : Int32).toInt := by rw [h_36]
        refine ok_bd.mpr ((o_fX3_isWord_K9 hIσ2  ).mono (fun r10_4 ho_40 => ?_))
        obtain ⟨r0r10_4, r1r10_4⟩ := ho_40
        refine ok_ite.mpr ⟨fun h_41 => ?_, fun h_41 => ?_⟩
        · have g42 : r10_4.toInt = (0 : Int32).toInt := by rw [h_41]
          have f43 : (1 : Int32).toInt = 1 := by decide
          refine ok_bd2.mpr ((o_fX3_fail hIσ2 (p1 := (1 : Int32)) (p2 := (σ2.1 46 6)) ).mono (fun o_44 ho_45 => ?_))
          obtain ⟨r15_4, σ16_4⟩ := o_44
          obtain ⟨hIσ16_4, hcσ16_4, r0r15_4, r1r15_4⟩ := ho_45
          dsimp only at hIσ16_4 hcσ16_4 r0r15_4 r1r15_4 ⊢
          have hfσ16_4 : Fr fr_fX3_readWord_K9 σ σ16_4 := Fr_c hfσ2 hcσ16_4 (by decide)
          have sσ16_4_46_6 : (σ16_4.1 46 6).toInt = (σ2.1 46 6).toInt := by rw [(hcσ16_4 46 6 (by decide) (by decide)).1]
          refine ok_some.mpr ?_
          have f46 : (vp_nar .boolean r15_4).toInt = r15_4.toInt := nar_bool2 (by omega) (by omega)
          exact ⟨hIσ16_4, hfσ16_4, (show 0 ≤ (vp_nar .boolean r15_4).toInt by omega), (show (vp_nar .boolean r15_4).toInt ≤ 1 by omega)⟩
        · have g47 : r10_4.toInt ≠ (0 : Int32).toInt := fun z => h_41 (Int32.toInt_inj.mp z)
          refine ok_bd.mpr ((o_fX3_passRun hIσ2  ).mono (fun σ13_4 ho_49 => ?_))
          obtain ⟨hIσ13_4, hcσ13_4⟩ := ho_49
          have hfσ13_4 : Fr fr_fX3_readWord_K9 σ σ13_4 := Fr_c hfσ2 hcσ13_4 (by decide)
          have sσ13_4_46_6 : (σ13_4.1 46 6).toInt = (σ2.1 46 6).toInt := by rw [(hcσ13_4 46 6 (by decide) (by decide)).1]
          refine ok_some.mpr ?_
          have f50 : (1 : Int32).toInt = 1 := by decide
          exact ⟨hIσ13_4, hfσ13_4, (show 0 ≤ (1 : Int32).toInt by omega), (show (1 : Int32).toInt ≤ 1 by omega)⟩
      · have f51 : (0 : Int32).toInt = 0 := by decide
        have g52 : (0 : Int32).toInt ≠ (0 : Int32).toInt := fun z => h_36 (Int32.toInt_inj.mp z)
        exfalso
        omega
set_option maxRecDepth 20000 in
set_option maxHeartbeats 2000000 in
theorem o_fX3_readAt {σ : gS} (hIσ : JC σ)   : Ok (fX3_readAt σ ) (fun out => JC out.2 ∧ Fr fr_fX3_readAt σ out.2 ∧ 0 ≤ out.1.toInt ∧ out.1.toInt ≤ 1) := by
  unfold fX3_readAt
  have hfσ : Fr fr_fX3_readAt σ σ := Fr_r
  refine ok_bd2.mpr ((o_fX3_readWord_K9 hIσ  ).mono (fun o_1 ho_2 => ?_))
  obtain ⟨r2, σ3⟩ := o_1
  obtain ⟨hIσ3, hcσ3, r0r2, r1r2⟩ := ho_2
  dsimp only at hIσ3 hcσ3 r0r2 r1r2 ⊢
  have hfσ3 : Fr fr_fX3_readAt σ σ3 := Fr_c hfσ hcσ3 (by decide)
  have sσ3_46_11 : (σ3.1 46 11).toInt = (σ.1 46 11).toInt := by rw [(hcσ3 46 11 (by decide) (by decide)).1]
  refine ok_ite.mpr ⟨fun h_3 => ?_, fun h_3 => ?_⟩
  · have f4 : (0 : Int32).toInt = 0 := by decide
    have g5 : r2.toInt = (0 : Int32).toInt := by rw [h_3]
    refine ok_some.mpr ?_
    exact ⟨hIσ3, hfσ3, (show 0 ≤ (0 : Int32).toInt by omega), (show (0 : Int32).toInt ≤ 1 by omega)⟩
  · have f6 : (0 : Int32).toInt = 0 := by decide
    have g7 : r2.toInt ≠ (0 : Int32).toInt := fun z => h_3 (Int32.toInt_inj.mp z)
    have f8 : (9999 : Int32).toInt = 9999 := by decide
    refine ok_bd2.mpr ((o_fX3_readNumber hIσ3 (p1 := (0 : Int32)) (p2 := (9999 : Int32)) ).mono (fun o_9 ho_10 => ?_))
    obtain ⟨r6, σ7⟩ := o_9
    obtain ⟨hIσ7, hcσ7, r0r6, r1r6⟩ := ho_10
    dsimp only at hIσ7 hcσ7 r0r6 r1r6 ⊢
    have hfσ7 : Fr fr_fX3_readAt σ σ7 := Fr_c hfσ3 hcσ7 (by decide)
    refine ok_ite.mpr ⟨fun h_11 => ?_, fun h_11 => ?_⟩
    · have g12 : r6.toInt = (0 : Int32).toInt := by rw [h_11]
      refine ok_some.mpr ?_
      exact ⟨hIσ7, hfσ7, (show 0 ≤ (0 : Int32).toInt by omega), (show (0 : Int32).toInt ≤ 1 by omega)⟩
    · have g13 : r6.toInt ≠ (0 : Int32).toInt := fun z => h_11 (Int32.toInt_inj.mp z)
      refine ok_nm2 (fun σ9 eσ9 => ?_)
      have hIσ9 : JC σ9 := by rw [eσ9]; exact JC_w hIσ7 (Int32.le_toInt _) (Int32.toInt_le _)
      have hfσ9 : Fr fr_fX3_readAt σ σ9 := by rw [eσ9]; exact Fr_w hfσ7 (by decide)
      have sσ9_46_11 : (σ9.1 46 11).toInt = (σ7.1 46 11).toInt := by rw [eσ9]; rfl
      refine ok_bd2.mpr ((o_fX3_readNumber hIσ9 (p1 := (0 : Int32)) (p2 := (9999 : Int32)) ).mono (fun o_14 ho_15 => ?_))
      obtain ⟨r11, σ12⟩ := o_14
      obtain ⟨hIσ12, hcσ12, r0r11, r1r11⟩ := ho_15
      dsimp only at hIσ12 hcσ12 r0r11 r1r11 ⊢
      have hfσ12 : Fr fr_fX3_readAt σ σ12 := Fr_c hfσ9 hcσ12 (by decide)
      refine ok_ite.mpr ⟨fun h_16 => ?_, fun h_16 => ?_⟩
      · have g17 : r11.toInt = (0 : Int32).toInt := by rw [h_16]
        refine ok_some.mpr ?_
        exact ⟨hIσ12, hfσ12, (show 0 ≤ (0 : Int32).toInt by omega), (show (0 : Int32).toInt ≤ 1 by omega)⟩
      · have g18 : r11.toInt ≠ (0 : Int32).toInt := fun z => h_16 (Int32.toInt_inj.mp z)
        refine ok_nm2 (fun σ14 eσ14 => ?_)
        have hIσ14 : JC σ14 := by rw [eσ14]; exact JC_w hIσ12 (Int32.le_toInt _) (Int32.toInt_le _)
        have hfσ14 : Fr fr_fX3_readAt σ σ14 := by rw [eσ14]; exact Fr_w hfσ12 (by decide)
        have sσ14_46_11 : (σ14.1 46 11).toInt = (σ12.1 46 11).toInt := by rw [eσ14]; rfl
        refine ok_some.mpr ?_
        have f19 : (1 : Int32).toInt = 1 := by decide
        exact ⟨hIσ14, hfσ14, (show 0 ≤ (1 : Int32).toInt by omega), (show (1 : Int32).toInt ≤ 1 by omega)⟩
set_option maxRecDepth 20000 in
set_option maxHeartbeats 2000000 in
theorem o_fX3_readWord_K10 {σ : gS} (hIσ : JC σ)   : Ok (fX3_readWord_K10 σ ) (fun out => JC out.2 ∧ Fr fr_fX3_readWord_K10 σ out.2 ∧ 0 ≤ out.1.toInt ∧ out.1.toInt ≤ 1) := by
  unfold fX3_readWord_K10
  have hfσ : Fr fr_fX3_readWord_K10 σ σ := Fr_r
  have f1 : 0 ≤ (σ.1 46 6).toInt ∧ (σ.1 46 6).toInt ≤ 1600 := hIσ 46 6
  have f2 : (97 : Int32).toInt = 97 := by decide
  have f3 : (122 : Int32).toInt = 122 := by decide
  refine ok_bd.mpr ((o_fX3_markRun hIσ (p1 := (97 : Int32)) (p2 := (122 : Int32)) ).mono (fun σ2 ho_5 => ?_))
  obtain ⟨hIσ2, hcσ2⟩ := ho_5
  have hfσ2 : Fr fr_fX3_readWord_K10 σ σ2 := Fr_c hfσ hcσ2 (by decide)
  refine ok_bd.mpr ?_
  try unfold fX3_isNoRun
  refine ok_ite.mpr ⟨fun h_6 => ?_, fun h_6 => ?_⟩
  · have f7 : 0 ≤ (σ2.1 46 6).toInt ∧ (σ2.1 46 6).toInt ≤ 1600 := hIσ2 46 6
    have f8 : 0 ≤ (σ2.1 46 7).toInt ∧ (σ2.1 46 7).toInt ≤ 1600 := hIσ2 46 7
    have g9 : (σ2.1 46 6).toInt = (σ2.1 46 7).toInt := by rw [h_6]
    refine ok_some.mpr ?_
    refine ok_ite.mpr ⟨fun h_10 => ?_, fun h_10 => ?_⟩
    · have f11 : (1 : Int32).toInt = 1 := by decide
      have f12 : (0 : Int32).toInt = 0 := by decide
      have g13 : (1 : Int32).toInt = (0 : Int32).toInt := by rw [h_10]
      exfalso
      omega
    · have f14 : (1 : Int32).toInt = 1 := by decide
      have f15 : (0 : Int32).toInt = 0 := by decide
      have g16 : (1 : Int32).toInt ≠ (0 : Int32).toInt := fun z => h_10 (Int32.toInt_inj.mp z)
      refine ok_bd2.mpr ((o_fX3_fail hIσ2 (p1 := (1 : Int32)) (p2 := (σ2.1 46 6)) ).mono (fun o_17 ho_18 => ?_))
      obtain ⟨r7_2, σ8_2⟩ := o_17
      obtain ⟨hIσ8_2, hcσ8_2, r0r7_2, r1r7_2⟩ := ho_18
      dsimp only at hIσ8_2 hcσ8_2 r0r7_2 r1r7_2 ⊢
      have hfσ8_2 : Fr fr_fX3_readWord_K10 σ σ8_2 := Fr_c hfσ2 hcσ8_2 (by decide)
      have sσ8_2_46_6 : (σ8_2.1 46 6).toInt = (σ2.1 46 6).toInt := by rw [(hcσ8_2 46 6 (by decide) (by decide)).1]
      refine ok_some.mpr ?_
      have f19 : (vp_nar .boolean r7_2).toInt = r7_2.toInt := nar_bool2 (by omega) (by omega)
      exact ⟨hIσ8_2, hfσ8_2, (show 0 ≤ (vp_nar .boolean r7_2).toInt by omega), (show (vp_nar .boolean r7_2).toInt ≤ 1 by omega)⟩
  · have f20 : 0 ≤ (σ2.1 46 6).toInt ∧ (σ2.1 46 6).toInt ≤ 1600 := hIσ2 46 6
    have f21 : 0 ≤ (σ2.1 46 7).toInt ∧ (σ2.1 46 7).toInt ≤ 1600 := hIσ2 46 7
    have g22 : (σ2.1 46 6).toInt ≠ (σ2.1 46 7).toInt := fun z => h_6 (Int32.toInt_inj.mp z)
    refine ok_ite.mpr ⟨fun h_23 => ?_, fun h_23 => ?_⟩
    · have g24 : (σ2.1 46 6).toInt = (σ2.1 46 8).toInt := by rw [h_23]
      refine ok_some.mpr ?_
      refine ok_ite.mpr ⟨fun h_25 => ?_, fun h_25 => ?_⟩
      · have f26 : (1 : Int32).toInt = 1 := by decide
        have f27 : (0 : Int32).toInt = 0 := by decide
        have g28 : (1 : Int32).toInt = (0 : Int32).toInt := by rw [h_25]
        exfalso
        omega
      · have f29 : (1 : Int32).toInt = 1 := by decide
        have f30 : (0 : Int32).toInt = 0 := by decide
        have g31 : (1 : Int32).toInt ≠ (0 : Int32).toInt := fun z => h_25 (Int32.toInt_inj.mp z)
        refine ok_bd2.mpr ((o_fX3_fail hIσ2 (p1 := (1 : Int32)) (p2 := (σ2.1 46 6)) ).mono (fun o_32 ho_33 => ?_))
        obtain ⟨r7_3, σ8_3⟩ := o_32
        obtain ⟨hIσ8_3, hcσ8_3, r0r7_3, r1r7_3⟩ := ho_33
        dsimp only at hIσ8_3 hcσ8_3 r0r7_3 r1r7_3 ⊢
        have hfσ8_3 : Fr fr_fX3_readWord_K10 σ σ8_3 := Fr_c hfσ2 hcσ8_3 (by decide)
        have sσ8_3_46_6 : (σ8_3.1 46 6).toInt = (σ2.1 46 6).toInt := by rw [(hcσ8_3 46 6 (by decide) (by decide)).1]
        refine ok_some.mpr ?_
        have f34 : (vp_nar .boolean r7_3).toInt = r7_3.toInt := nar_bool2 (by omega) (by omega)
        exact ⟨hIσ8_3, hfσ8_3, (show 0 ≤ (vp_nar .boolean r7_3).toInt by omega), (show (vp_nar .boolean r7_3).toInt ≤ 1 by omega)⟩
    · have g35 : (σ2.1 46 6).toInt ≠ (σ2.1 46 8).toInt := fun z => h_23 (Int32.toInt_inj.mp z)
      refine ok_some.mpr ?_
      refine ok_ite.mpr ⟨fun h_36 => ?_, fun h_36 => ?_⟩
      · have f37 : (0 : Int32).toInt = 0 := by decide
        have g38 : (0 : Int32).toInt = (0 : Int32).toInt := by rw [h_36]
        refine ok_bd.mpr ((o_fX3_isWord_K10 hIσ2  ).mono (fun r10_4 ho_40 => ?_))
        obtain ⟨r0r10_4, r1r10_4⟩ := ho_40
        refine ok_ite.mpr ⟨fun h_41 => ?_, fun h_41 => ?_⟩
        · have g42 : r10_4.toInt = (0 : Int32).toInt := by rw [h_41]
          have f43 : (1 : Int32).toInt = 1 := by decide
          refine ok_bd2.mpr ((o_fX3_fail hIσ2 (p1 := (1 : Int32)) (p2 := (σ2.1 46 6)) ).mono (fun o_44 ho_45 => ?_))
          obtain ⟨r15_4, σ16_4⟩ := o_44
          obtain ⟨hIσ16_4, hcσ16_4, r0r15_4, r1r15_4⟩ := ho_45
          dsimp only at hIσ16_4 hcσ16_4 r0r15_4 r1r15_4 ⊢
          have hfσ16_4 : Fr fr_fX3_readWord_K10 σ σ16_4 := Fr_c hfσ2 hcσ16_4 (by decide)
          have sσ16_4_46_6 : (σ16_4.1 46 6).toInt = (σ2.1 46 6).toInt := by rw [(hcσ16_4 46 6 (by decide) (by decide)).1]
          refine ok_some.mpr ?_
          have f46 : (vp_nar .boolean r15_4).toInt = r15_4.toInt := nar_bool2 (by omega) (by omega)
          exact ⟨hIσ16_4, hfσ16_4, (show 0 ≤ (vp_nar .boolean r15_4).toInt by omega), (show (vp_nar .boolean r15_4).toInt ≤ 1 by omega)⟩
        · have g47 : r10_4.toInt ≠ (0 : Int32).toInt := fun z => h_41 (Int32.toInt_inj.mp z)
          refine ok_bd.mpr ((o_fX3_passRun hIσ2  ).mono (fun σ13_4 ho_49 => ?_))
          obtain ⟨hIσ13_4, hcσ13_4⟩ := ho_49
          have hfσ13_4 : Fr fr_fX3_readWord_K10 σ σ13_4 := Fr_c hfσ2 hcσ13_4 (by decide)
          have sσ13_4_46_6 : (σ13_4.1 46 6).toInt = (σ2.1 46 6).toInt := by rw [(hcσ13_4 46 6 (by decide) (by decide)).1]
          refine ok_some.mpr ?_
          have f50 : (1 : Int32).toInt = 1 := by decide
          exact ⟨hIσ13_4, hfσ13_4, (show 0 ≤ (1 : Int32).toInt by omega), (show (1 : Int32).toInt ≤ 1 by omega)⟩
      · have f51 : (0 : Int32).toInt = 0 := by decide
        have g52 : (0 : Int32).toInt ≠ (0 : Int32).toInt := fun z => h_36 (Int32.toInt_inj.mp z)
        exfalso
        omega
set_option maxRecDepth 20000 in
set_option maxHeartbeats 2000000 in
theorem o_fX8_setMeasured_24 {σ : gS} (hIσ : JC σ) {p1 : Int32} {p2 : Int32} {p3 : Int32} (h0p1 : 0 ≤ p1.toInt) (h1p1 : p1.toInt ≤ 59) : Ok (fX8_setMeasured_24 σ p1 p2 p3) (fun out => JC out ∧ Fr fr_fX8_setMeasured_24 σ out) := by
  unfold fX8_setMeasured_24
  have hfσ : Fr fr_fX8_setMeasured_24 σ σ := Fr_r
  have f1 : (0 : Int32).toInt = 0 := by decide
  refine ok_gd.mpr ⟨gb_of (by omega) (by omega), ?_⟩
  refine ok_gd.mpr ⟨gb_of (by omega) (by omega), ?_⟩
  refine ok_nm2 (fun σ2 eσ2 => ?_)
  have hIσ2 : JC σ2 := by rw [eσ2]; exact JC_w hIσ (Int32.le_toInt _) (Int32.toInt_le _)
  have hfσ2 : Fr fr_fX8_setMeasured_24 σ σ2 := by rw [eσ2]; exact Fr_w0 hfσ (by decide)
  have f2 : (1 : Int32).toInt = 1 := by decide
  refine ok_gd.mpr ⟨gb_of (by omega) (by omega), ?_⟩
  refine ok_gd.mpr ⟨gb_of (by omega) (by omega), ?_⟩
  refine ok_nm2 (fun σ4 eσ4 => ?_)
  have hIσ4 : JC σ4 := by rw [eσ4]; exact JC_w hIσ2 (Int32.le_toInt _) (Int32.toInt_le _)
  have hfσ4 : Fr fr_fX8_setMeasured_24 σ σ4 := by rw [eσ4]; exact Fr_w0 hfσ2 (by decide)
  refine ok_some.mpr ?_
  exact ⟨hIσ4, hfσ4⟩
set_option maxRecDepth 20000 in
set_option maxHeartbeats 2000000 in
theorem o_fX8_addRow_24 {σ : gS} (hIσ : JC σ) {p1 : Int32} {p2 : Int32} {p3 : Int32} {p4 : Int32} {p5 : Int32} (h0p1 : 0 ≤ p1.toInt) (h1p1 : p1.toInt ≤ 11) (h0p2 : 0 ≤ p2.toInt) (h1p2 : p2.toInt ≤ 19) : Ok (fX8_addRow_24 σ p1 p2 p3 p4 p5) (fun out => JC out ∧ Fr fr_fX8_addRow_24 σ out) := by
  unfold fX8_addRow_24
  have hfσ : Fr fr_fX8_addRow_24 σ σ := Fr_r
  have f1 : 0 ≤ (σ.1 25 0).toInt ∧ (σ.1 25 0).toInt ≤ 6 := hIσ 25 0
  have f2 : 0 ≤ (σ.1 25 1).toInt ∧ (σ.1 25 1).toInt ≤ 12 := hIσ 25 1
  have f3 : 0 ≤ (σ.1 25 2).toInt ∧ (σ.1 25 2).toInt ≤ 20 := hIσ 25 2
  have f4 : 0 ≤ (σ.1 25 3).toInt ∧ (σ.1 25 3).toInt ≤ 60 := hIσ 25 3
  have f5 : (3 : Int32).toInt = 3 := by decide
  refine ok_bd.mpr ((o_fX8_isFull_24 hIσ (p1 := (3 : Int32)) (by omega) (by omega)).mono (fun r2 ho_7 => ?_))
  obtain ⟨r0r2, r1r2, hp_8⟩ := ho_7
  refine ok_ite.mpr ⟨fun h_9 => ?_, fun h_9 => ?_⟩
  · have f10 : (0 : Int32).toInt = 0 := by decide
    have g11 : r2.toInt = (0 : Int32).toInt := by rw [h_9]
    refine ok_gd.mpr ⟨gb_of (by omega) (by omega), ?_⟩
    refine ok_nm2 (fun v4 ev4 => ?_)
    have qv4 : v4.toInt = (σ.1 25 3).toInt := congrArg Int32.toInt ev4
    refine ok_nm.mpr ?_
    refine ok_gd.mpr ⟨gb_of (by omega) (by omega), ?_⟩
    refine ok_nm2 (fun σ6_1 eσ6_1 => ?_)
    have hIσ6_1 : JC σ6_1 := by rw [eσ6_1]; exact JC_w hIσ (show 0 ≤ _ by omega) (show _ ≤ 11 by omega)
    have hfσ6_1 : Fr fr_fX8_addRow_24 σ σ6_1 := by rw [eσ6_1]; exact Fr_w0 hfσ (by decide)
    have sσ6_1_25_0 : (σ6_1.1 25 0).toInt = (σ.1 25 0).toInt := by rw [eσ6_1]; rfl
    have sσ6_1_25_1 : (σ6_1.1 25 1).toInt = (σ.1 25 1).toInt := by rw [eσ6_1]; rfl
    have sσ6_1_25_2 : (σ6_1.1 25 2).toInt = (σ.1 25 2).toInt := by rw [eσ6_1]; rfl
    have sσ6_1_25_3 : (σ6_1.1 25 3).toInt = (σ.1 25 3).toInt := by rw [eσ6_1]; rfl
    refine ok_gd.mpr ⟨gb_of (by omega) (by omega), ?_⟩
    refine ok_nm2 (fun σ7_1 eσ7_1 => ?_)
    have hIσ7_1 : JC σ7_1 := by rw [eσ7_1]; exact JC_w hIσ6_1 (show 0 ≤ _ by omega) (show _ ≤ 19 by omega)
    have hfσ7_1 : Fr fr_fX8_addRow_24 σ σ7_1 := by rw [eσ7_1]; exact Fr_w0 hfσ6_1 (by decide)
    have sσ7_1_25_0 : (σ7_1.1 25 0).toInt = (σ6_1.1 25 0).toInt := by rw [eσ7_1]; rfl
    have sσ7_1_25_1 : (σ7_1.1 25 1).toInt = (σ6_1.1 25 1).toInt := by rw [eσ7_1]; rfl
    have sσ7_1_25_2 : (σ7_1.1 25 2).toInt = (σ6_1.1 25 2).toInt := by rw [eσ7_1]; rfl
    have sσ7_1_25_3 : (σ7_1.1 25 3).toInt = (σ6_1.1 25 3).toInt := by rw [eσ7_1]; rfl
    refine ok_gd.mpr ⟨gb_of (by omega) (by omega), ?_⟩
    refine ok_nm2 (fun σ8_1 eσ8_1 => ?_)
    have hIσ8_1 : JC σ8_1 := by rw [eσ8_1]; exact JC_w hIσ7_1 (Int32.le_toInt _) (Int32.toInt_le _)
    have hfσ8_1 : Fr fr_fX8_addRow_24 σ σ8_1 := by rw [eσ8_1]; exact Fr_w0 hfσ7_1 (by decide)
    have sσ8_1_25_0 : (σ8_1.1 25 0).toInt = (σ7_1.1 25 0).toInt := by rw [eσ8_1]; rfl
    have sσ8_1_25_1 : (σ8_1.1 25 1).toInt = (σ7_1.1 25 1).toInt := by rw [eσ8_1]; rfl
    have sσ8_1_25_2 : (σ8_1.1 25 2).toInt = (σ7_1.1 25 2).toInt := by rw [eσ8_1]; rfl
    have sσ8_1_25_3 : (σ8_1.1 25 3).toInt = (σ7_1.1 25 3).toInt := by rw [eσ8_1]; rfl
    refine ok_gd.mpr ⟨gb_of (by omega) (by omega), ?_⟩
    refine ok_nm2 (fun v9_1 ev9_1 => ?_)
    have f12 : 0 ≤ (σ8_1.1 25 3).toInt ∧ (σ8_1.1 25 3).toInt ≤ 60 := hIσ8_1 25 3
    have qv9_1 : v9_1.toInt = (σ8_1.1 25 3).toInt := congrArg Int32.toInt ev9_1
    refine ok_gd.mpr ⟨gb_of (by omega) (by omega), ?_⟩
    refine ok_nm2 (fun σ10_1 eσ10_1 => ?_)
    have f13 : (1 : Int32).toInt = 1 := by decide
    have f14 : (v9_1 + (1 : Int32)).toInt = v9_1.toInt + (1 : Int32).toInt := iadd_toInt (by omega) (by omega)
    have hIσ10_1 : JC σ10_1 := by rw [eσ10_1]; exact JC_w hIσ8_1 (show 0 ≤ _ by omega) (show _ ≤ 60 by omega)
    have hfσ10_1 : Fr fr_fX8_addRow_24 σ σ10_1 := by rw [eσ10_1]; exact Fr_w0 hfσ8_1 (by decide)
    have sσ10_1_25_0 : (σ10_1.1 25 0).toInt = (σ8_1.1 25 0).toInt := by rw [eσ10_1]; rfl
    have sσ10_1_25_1 : (σ10_1.1 25 1).toInt = (σ8_1.1 25 1).toInt := by rw [eσ10_1]; rfl
    have sσ10_1_25_2 : (σ10_1.1 25 2).toInt = (σ8_1.1 25 2).toInt := by rw [eσ10_1]; rfl
    have sσ10_1_25_3 : (σ10_1.1 25 3).toInt = (v9_1 + 1).toInt := by rw [eσ10_1]; rfl
    refine ok_bd.mpr ((o_fX8_setMeasured_24 hIσ10_1 (p1 := v4) (p2 := p3) (p3 := p4) (by omega) (by omega)).mono (fun σ12_1 ho_16 => ?_))
    obtain ⟨hIσ12_1, hcσ12_1⟩ := ho_16
    have hfσ12_1 : Fr fr_fX8_addRow_24 σ σ12_1 := Fr_c hfσ10_1 hcσ12_1 (by decide)
    have sσ12_1_25_0 : (σ12_1.1 25 0).toInt = (σ10_1.1 25 0).toInt := by rw [(hcσ12_1 25 0 (by decide) (by decide)).1]
    have sσ12_1_25_1 : (σ12_1.1 25 1).toInt = (σ10_1.1 25 1).toInt := by rw [(hcσ12_1 25 1 (by decide) (by decide)).1]
    have sσ12_1_25_2 : (σ12_1.1 25 2).toInt = (σ10_1.1 25 2).toInt := by rw [(hcσ12_1 25 2 (by decide) (by decide)).1]
    have sσ12_1_25_3 : (σ12_1.1 25 3).toInt = (σ10_1.1 25 3).toInt := by rw [(hcσ12_1 25 3 (by decide) (by decide)).1]
    refine ok_some.mpr ?_
    exact ⟨hIσ12_1, hfσ12_1⟩
  · have f17 : (0 : Int32).toInt = 0 := by decide
    have g18 : r2.toInt ≠ (0 : Int32).toInt := fun z => h_9 (Int32.toInt_inj.mp z)
    refine ok_some.mpr ?_
    exact ⟨hIσ, hfσ⟩
set_option maxRecDepth 20000 in
set_option maxHeartbeats 2000000 in
theorem o_fX3_readRow {σ : gS} (hIσ : JC σ)   : Ok (fX3_readRow σ ) (fun out => JC out.2 ∧ Fr fr_fX3_readRow σ out.2 ∧ 0 ≤ out.1.toInt ∧ out.1.toInt ≤ 1) := by
  unfold fX3_readRow
  have hfσ : Fr fr_fX3_readRow σ σ := Fr_r
  have f1 : 0 ≤ (σ.1 46 6).toInt ∧ (σ.1 46 6).toInt ≤ 1600 := hIσ 46 6
  have f2 : -1 ≤ (σ.1 46 10).toInt ∧ (σ.1 46 10).toInt ≤ 19 := hIσ 46 10
  have f3 : (1 : Int32).toInt = 1 := by decide
  refine ok_bd2.mpr ((o_fX3_readName hIσ (p1 := (1 : Int32)) (by omega) (by omega)).mono (fun o_4 ho_5 => ?_))
  obtain ⟨r2, σ3⟩ := o_4
  obtain ⟨hIσ3, hcσ3, r0r2, r1r2, hp_6⟩ := ho_5
  dsimp only at hIσ3 hcσ3 r0r2 r1r2 hp_6 ⊢
  have hfσ3 : Fr fr_fX3_readRow σ σ3 := Fr_c hfσ hcσ3 (by decide)
  have sσ3_46_11 : (σ3.1 46 11).toInt = (σ.1 46 11).toInt := by rw [(hcσ3 46 11 (by decide) (by decide)).1]
  have sσ3_46_12 : (σ3.1 46 12).toInt = (σ.1 46 12).toInt := by rw [(hcσ3 46 12 (by decide) (by decide)).1]
  have sσ3_46_13 : (σ3.1 46 13).toInt = (σ.1 46 13).toInt := by rw [(hcσ3 46 13 (by decide) (by decide)).1]
  refine ok_ite.mpr ⟨fun h_7 => ?_, fun h_7 => ?_⟩
  · have f8 : (0 : Int32).toInt = 0 := by decide
    have g9 : r2.toInt = (0 : Int32).toInt := by rw [h_7]
    refine ok_some.mpr ?_
    exact ⟨hIσ3, hfσ3, (show 0 ≤ (0 : Int32).toInt by omega), (show (0 : Int32).toInt ≤ 1 by omega)⟩
  · have f10 : (0 : Int32).toInt = 0 := by decide
    have g11 : r2.toInt ≠ (0 : Int32).toInt := fun z => h_7 (Int32.toInt_inj.mp z)
    refine ok_nm2 (fun x5 ex5 => ?_)
    have f12 : -1 ≤ (σ3.1 46 10).toInt ∧ (σ3.1 46 10).toInt ≤ 19 := hIσ3 46 10
    have qx5 : x5.toInt = (σ3.1 46 10).toInt := congrArg Int32.toInt ex5
    have f13 : (2 : Int32).toInt = 2 := by decide
    refine ok_bd2.mpr ((o_fX3_readName hIσ3 (p1 := (2 : Int32)) (by omega) (by omega)).mono (fun o_14 ho_15 => ?_))
    obtain ⟨r7, σ8⟩ := o_14
    obtain ⟨hIσ8, hcσ8, r0r7, r1r7, hp_16⟩ := ho_15
    dsimp only at hIσ8 hcσ8 r0r7 r1r7 hp_16 ⊢
    have hfσ8 : Fr fr_fX3_readRow σ σ8 := Fr_c hfσ3 hcσ8 (by decide)
    have sσ8_46_11 : (σ8.1 46 11).toInt = (σ3.1 46 11).toInt := by rw [(hcσ8 46 11 (by decide) (by decide)).1]
    have sσ8_46_12 : (σ8.1 46 12).toInt = (σ3.1 46 12).toInt := by rw [(hcσ8 46 12 (by decide) (by decide)).1]
    have sσ8_46_13 : (σ8.1 46 13).toInt = (σ3.1 46 13).toInt := by rw [(hcσ8 46 13 (by decide) (by decide)).1]
    refine ok_ite.mpr ⟨fun h_17 => ?_, fun h_17 => ?_⟩
    · have g18 : r7.toInt = (0 : Int32).toInt := by rw [h_17]
      refine ok_some.mpr ?_
      exact ⟨hIσ8, hfσ8, (show 0 ≤ (0 : Int32).toInt by omega), (show (0 : Int32).toInt ≤ 1 by omega)⟩
    · have g19 : r7.toInt ≠ (0 : Int32).toInt := fun z => h_17 (Int32.toInt_inj.mp z)
      have f20 : -1 ≤ (σ8.1 46 10).toInt ∧ (σ8.1 46 10).toInt ≤ 19 := hIσ8 46 10
      refine ok_bd.mpr ((o_fX8_findRow_24 hIσ8 (p1 := x5) (p2 := (σ8.1 46 10)) ).mono (fun r11 ho_22 => ?_))
      obtain ⟨r0r11, r1r11⟩ := ho_22
      refine ok_ite.mpr ⟨fun h_23 => ?_, fun h_23 => ?_⟩
      · have f24 : (-1 : Int32).toInt = -1 := by decide
        have g25 : r11.toInt = (-1 : Int32).toInt := by rw [h_23]
        refine ok_bd2.mpr ((o_fX3_readAt hIσ8  ).mono (fun o_26 ho_27 => ?_))
        obtain ⟨r14, σ15⟩ := o_26
        obtain ⟨hIσ15, hcσ15, r0r14, r1r14⟩ := ho_27
        dsimp only at hIσ15 hcσ15 r0r14 r1r14 ⊢
        have hfσ15 : Fr fr_fX3_readRow σ σ15 := Fr_c hfσ8 hcσ15 (by decide)
        have sσ15_46_10 : (σ15.1 46 10).toInt = (σ8.1 46 10).toInt := by rw [(hcσ15 46 10 (by decide) (by decide)).1]
        refine ok_ite.mpr ⟨fun h_28 => ?_, fun h_28 => ?_⟩
        · have g29 : r14.toInt = (0 : Int32).toInt := by rw [h_28]
          refine ok_some.mpr ?_
          exact ⟨hIσ15, hfσ15, (show 0 ≤ (0 : Int32).toInt by omega), (show (0 : Int32).toInt ≤ 1 by omega)⟩
        · have g30 : r14.toInt ≠ (0 : Int32).toInt := fun z => h_28 (Int32.toInt_inj.mp z)
          refine ok_bd2.mpr ((o_fX3_readWord_K10 hIσ15  ).mono (fun o_31 ho_32 => ?_))
          obtain ⟨r18, σ19⟩ := o_31
          obtain ⟨hIσ19, hcσ19, r0r18, r1r18⟩ := ho_32
          dsimp only at hIσ19 hcσ19 r0r18 r1r18 ⊢
          have hfσ19 : Fr fr_fX3_readRow σ σ19 := Fr_c hfσ15 hcσ19 (by decide)
          have sσ19_46_10 : (σ19.1 46 10).toInt = (σ15.1 46 10).toInt := by rw [(hcσ19 46 10 (by decide) (by decide)).1]
          have sσ19_46_11 : (σ19.1 46 11).toInt = (σ15.1 46 11).toInt := by rw [(hcσ19 46 11 (by decide) (by decide)).1]
          have sσ19_46_12 : (σ19.1 46 12).toInt = (σ15.1 46 12).toInt := by rw [(hcσ19 46 12 (by decide) (by decide)).1]
          have sσ19_46_13 : (σ19.1 46 13).toInt = (σ15.1 46 13).toInt := by rw [(hcσ19 46 13 (by decide) (by decide)).1]
          refine ok_ite.mpr ⟨fun h_33 => ?_, fun h_33 => ?_⟩
          · have g34 : r18.toInt = (0 : Int32).toInt := by rw [h_33]
            refine ok_some.mpr ?_
            exact ⟨hIσ19, hfσ19, (show 0 ≤ (0 : Int32).toInt by omega), (show (0 : Int32).toInt ≤ 1 by omega)⟩
          · have g35 : r18.toInt ≠ (0 : Int32).toInt := fun z => h_33 (Int32.toInt_inj.mp z)
            have f36 : (9 : Int32).toInt = 9 := by decide
            refine ok_bd2.mpr ((o_fX3_readNumber hIσ19 (p1 := (1 : Int32)) (p2 := (9 : Int32)) ).mono (fun o_37 ho_38 => ?_))
            obtain ⟨r22, σ23⟩ := o_37
            obtain ⟨hIσ23, hcσ23, r0r22, r1r22⟩ := ho_38
            dsimp only at hIσ23 hcσ23 r0r22 r1r22 ⊢
            have hfσ23 : Fr fr_fX3_readRow σ σ23 := Fr_c hfσ19 hcσ23 (by decide)
            have sσ23_46_10 : (σ23.1 46 10).toInt = (σ19.1 46 10).toInt := by rw [(hcσ23 46 10 (by decide) (by decide)).1]
            have sσ23_46_12 : (σ23.1 46 12).toInt = (σ19.1 46 12).toInt := by rw [(hcσ23 46 12 (by decide) (by decide)).1]
            have sσ23_46_13 : (σ23.1 46 13).toInt = (σ19.1 46 13).toInt := by rw [(hcσ23 46 13 (by decide) (by decide)).1]
            refine ok_ite.mpr ⟨fun h_39 => ?_, fun h_39 => ?_⟩
            · have g40 : r22.toInt = (0 : Int32).toInt := by rw [h_39]
              refine ok_some.mpr ?_
              exact ⟨hIσ23, hfσ23, (show 0 ≤ (0 : Int32).toInt by omega), (show (0 : Int32).toInt ≤ 1 by omega)⟩
            · have g41 : r22.toInt ≠ (0 : Int32).toInt := fun z => h_39 (Int32.toInt_inj.mp z)
              have f42 : -1 ≤ (σ23.1 46 10).toInt ∧ (σ23.1 46 10).toInt ≤ 19 := hIσ23 46 10
              refine ok_bd.mpr ((o_fX8_addRow_24 hIσ23 (p1 := x5) (p2 := (σ23.1 46 10)) (p3 := (σ23.1 46 12)) (p4 := (σ23.1 46 13)) (p5 := (σ23.1 46 11)) (by omega) (by omega) (by omega) (by omega)).mono (fun σ26 ho_44 => ?_))
              obtain ⟨hIσ26, hcσ26⟩ := ho_44
              have hfσ26 : Fr fr_fX3_readRow σ σ26 := Fr_c hfσ23 hcσ26 (by decide)
              have sσ26_46_6 : (σ26.1 46 6).toInt = (σ23.1 46 6).toInt := by rw [(hcσ26 46 6 (by decide) (by decide)).1]
              have sσ26_46_10 : (σ26.1 46 10).toInt = (σ23.1 46 10).toInt := by rw [(hcσ26 46 10 (by decide) (by decide)).1]
              have sσ26_46_11 : (σ26.1 46 11).toInt = (σ23.1 46 11).toInt := by rw [(hcσ26 46 11 (by decide) (by decide)).1]
              have sσ26_46_12 : (σ26.1 46 12).toInt = (σ23.1 46 12).toInt := by rw [(hcσ26 46 12 (by decide) (by decide)).1]
              have sσ26_46_13 : (σ26.1 46 13).toInt = (σ23.1 46 13).toInt := by rw [(hcσ26 46 13 (by decide) (by decide)).1]
              refine ok_some.mpr ?_
              exact ⟨hIσ26, hfσ26, (show 0 ≤ (1 : Int32).toInt by omega), (show (1 : Int32).toInt ≤ 1 by omega)⟩
      · have f45 : (-1 : Int32).toInt = -1 := by decide
        have g46 : r11.toInt ≠ (-1 : Int32).toInt := fun z => h_23 (Int32.toInt_inj.mp z)
        have f47 : (3 : Int32).toInt = 3 := by decide
        have f48 : 0 ≤ (σ8.1 46 6).toInt ∧ (σ8.1 46 6).toInt ≤ 1600 := hIσ8 46 6
        refine ok_bd2.mpr ((o_fX3_fail hIσ8 (p1 := (3 : Int32)) (p2 := (σ8.1 46 6)) ).mono (fun o_49 ho_50 => ?_))
        obtain ⟨r28, σ29⟩ := o_49
        obtain ⟨hIσ29, hcσ29, r0r28, r1r28⟩ := ho_50
        dsimp only at hIσ29 hcσ29 r0r28 r1r28 ⊢
        have hfσ29 : Fr fr_fX3_readRow σ σ29 := Fr_c hfσ8 hcσ29 (by decide)
        have sσ29_46_6 : (σ29.1 46 6).toInt = (σ8.1 46 6).toInt := by rw [(hcσ29 46 6 (by decide) (by decide)).1]
        have sσ29_46_10 : (σ29.1 46 10).toInt = (σ8.1 46 10).toInt := by rw [(hcσ29 46 10 (by decide) (by decide)).1]
        have sσ29_46_11 : (σ29.1 46 11).toInt = (σ8.1 46 11).toInt := by rw [(hcσ29 46 11 (by decide) (by decide)).1]
        have sσ29_46_12 : (σ29.1 46 12).toInt = (σ8.1 46 12).toInt := by rw [(hcσ29 46 12 (by decide) (by decide)).1]
        have sσ29_46_13 : (σ29.1 46 13).toInt = (σ8.1 46 13).toInt := by rw [(hcσ29 46 13 (by decide) (by decide)).1]
        refine ok_some.mpr ?_
        have f51 : (vp_nar .boolean r28).toInt = r28.toInt := nar_bool2 (by omega) (by omega)
        exact ⟨hIσ29, hfσ29, (show 0 ≤ (vp_nar .boolean r28).toInt by omega), (show (vp_nar .boolean r28).toInt ≤ 1 by omega)⟩
set_option maxRecDepth 20000 in
set_option maxHeartbeats 2000000 in
theorem o_fX3_readWord_K11 {σ : gS} (hIσ : JC σ)   : Ok (fX3_readWord_K11 σ ) (fun out => JC out.2 ∧ Fr fr_fX3_readWord_K11 σ out.2 ∧ 0 ≤ out.1.toInt ∧ out.1.toInt ≤ 1) := by
  unfold fX3_readWord_K11
  have hfσ : Fr fr_fX3_readWord_K11 σ σ := Fr_r
  have f1 : 0 ≤ (σ.1 46 6).toInt ∧ (σ.1 46 6).toInt ≤ 1600 := hIσ 46 6
  have f2 : (97 : Int32).toInt = 97 := by decide
  have f3 : (122 : Int32).toInt = 122 := by decide
  refine ok_bd.mpr ((o_fX3_markRun hIσ (p1 := (97 : Int32)) (p2 := (122 : Int32)) ).mono (fun σ2 ho_5 => ?_))
  obtain ⟨hIσ2, hcσ2⟩ := ho_5
  have hfσ2 : Fr fr_fX3_readWord_K11 σ σ2 := Fr_c hfσ hcσ2 (by decide)
  refine ok_bd.mpr ?_
  try unfold fX3_isNoRun
  refine ok_ite.mpr ⟨fun h_6 => ?_, fun h_6 => ?_⟩
  · have f7 : 0 ≤ (σ2.1 46 6).toInt ∧ (σ2.1 46 6).toInt ≤ 1600 := hIσ2 46 6
    have f8 : 0 ≤ (σ2.1 46 7).toInt ∧ (σ2.1 46 7).toInt ≤ 1600 := hIσ2 46 7
    have g9 : (σ2.1 46 6).toInt = (σ2.1 46 7).toInt := by rw [h_6]
    refine ok_some.mpr ?_
    refine ok_ite.mpr ⟨fun h_10 => ?_, fun h_10 => ?_⟩
    · have f11 : (1 : Int32).toInt = 1 := by decide
      have f12 : (0 : Int32).toInt = 0 := by decide
      have g13 : (1 : Int32).toInt = (0 : Int32).toInt := by rw [h_10]
      exfalso
      omega
    · have f14 : (1 : Int32).toInt = 1 := by decide
      have f15 : (0 : Int32).toInt = 0 := by decide
      have g16 : (1 : Int32).toInt ≠ (0 : Int32).toInt := fun z => h_10 (Int32.toInt_inj.mp z)
      refine ok_bd2.mpr ((o_fX3_fail hIσ2 (p1 := (1 : Int32)) (p2 := (σ2.1 46 6)) ).mono (fun o_17 ho_18 => ?_))
      obtain ⟨r7_2, σ8_2⟩ := o_17
      obtain ⟨hIσ8_2, hcσ8_2, r0r7_2, r1r7_2⟩ := ho_18
      dsimp only at hIσ8_2 hcσ8_2 r0r7_2 r1r7_2 ⊢
      have hfσ8_2 : Fr fr_fX3_readWord_K11 σ σ8_2 := Fr_c hfσ2 hcσ8_2 (by decide)
      have sσ8_2_46_6 : (σ8_2.1 46 6).toInt = (σ2.1 46 6).toInt := by rw [(hcσ8_2 46 6 (by decide) (by decide)).1]
      refine ok_some.mpr ?_
      have f19 : (vp_nar .boolean r7_2).toInt = r7_2.toInt := nar_bool2 (by omega) (by omega)
      exact ⟨hIσ8_2, hfσ8_2, (show 0 ≤ (vp_nar .boolean r7_2).toInt by omega), (show (vp_nar .boolean r7_2).toInt ≤ 1 by omega)⟩
  · have f20 : 0 ≤ (σ2.1 46 6).toInt ∧ (σ2.1 46 6).toInt ≤ 1600 := hIσ2 46 6
    have f21 : 0 ≤ (σ2.1 46 7).toInt ∧ (σ2.1 46 7).toInt ≤ 1600 := hIσ2 46 7
    have g22 : (σ2.1 46 6).toInt ≠ (σ2.1 46 7).toInt := fun z => h_6 (Int32.toInt_inj.mp z)
    refine ok_ite.mpr ⟨fun h_23 => ?_, fun h_23 => ?_⟩
    · have g24 : (σ2.1 46 6).toInt = (σ2.1 46 8).toInt := by rw [h_23]
      refine ok_some.mpr ?_
      refine ok_ite.mpr ⟨fun h_25 => ?_, fun h_25 => ?_⟩
      · have f26 : (1 : Int32).toInt = 1 := by decide
        have f27 : (0 : Int32).toInt = 0 := by decide
        have g28 : (1 : Int32).toInt = (0 : Int32).toInt := by rw [h_25]
        exfalso
        omega
      · have f29 : (1 : Int32).toInt = 1 := by decide
        have f30 : (0 : Int32).toInt = 0 := by decide
        have g31 : (1 : Int32).toInt ≠ (0 : Int32).toInt := fun z => h_25 (Int32.toInt_inj.mp z)
        refine ok_bd2.mpr ((o_fX3_fail hIσ2 (p1 := (1 : Int32)) (p2 := (σ2.1 46 6)) ).mono (fun o_32 ho_33 => ?_))
        obtain ⟨r7_3, σ8_3⟩ := o_32
        obtain ⟨hIσ8_3, hcσ8_3, r0r7_3, r1r7_3⟩ := ho_33
        dsimp only at hIσ8_3 hcσ8_3 r0r7_3 r1r7_3 ⊢
        have hfσ8_3 : Fr fr_fX3_readWord_K11 σ σ8_3 := Fr_c hfσ2 hcσ8_3 (by decide)
        have sσ8_3_46_6 : (σ8_3.1 46 6).toInt = (σ2.1 46 6).toInt := by rw [(hcσ8_3 46 6 (by decide) (by decide)).1]
        refine ok_some.mpr ?_
        have f34 : (vp_nar .boolean r7_3).toInt = r7_3.toInt := nar_bool2 (by omega) (by omega)
        exact ⟨hIσ8_3, hfσ8_3, (show 0 ≤ (vp_nar .boolean r7_3).toInt by omega), (show (vp_nar .boolean r7_3).toInt ≤ 1 by omega)⟩
    · have g35 : (σ2.1 46 6).toInt ≠ (σ2.1 46 8).toInt := fun z => h_23 (Int32.toInt_inj.mp z)
      refine ok_some.mpr ?_
      refine ok_ite.mpr ⟨fun h_36 => ?_, fun h_36 => ?_⟩
      · have f37 : (0 : Int32).toInt = 0 := by decide
        have g38 : (0 : Int32).toInt = (0 : Int32).toInt := by rw [h_36]
        refine ok_bd.mpr ((o_fX3_isWord_K11 hIσ2  ).mono (fun r10_4 ho_40 => ?_))
        obtain ⟨r0r10_4, r1r10_4⟩ := ho_40
        refine ok_ite.mpr ⟨fun h_41 => ?_, fun h_41 => ?_⟩
        · have g42 : r10_4.toInt = (0 : Int32).toInt := by rw [h_41]
          have f43 : (1 : Int32).toInt = 1 := by decide
          refine ok_bd2.mpr ((o_fX3_fail hIσ2 (p1 := (1 : Int32)) (p2 := (σ2.1 46 6)) ).mono (fun o_44 ho_45 => ?_))
          obtain ⟨r15_4, σ16_4⟩ := o_44
          obtain ⟨hIσ16_4, hcσ16_4, r0r15_4, r1r15_4⟩ := ho_45
          dsimp only at hIσ16_4 hcσ16_4 r0r15_4 r1r15_4 ⊢
          have hfσ16_4 : Fr fr_fX3_readWord_K11 σ σ16_4 := Fr_c hfσ2 hcσ16_4 (by decide)
          have sσ16_4_46_6 : (σ16_4.1 46 6).toInt = (σ2.1 46 6).toInt := by rw [(hcσ16_4 46 6 (by decide) (by decide)).1]
          refine ok_some.mpr ?_
          have f46 : (vp_nar .boolean r15_4).toInt = r15_4.toInt := nar_bool2 (by omega) (by omega)
          exact ⟨hIσ16_4, hfσ16_4, (show 0 ≤ (vp_nar .boolean r15_4).toInt by omega), (show (vp_nar .boolean r15_4).toInt ≤ 1 by omega)⟩
        · have g47 : r10_4.toInt ≠ (0 : Int32).toInt := fun z => h_41 (Int32.toInt_inj.mp z)
          refine ok_bd.mpr ((o_fX3_passRun hIσ2  ).mono (fun σ13_4 ho_49 => ?_))
          obtain ⟨hIσ13_4, hcσ13_4⟩ := ho_49
          have hfσ13_4 : Fr fr_fX3_readWord_K11 σ σ13_4 := Fr_c hfσ2 hcσ13_4 (by decide)
          have sσ13_4_46_6 : (σ13_4.1 46 6).toInt = (σ2.1 46 6).toInt := by rw [(hcσ13_4 46 6 (by decide) (by decide)).1]
          refine ok_some.mpr ?_
          have f50 : (1 : Int32).toInt = 1 := by decide
          exact ⟨hIσ13_4, hfσ13_4, (show 0 ≤ (1 : Int32).toInt by omega), (show (1 : Int32).toInt ≤ 1 by omega)⟩
      · have f51 : (0 : Int32).toInt = 0 := by decide
        have g52 : (0 : Int32).toInt ≠ (0 : Int32).toInt := fun z => h_36 (Int32.toInt_inj.mp z)
        exfalso
        omega
set_option maxRecDepth 20000 in
set_option maxHeartbeats 2000000 in
theorem o_fX8_addControl_24 {σ : gS} (hIσ : JC σ) {p1 : Int32} {p2 : Int32} {p3 : Int32} {p4 : Int32} (h0p1 : 0 ≤ p1.toInt) (h1p1 : p1.toInt ≤ 19) : Ok (fX8_addControl_24 σ p1 p2 p3 p4) (fun out => JC out ∧ Fr fr_fX8_addControl_24 σ out) := by
  unfold fX8_addControl_24
  have hfσ : Fr fr_fX8_addControl_24 σ σ := Fr_r
  refine ok_gd.mpr ⟨gb_of (by omega) (by omega), ?_⟩
  refine ok_nm2 (fun σ1 eσ1 => ?_)
  have hIσ1 : JC σ1 := by rw [eσ1]; exact JC_w hIσ (Int32.le_toInt _) (Int32.toInt_le _)
  have hfσ1 : Fr fr_fX8_addControl_24 σ σ1 := by rw [eσ1]; exact Fr_w0 hfσ (by decide)
  have f1 : (0 : Int32).toInt = 0 := by decide
  refine ok_gd.mpr ⟨gb_of (by omega) (by omega), ?_⟩
  refine ok_gd.mpr ⟨gb_of (by omega) (by omega), ?_⟩
  refine ok_nm2 (fun σ3 eσ3 => ?_)
  have hIσ3 : JC σ3 := by rw [eσ3]; exact JC_w hIσ1 (Int32.le_toInt _) (Int32.toInt_le _)
  have hfσ3 : Fr fr_fX8_addControl_24 σ σ3 := by rw [eσ3]; exact Fr_w0 hfσ1 (by decide)
  have f2 : (1 : Int32).toInt = 1 := by decide
  refine ok_gd.mpr ⟨gb_of (by omega) (by omega), ?_⟩
  refine ok_gd.mpr ⟨gb_of (by omega) (by omega), ?_⟩
  refine ok_nm2 (fun σ5 eσ5 => ?_)
  have hIσ5 : JC σ5 := by rw [eσ5]; exact JC_w hIσ3 (Int32.le_toInt _) (Int32.toInt_le _)
  have hfσ5 : Fr fr_fX8_addControl_24 σ σ5 := by rw [eσ5]; exact Fr_w0 hfσ3 (by decide)
  have f3 : (4 : Int32).toInt = 4 := by decide
  refine ok_gd.mpr ⟨gb_of (by omega) (by omega), ?_⟩
  refine ok_nm2 (fun v6 ev6 => ?_)
  have qv6 : v6.toInt = (σ5.1 25 4).toInt := congrArg Int32.toInt ev6
  refine ok_gd.mpr ⟨gb_of (by omega) (by omega), ?_⟩
  refine ok_nm2 (fun σ7 eσ7 => ?_)
  have hIσ7 : JC σ7 := by rw [eσ7]; exact JC_w hIσ5 (Int32.le_toInt _) (Int32.toInt_le _)
  have hfσ7 : Fr fr_fX8_addControl_24 σ σ7 := by rw [eσ7]; exact Fr_w0 hfσ5 (by decide)
  refine ok_some.mpr ?_
  exact ⟨hIσ7, hfσ7⟩
set_option maxRecDepth 20000 in
set_option maxHeartbeats 2000000 in
theorem o_fX3_readControl {σ : gS} (hIσ : JC σ)   : Ok (fX3_readControl σ ) (fun out => JC out.2 ∧ Fr fr_fX3_readControl σ out.2 ∧ 0 ≤ out.1.toInt ∧ out.1.toInt ≤ 1) := by
  unfold fX3_readControl
  have hfσ : Fr fr_fX3_readControl σ σ := Fr_r
  have f1 : 0 ≤ (σ.1 46 6).toInt ∧ (σ.1 46 6).toInt ≤ 1600 := hIσ 46 6
  have f2 : -1 ≤ (σ.1 46 10).toInt ∧ (σ.1 46 10).toInt ≤ 19 := hIσ 46 10
  have f3 : (2 : Int32).toInt = 2 := by decide
  refine ok_bd2.mpr ((o_fX3_readName hIσ (p1 := (2 : Int32)) (by omega) (by omega)).mono (fun o_4 ho_5 => ?_))
  obtain ⟨r2, σ3⟩ := o_4
  obtain ⟨hIσ3, hcσ3, r0r2, r1r2, hp_6⟩ := ho_5
  dsimp only at hIσ3 hcσ3 r0r2 r1r2 hp_6 ⊢
  have hfσ3 : Fr fr_fX3_readControl σ σ3 := Fr_c hfσ hcσ3 (by decide)
  have sσ3_46_11 : (σ3.1 46 11).toInt = (σ.1 46 11).toInt := by rw [(hcσ3 46 11 (by decide) (by decide)).1]
  have sσ3_46_12 : (σ3.1 46 12).toInt = (σ.1 46 12).toInt := by rw [(hcσ3 46 12 (by decide) (by decide)).1]
  have sσ3_46_13 : (σ3.1 46 13).toInt = (σ.1 46 13).toInt := by rw [(hcσ3 46 13 (by decide) (by decide)).1]
  refine ok_ite.mpr ⟨fun h_7 => ?_, fun h_7 => ?_⟩
  · have f8 : (0 : Int32).toInt = 0 := by decide
    have g9 : r2.toInt = (0 : Int32).toInt := by rw [h_7]
    refine ok_some.mpr ?_
    exact ⟨hIσ3, hfσ3, (show 0 ≤ (0 : Int32).toInt by omega), (show (0 : Int32).toInt ≤ 1 by omega)⟩
  · have f10 : (0 : Int32).toInt = 0 := by decide
    have g11 : r2.toInt ≠ (0 : Int32).toInt := fun z => h_7 (Int32.toInt_inj.mp z)
    have f12 : -1 ≤ (σ3.1 46 10).toInt ∧ (σ3.1 46 10).toInt ≤ 19 := hIσ3 46 10
    refine ok_gd.mpr ⟨gb_of (by omega) (by omega), ?_⟩
    refine ok_nm2 (fun v5 ev5 => ?_)
    have qv5 : v5.toInt = (σ3.1 38 (σ3.1 46 10).toNatClampNeg).toInt := congrArg Int32.toInt ev5
    refine ok_ite.mpr ⟨fun h_13 => ?_, fun h_13 => ?_⟩
    · have g14 : v5.toInt = (0 : Int32).toInt := by rw [h_13]
      refine ok_bd2.mpr ((o_fX3_readAt hIσ3  ).mono (fun o_15 ho_16 => ?_))
      obtain ⟨r8, σ9⟩ := o_15
      obtain ⟨hIσ9, hcσ9, r0r8, r1r8⟩ := ho_16
      dsimp only at hIσ9 hcσ9 r0r8 r1r8 ⊢
      have hfσ9 : Fr fr_fX3_readControl σ σ9 := Fr_c hfσ3 hcσ9 (by decide)
      have sσ9_46_10 : (σ9.1 46 10).toInt = (σ3.1 46 10).toInt := by rw [(hcσ9 46 10 (by decide) (by decide)).1]
      refine ok_ite.mpr ⟨fun h_17 => ?_, fun h_17 => ?_⟩
      · have g18 : r8.toInt = (0 : Int32).toInt := by rw [h_17]
        refine ok_some.mpr ?_
        exact ⟨hIσ9, hfσ9, (show 0 ≤ (0 : Int32).toInt by omega), (show (0 : Int32).toInt ≤ 1 by omega)⟩
      · have g19 : r8.toInt ≠ (0 : Int32).toInt := fun z => h_17 (Int32.toInt_inj.mp z)
        refine ok_bd2.mpr ((o_fX3_readWord_K11 hIσ9  ).mono (fun o_20 ho_21 => ?_))
        obtain ⟨r12, σ13⟩ := o_20
        obtain ⟨hIσ13, hcσ13, r0r12, r1r12⟩ := ho_21
        dsimp only at hIσ13 hcσ13 r0r12 r1r12 ⊢
        have hfσ13 : Fr fr_fX3_readControl σ σ13 := Fr_c hfσ9 hcσ13 (by decide)
        have sσ13_46_10 : (σ13.1 46 10).toInt = (σ9.1 46 10).toInt := by rw [(hcσ13 46 10 (by decide) (by decide)).1]
        have sσ13_46_11 : (σ13.1 46 11).toInt = (σ9.1 46 11).toInt := by rw [(hcσ13 46 11 (by decide) (by decide)).1]
        have sσ13_46_12 : (σ13.1 46 12).toInt = (σ9.1 46 12).toInt := by rw [(hcσ13 46 12 (by decide) (by decide)).1]
        have sσ13_46_13 : (σ13.1 46 13).toInt = (σ9.1 46 13).toInt := by rw [(hcσ13 46 13 (by decide) (by decide)).1]
        refine ok_ite.mpr ⟨fun h_22 => ?_, fun h_22 => ?_⟩
        · have g23 : r12.toInt = (0 : Int32).toInt := by rw [h_22]
          refine ok_some.mpr ?_
          exact ⟨hIσ13, hfσ13, (show 0 ≤ (0 : Int32).toInt by omega), (show (0 : Int32).toInt ≤ 1 by omega)⟩
        · have g24 : r12.toInt ≠ (0 : Int32).toInt := fun z => h_22 (Int32.toInt_inj.mp z)
          have f25 : (1 : Int32).toInt = 1 := by decide
          refine ok_bd2.mpr ((o_fX3_readNumber hIσ13 (p1 := (1 : Int32)) (p2 := (2 : Int32)) ).mono (fun o_26 ho_27 => ?_))
          obtain ⟨r16, σ17⟩ := o_26
          obtain ⟨hIσ17, hcσ17, r0r16, r1r16⟩ := ho_27
          dsimp only at hIσ17 hcσ17 r0r16 r1r16 ⊢
          have hfσ17 : Fr fr_fX3_readControl σ σ17 := Fr_c hfσ13 hcσ17 (by decide)
          have sσ17_46_10 : (σ17.1 46 10).toInt = (σ13.1 46 10).toInt := by rw [(hcσ17 46 10 (by decide) (by decide)).1]
          have sσ17_46_12 : (σ17.1 46 12).toInt = (σ13.1 46 12).toInt := by rw [(hcσ17 46 12 (by decide) (by decide)).1]
          have sσ17_46_13 : (σ17.1 46 13).toInt = (σ13.1 46 13).toInt := by rw [(hcσ17 46 13 (by decide) (by decide)).1]
          refine ok_ite.mpr ⟨fun h_28 => ?_, fun h_28 => ?_⟩
          · have g29 : r16.toInt = (0 : Int32).toInt := by rw [h_28]
            refine ok_some.mpr ?_
            exact ⟨hIσ17, hfσ17, (show 0 ≤ (0 : Int32).toInt by omega), (show (0 : Int32).toInt ≤ 1 by omega)⟩
          · have g30 : r16.toInt ≠ (0 : Int32).toInt := fun z => h_28 (Int32.toInt_inj.mp z)
            have f31 : -1 ≤ (σ17.1 46 10).toInt ∧ (σ17.1 46 10).toInt ≤ 19 := hIσ17 46 10
            refine ok_bd.mpr ((o_fX8_addControl_24 hIσ17 (p1 := (σ17.1 46 10)) (p2 := (σ17.1 46 12)) (p3 := (σ17.1 46 13)) (p4 := (σ17.1 46 11)) (by omega) (by omega)).mono (fun σ20 ho_33 => ?_))
            obtain ⟨hIσ20, hcσ20⟩ := ho_33
            have hfσ20 : Fr fr_fX3_readControl σ σ20 := Fr_c hfσ17 hcσ20 (by decide)
            have sσ20_46_6 : (σ20.1 46 6).toInt = (σ17.1 46 6).toInt := by rw [(hcσ20 46 6 (by decide) (by decide)).1]
            have sσ20_46_10 : (σ20.1 46 10).toInt = (σ17.1 46 10).toInt := by rw [(hcσ20 46 10 (by decide) (by decide)).1]
            have sσ20_46_11 : (σ20.1 46 11).toInt = (σ17.1 46 11).toInt := by rw [(hcσ20 46 11 (by decide) (by decide)).1]
            have sσ20_46_12 : (σ20.1 46 12).toInt = (σ17.1 46 12).toInt := by rw [(hcσ20 46 12 (by decide) (by decide)).1]
            have sσ20_46_13 : (σ20.1 46 13).toInt = (σ17.1 46 13).toInt := by rw [(hcσ20 46 13 (by decide) (by decide)).1]
            refine ok_some.mpr ?_
            exact ⟨hIσ20, hfσ20, (show 0 ≤ (1 : Int32).toInt by omega), (show (1 : Int32).toInt ≤ 1 by omega)⟩
    · have g34 : v5.toInt ≠ (0 : Int32).toInt := fun z => h_13 (Int32.toInt_inj.mp z)
      have f35 : (3 : Int32).toInt = 3 := by decide
      have f36 : 0 ≤ (σ3.1 46 6).toInt ∧ (σ3.1 46 6).toInt ≤ 1600 := hIσ3 46 6
      refine ok_bd2.mpr ((o_fX3_fail hIσ3 (p1 := (3 : Int32)) (p2 := (σ3.1 46 6)) ).mono (fun o_37 ho_38 => ?_))
      obtain ⟨r22, σ23⟩ := o_37
      obtain ⟨hIσ23, hcσ23, r0r22, r1r22⟩ := ho_38
      dsimp only at hIσ23 hcσ23 r0r22 r1r22 ⊢
      have hfσ23 : Fr fr_fX3_readControl σ σ23 := Fr_c hfσ3 hcσ23 (by decide)
      have sσ23_46_6 : (σ23.1 46 6).toInt = (σ3.1 46 6).toInt := by rw [(hcσ23 46 6 (by decide) (by decide)).1]
      have sσ23_46_10 : (σ23.1 46 10).toInt = (σ3.1 46 10).toInt := by rw [(hcσ23 46 10 (by decide) (by decide)).1]
      have sσ23_46_11 : (σ23.1 46 11).toInt = (σ3.1 46 11).toInt := by rw [(hcσ23 46 11 (by decide) (by decide)).1]
      have sσ23_46_12 : (σ23.1 46 12).toInt = (σ3.1 46 12).toInt := by rw [(hcσ23 46 12 (by decide) (by decide)).1]
      have sσ23_46_13 : (σ23.1 46 13).toInt = (σ3.1 46 13).toInt := by rw [(hcσ23 46 13 (by decide) (by decide)).1]
      refine ok_some.mpr ?_
      have f39 : (vp_nar .boolean r22).toInt = r22.toInt := nar_bool2 (by omega) (by omega)
      exact ⟨hIσ23, hfσ23, (show 0 ≤ (vp_nar .boolean r22).toInt by omega), (show (vp_nar .boolean r22).toInt ≤ 1 by omega)⟩
set_option maxRecDepth 20000 in
set_option maxHeartbeats 2000000 in
theorem o_fX8_addCentre_24 {σ : gS} (hIσ : JC σ) {p1 : Int32} {p2 : Int32} {p3 : Int32} {p4 : Int32} (h0p1 : 0 ≤ p1.toInt) (h1p1 : p1.toInt ≤ 11) : Ok (fX8_addCentre_24 σ p1 p2 p3 p4) (fun out => JC out ∧ Fr fr_fX8_addCentre_24 σ out) := by
  unfold fX8_addCentre_24
  have hfσ : Fr fr_fX8_addCentre_24 σ σ := Fr_r
  refine ok_gd.mpr ⟨gb_of (by omega) (by omega), ?_⟩
  refine ok_nm2 (fun σ1 eσ1 => ?_)
  have hIσ1 : JC σ1 := by rw [eσ1]; exact JC_w hIσ (Int32.le_toInt _) (Int32.toInt_le _)
  have hfσ1 : Fr fr_fX8_addCentre_24 σ σ1 := by rw [eσ1]; exact Fr_w0 hfσ (by decide)
  have f1 : (0 : Int32).toInt = 0 := by decide
  refine ok_gd.mpr ⟨gb_of (by omega) (by omega), ?_⟩
  refine ok_gd.mpr ⟨gb_of (by omega) (by omega), ?_⟩
  refine ok_nm2 (fun σ3 eσ3 => ?_)
  have hIσ3 : JC σ3 := by rw [eσ3]; exact JC_w hIσ1 (Int32.le_toInt _) (Int32.toInt_le _)
  have hfσ3 : Fr fr_fX8_addCentre_24 σ σ3 := by rw [eσ3]; exact Fr_w0 hfσ1 (by decide)
  have f2 : (1 : Int32).toInt = 1 := by decide
  refine ok_gd.mpr ⟨gb_of (by omega) (by omega), ?_⟩
  refine ok_gd.mpr ⟨gb_of (by omega) (by omega), ?_⟩
  refine ok_nm2 (fun σ5 eσ5 => ?_)
  have hIσ5 : JC σ5 := by rw [eσ5]; exact JC_w hIσ3 (Int32.le_toInt _) (Int32.toInt_le _)
  have hfσ5 : Fr fr_fX8_addCentre_24 σ σ5 := by rw [eσ5]; exact Fr_w0 hfσ3 (by decide)
  have f3 : (5 : Int32).toInt = 5 := by decide
  refine ok_gd.mpr ⟨gb_of (by omega) (by omega), ?_⟩
  refine ok_nm2 (fun v6 ev6 => ?_)
  have qv6 : v6.toInt = (σ5.1 25 5).toInt := congrArg Int32.toInt ev6
  refine ok_gd.mpr ⟨gb_of (by omega) (by omega), ?_⟩
  refine ok_nm2 (fun σ7 eσ7 => ?_)
  have hIσ7 : JC σ7 := by rw [eσ7]; exact JC_w hIσ5 (Int32.le_toInt _) (Int32.toInt_le _)
  have hfσ7 : Fr fr_fX8_addCentre_24 σ σ7 := by rw [eσ7]; exact Fr_w0 hfσ5 (by decide)
  refine ok_some.mpr ?_
  exact ⟨hIσ7, hfσ7⟩
set_option maxRecDepth 20000 in
set_option maxHeartbeats 2000000 in
theorem o_fX3_readCentre {σ : gS} (hIσ : JC σ)   : Ok (fX3_readCentre σ ) (fun out => JC out.2 ∧ Fr fr_fX3_readCentre σ out.2 ∧ 0 ≤ out.1.toInt ∧ out.1.toInt ≤ 1) := by
  unfold fX3_readCentre
  have hfσ : Fr fr_fX3_readCentre σ σ := Fr_r
  have f1 : 0 ≤ (σ.1 46 6).toInt ∧ (σ.1 46 6).toInt ≤ 1600 := hIσ 46 6
  have f2 : -1 ≤ (σ.1 46 10).toInt ∧ (σ.1 46 10).toInt ≤ 19 := hIσ 46 10
  have f3 : (1 : Int32).toInt = 1 := by decide
  refine ok_bd2.mpr ((o_fX3_readName hIσ (p1 := (1 : Int32)) (by omega) (by omega)).mono (fun o_4 ho_5 => ?_))
  obtain ⟨r2, σ3⟩ := o_4
  obtain ⟨hIσ3, hcσ3, r0r2, r1r2, hp_6⟩ := ho_5
  dsimp only at hIσ3 hcσ3 r0r2 r1r2 hp_6 ⊢
  have hfσ3 : Fr fr_fX3_readCentre σ σ3 := Fr_c hfσ hcσ3 (by decide)
  have sσ3_46_11 : (σ3.1 46 11).toInt = (σ.1 46 11).toInt := by rw [(hcσ3 46 11 (by decide) (by decide)).1]
  have sσ3_46_12 : (σ3.1 46 12).toInt = (σ.1 46 12).toInt := by rw [(hcσ3 46 12 (by decide) (by decide)).1]
  have sσ3_46_13 : (σ3.1 46 13).toInt = (σ.1 46 13).toInt := by rw [(hcσ3 46 13 (by decide) (by decide)).1]
  refine ok_ite.mpr ⟨fun h_7 => ?_, fun h_7 => ?_⟩
  · have f8 : (0 : Int32).toInt = 0 := by decide
    have g9 : r2.toInt = (0 : Int32).toInt := by rw [h_7]
    refine ok_some.mpr ?_
    exact ⟨hIσ3, hfσ3, (show 0 ≤ (0 : Int32).toInt by omega), (show (0 : Int32).toInt ≤ 1 by omega)⟩
  · have f10 : (0 : Int32).toInt = 0 := by decide
    have g11 : r2.toInt ≠ (0 : Int32).toInt := fun z => h_7 (Int32.toInt_inj.mp z)
    have f12 : -1 ≤ (σ3.1 46 10).toInt ∧ (σ3.1 46 10).toInt ≤ 19 := hIσ3 46 10
    refine ok_gd.mpr ⟨gb_of (by omega) (by omega), ?_⟩
    refine ok_nm2 (fun v5 ev5 => ?_)
    have qv5 : v5.toInt = (σ3.1 42 (σ3.1 46 10).toNatClampNeg).toInt := congrArg Int32.toInt ev5
    refine ok_ite.mpr ⟨fun h_13 => ?_, fun h_13 => ?_⟩
    · have g14 : v5.toInt = (0 : Int32).toInt := by rw [h_13]
      refine ok_bd2.mpr ((o_fX3_readAt hIσ3  ).mono (fun o_15 ho_16 => ?_))
      obtain ⟨r8, σ9⟩ := o_15
      obtain ⟨hIσ9, hcσ9, r0r8, r1r8⟩ := ho_16
      dsimp only at hIσ9 hcσ9 r0r8 r1r8 ⊢
      have hfσ9 : Fr fr_fX3_readCentre σ σ9 := Fr_c hfσ3 hcσ9 (by decide)
      have sσ9_46_10 : (σ9.1 46 10).toInt = (σ3.1 46 10).toInt := by rw [(hcσ9 46 10 (by decide) (by decide)).1]
      refine ok_ite.mpr ⟨fun h_17 => ?_, fun h_17 => ?_⟩
      · have g18 : r8.toInt = (0 : Int32).toInt := by rw [h_17]
        refine ok_some.mpr ?_
        exact ⟨hIσ9, hfσ9, (show 0 ≤ (0 : Int32).toInt by omega), (show (0 : Int32).toInt ≤ 1 by omega)⟩
      · have g19 : r8.toInt ≠ (0 : Int32).toInt := fun z => h_17 (Int32.toInt_inj.mp z)
        refine ok_bd2.mpr ((o_fX3_readWord_K10 hIσ9  ).mono (fun o_20 ho_21 => ?_))
        obtain ⟨r12, σ13⟩ := o_20
        obtain ⟨hIσ13, hcσ13, r0r12, r1r12⟩ := ho_21
        dsimp only at hIσ13 hcσ13 r0r12 r1r12 ⊢
        have hfσ13 : Fr fr_fX3_readCentre σ σ13 := Fr_c hfσ9 hcσ13 (by decide)
        have sσ13_46_10 : (σ13.1 46 10).toInt = (σ9.1 46 10).toInt := by rw [(hcσ13 46 10 (by decide) (by decide)).1]
        have sσ13_46_11 : (σ13.1 46 11).toInt = (σ9.1 46 11).toInt := by rw [(hcσ13 46 11 (by decide) (by decide)).1]
        have sσ13_46_12 : (σ13.1 46 12).toInt = (σ9.1 46 12).toInt := by rw [(hcσ13 46 12 (by decide) (by decide)).1]
        have sσ13_46_13 : (σ13.1 46 13).toInt = (σ9.1 46 13).toInt := by rw [(hcσ13 46 13 (by decide) (by decide)).1]
        refine ok_ite.mpr ⟨fun h_22 => ?_, fun h_22 => ?_⟩
        · have g23 : r12.toInt = (0 : Int32).toInt := by rw [h_22]
          refine ok_some.mpr ?_
          exact ⟨hIσ13, hfσ13, (show 0 ≤ (0 : Int32).toInt by omega), (show (0 : Int32).toInt ≤ 1 by omega)⟩
        · have g24 : r12.toInt ≠ (0 : Int32).toInt := fun z => h_22 (Int32.toInt_inj.mp z)
          have f25 : (9 : Int32).toInt = 9 := by decide
          refine ok_bd2.mpr ((o_fX3_readNumber hIσ13 (p1 := (1 : Int32)) (p2 := (9 : Int32)) ).mono (fun o_26 ho_27 => ?_))
          obtain ⟨r16, σ17⟩ := o_26
          obtain ⟨hIσ17, hcσ17, r0r16, r1r16⟩ := ho_27
          dsimp only at hIσ17 hcσ17 r0r16 r1r16 ⊢
          have hfσ17 : Fr fr_fX3_readCentre σ σ17 := Fr_c hfσ13 hcσ17 (by decide)
          have sσ17_46_10 : (σ17.1 46 10).toInt = (σ13.1 46 10).toInt := by rw [(hcσ17 46 10 (by decide) (by decide)).1]
          have sσ17_46_12 : (σ17.1 46 12).toInt = (σ13.1 46 12).toInt := by rw [(hcσ17 46 12 (by decide) (by decide)).1]
          have sσ17_46_13 : (σ17.1 46 13).toInt = (σ13.1 46 13).toInt := by rw [(hcσ17 46 13 (by decide) (by decide)).1]
          refine ok_ite.mpr ⟨fun h_28 => ?_, fun h_28 => ?_⟩
          · have g29 : r16.toInt = (0 : Int32).toInt := by rw [h_28]
            refine ok_some.mpr ?_
            exact ⟨hIσ17, hfσ17, (show 0 ≤ (0 : Int32).toInt by omega), (show (0 : Int32).toInt ≤ 1 by omega)⟩
          · have g30 : r16.toInt ≠ (0 : Int32).toInt := fun z => h_28 (Int32.toInt_inj.mp z)
            have f31 : -1 ≤ (σ17.1 46 10).toInt ∧ (σ17.1 46 10).toInt ≤ 19 := hIσ17 46 10
            refine ok_bd.mpr ((o_fX8_addCentre_24 hIσ17 (p1 := (σ17.1 46 10)) (p2 := (σ17.1 46 12)) (p3 := (σ17.1 46 13)) (p4 := (σ17.1 46 11)) (by omega) (by omega)).mono (fun σ20 ho_33 => ?_))
            obtain ⟨hIσ20, hcσ20⟩ := ho_33
            have hfσ20 : Fr fr_fX3_readCentre σ σ20 := Fr_c hfσ17 hcσ20 (by decide)
            have sσ20_46_6 : (σ20.1 46 6).toInt = (σ17.1 46 6).toInt := by rw [(hcσ20 46 6 (by decide) (by decide)).1]
            have sσ20_46_10 : (σ20.1 46 10).toInt = (σ17.1 46 10).toInt := by rw [(hcσ20 46 10 (by decide) (by decide)).1]
            have sσ20_46_11 : (σ20.1 46 11).toInt = (σ17.1 46 11).toInt := by rw [(hcσ20 46 11 (by decide) (by decide)).1]
            have sσ20_46_12 : (σ20.1 46 12).toInt = (σ17.1 46 12).toInt := by rw [(hcσ20 46 12 (by decide) (by decide)).1]
            have sσ20_46_13 : (σ20.1 46 13).toInt = (σ17.1 46 13).toInt := by rw [(hcσ20 46 13 (by decide) (by decide)).1]
            refine ok_some.mpr ?_
            exact ⟨hIσ20, hfσ20, (show 0 ≤ (1 : Int32).toInt by omega), (show (1 : Int32).toInt ≤ 1 by omega)⟩
    · have g34 : v5.toInt ≠ (0 : Int32).toInt := fun z => h_13 (Int32.toInt_inj.mp z)
      have f35 : (3 : Int32).toInt = 3 := by decide
      have f36 : 0 ≤ (σ3.1 46 6).toInt ∧ (σ3.1 46 6).toInt ≤ 1600 := hIσ3 46 6
      refine ok_bd2.mpr ((o_fX3_fail hIσ3 (p1 := (3 : Int32)) (p2 := (σ3.1 46 6)) ).mono (fun o_37 ho_38 => ?_))
      obtain ⟨r22, σ23⟩ := o_37
      obtain ⟨hIσ23, hcσ23, r0r22, r1r22⟩ := ho_38
      dsimp only at hIσ23 hcσ23 r0r22 r1r22 ⊢
      have hfσ23 : Fr fr_fX3_readCentre σ σ23 := Fr_c hfσ3 hcσ23 (by decide)
      have sσ23_46_6 : (σ23.1 46 6).toInt = (σ3.1 46 6).toInt := by rw [(hcσ23 46 6 (by decide) (by decide)).1]
      have sσ23_46_10 : (σ23.1 46 10).toInt = (σ3.1 46 10).toInt := by rw [(hcσ23 46 10 (by decide) (by decide)).1]
      have sσ23_46_11 : (σ23.1 46 11).toInt = (σ3.1 46 11).toInt := by rw [(hcσ23 46 11 (by decide) (by decide)).1]
      have sσ23_46_12 : (σ23.1 46 12).toInt = (σ3.1 46 12).toInt := by rw [(hcσ23 46 12 (by decide) (by decide)).1]
      have sσ23_46_13 : (σ23.1 46 13).toInt = (σ3.1 46 13).toInt := by rw [(hcσ23 46 13 (by decide) (by decide)).1]
      refine ok_some.mpr ?_
      have f39 : (vp_nar .boolean r22).toInt = r22.toInt := nar_bool2 (by omega) (by omega)
      exact ⟨hIσ23, hfσ23, (show 0 ≤ (vp_nar .boolean r22).toInt by omega), (show (vp_nar .boolean r22).toInt ≤ 1 by omega)⟩
set_option maxRecDepth 20000 in
set_option maxHeartbeats 2000000 in
theorem o_fX3_readStatement {σ : gS} (hIσ : JC σ) {p1 : Int32} (h0p1 : 0 ≤ p1.toInt) (h1p1 : p1.toInt ≤ 120) : Ok (fX3_readStatement σ p1) (fun out => JC out.2 ∧ Fr fr_fX3_readStatement σ out.2 ∧ 0 ≤ out.1.toInt ∧ out.1.toInt ≤ 1) := by
  unfold fX3_readStatement
  have hfσ : Fr fr_fX3_readStatement σ σ := Fr_r
  have f1 : 0 ≤ (σ.1 25 0).toInt ∧ (σ.1 25 0).toInt ≤ 6 := hIσ 25 0
  have f2 : 0 ≤ (σ.1 25 1).toInt ∧ (σ.1 25 1).toInt ≤ 12 := hIσ 25 1
  have f3 : 0 ≤ (σ.1 25 2).toInt ∧ (σ.1 25 2).toInt ≤ 20 := hIσ 25 2
  have f4 : 0 ≤ (σ.1 25 3).toInt ∧ (σ.1 25 3).toInt ≤ 60 := hIσ 25 3
  have f5 : 0 ≤ (σ.1 46 6).toInt ∧ (σ.1 46 6).toInt ≤ 1600 := hIσ 46 6
  have f6 : (97 : Int32).toInt = 97 := by decide
  have f7 : (122 : Int32).toInt = 122 := by decide
  refine ok_bd.mpr ((o_fX3_markRun hIσ (p1 := (97 : Int32)) (p2 := (122 : Int32)) ).mono (fun σ2 ho_9 => ?_))
  obtain ⟨hIσ2, hcσ2⟩ := ho_9
  have hfσ2 : Fr fr_fX3_readStatement σ σ2 := Fr_c hfσ hcσ2 (by decide)
  have sσ2_25_0 : (σ2.1 25 0).toInt = (σ.1 25 0).toInt := by rw [(hcσ2 25 0 (by decide) (by decide)).1]
  have sσ2_25_1 : (σ2.1 25 1).toInt = (σ.1 25 1).toInt := by rw [(hcσ2 25 1 (by decide) (by decide)).1]
  have sσ2_25_2 : (σ2.1 25 2).toInt = (σ.1 25 2).toInt := by rw [(hcσ2 25 2 (by decide) (by decide)).1]
  have sσ2_25_3 : (σ2.1 25 3).toInt = (σ.1 25 3).toInt := by rw [(hcσ2 25 3 (by decide) (by decide)).1]
  refine ok_ite.mpr ⟨fun h_10 => ?_, fun h_10 => ?_⟩
  · have f11 : (120 : Int32).toInt = 120 := by decide
    have g12 : p1.toInt < (120 : Int32).toInt := Int32.lt_iff_toInt_lt.mp h_10
    refine ok_bd.mpr ((o_fX3_kindOfWord hIσ2  ).mono (fun r5 ho_14 => ?_))
    obtain ⟨r0r5, r1r5⟩ := ho_14
    refine ok_nm.mpr ?_
    refine ok_ite.mpr ⟨fun h_15 => ?_, fun h_15 => ?_⟩
    · have f16 : (-1 : Int32).toInt = -1 := by decide
      have g17 : r5.toInt = (-1 : Int32).toInt := by rw [h_15]
      have f18 : (1 : Int32).toInt = 1 := by decide
      have f19 : 0 ≤ (σ2.1 46 6).toInt ∧ (σ2.1 46 6).toInt ≤ 1600 := hIσ2 46 6
      refine ok_bd2.mpr ((o_fX3_fail hIσ2 (p1 := (1 : Int32)) (p2 := (σ2.1 46 6)) ).mono (fun o_20 ho_21 => ?_))
      obtain ⟨r51_1, σ52_1⟩ := o_20
      obtain ⟨hIσ52_1, hcσ52_1, r0r51_1, r1r51_1⟩ := ho_21
      dsimp only at hIσ52_1 hcσ52_1 r0r51_1 r1r51_1 ⊢
      have hfσ52_1 : Fr fr_fX3_readStatement σ σ52_1 := Fr_c hfσ2 hcσ52_1 (by decide)
      have sσ52_1_25_0 : (σ52_1.1 25 0).toInt = (σ2.1 25 0).toInt := by rw [(hcσ52_1 25 0 (by decide) (by decide)).1]
      have sσ52_1_25_1 : (σ52_1.1 25 1).toInt = (σ2.1 25 1).toInt := by rw [(hcσ52_1 25 1 (by decide) (by decide)).1]
      have sσ52_1_25_2 : (σ52_1.1 25 2).toInt = (σ2.1 25 2).toInt := by rw [(hcσ52_1 25 2 (by decide) (by decide)).1]
      have sσ52_1_25_3 : (σ52_1.1 25 3).toInt = (σ2.1 25 3).toInt := by rw [(hcσ52_1 25 3 (by decide) (by decide)).1]
      have sσ52_1_46_6 : (σ52_1.1 46 6).toInt = (σ2.1 46 6).toInt := by rw [(hcσ52_1 46 6 (by decide) (by decide)).1]
      refine ok_some.mpr ?_
      have f22 : (vp_nar .boolean r51_1).toInt = r51_1.toInt := nar_bool2 (by omega) (by omega)
      exact ⟨hIσ52_1, hfσ52_1, (show 0 ≤ (vp_nar .boolean r51_1).toInt by omega), (show (vp_nar .boolean r51_1).toInt ≤ 1 by omega)⟩
    · have f23 : (-1 : Int32).toInt = -1 := by decide
      have g24 : r5.toInt ≠ (-1 : Int32).toInt := fun z => h_15 (Int32.toInt_inj.mp z)
      refine ok_bd.mpr ((o_fX8_isFull_24 hIσ2 (p1 := r5) (by omega) (by omega)).mono (fun r9_1 ho_26 => ?_))
      obtain ⟨r0r9_1, r1r9_1, hp_27⟩ := ho_26
      refine ok_ite.mpr ⟨fun h_28 => ?_, fun h_28 => ?_⟩
      · have f29 : (0 : Int32).toInt = 0 := by decide
        have g30 : r9_1.toInt = (0 : Int32).toInt := by rw [h_28]
        refine ok_bd.mpr ((o_fX3_passRun hIσ2  ).mono (fun σ12_1 ho_32 => ?_))
        obtain ⟨hIσ12_1, hcσ12_1⟩ := ho_32
        have hfσ12_1 : Fr fr_fX3_readStatement σ σ12_1 := Fr_c hfσ2 hcσ12_1 (by decide)
        have sσ12_1_25_0 : (σ12_1.1 25 0).toInt = (σ2.1 25 0).toInt := by rw [(hcσ12_1 25 0 (by decide) (by decide)).1]
        have sσ12_1_25_1 : (σ12_1.1 25 1).toInt = (σ2.1 25 1).toInt := by rw [(hcσ12_1 25 1 (by decide) (by decide)).1]
        have sσ12_1_25_2 : (σ12_1.1 25 2).toInt = (σ2.1 25 2).toInt := by rw [(hcσ12_1 25 2 (by decide) (by decide)).1]
        have sσ12_1_25_3 : (σ12_1.1 25 3).toInt = (σ2.1 25 3).toInt := by rw [(hcσ12_1 25 3 (by decide) (by decide)).1]
        have sσ12_1_46_6 : (σ12_1.1 46 6).toInt = (σ2.1 46 6).toInt := by rw [(hcσ12_1 46 6 (by decide) (by decide)).1]
        refine ok_ite.mpr ⟨fun h_33 => ?_, fun h_33 => ?_⟩
        · have f34 : (1 : Int32).toInt = 1 := by decide
          have g35 : r5.toInt = (1 : Int32).toInt := by rw [h_33]
          refine ok_bd2.mpr ((o_fX3_readPicture hIσ12_1  ).mono (fun o_36 ho_37 => ?_))
          obtain ⟨r14_1, σ15_1⟩ := o_36
          obtain ⟨hIσ15_1, hcσ15_1, r0r14_1, r1r14_1⟩ := ho_37
          dsimp only at hIσ15_1 hcσ15_1 r0r14_1 r1r14_1 ⊢
          have hfσ15_1 : Fr fr_fX3_readStatement σ σ15_1 := Fr_c hfσ12_1 hcσ15_1 (by decide)
          refine ok_nm.mpr ?_
          try unfold jX3_readStatement_142
          refine ok_ite.mpr ⟨fun h_38 => ?_, fun h_38 => ?_⟩
          · have g39 : r14_1.toInt = (0 : Int32).toInt := by rw [h_38]
            refine ok_some.mpr ?_
            exact ⟨hIσ15_1, hfσ15_1, (show 0 ≤ (0 : Int32).toInt by omega), (show (0 : Int32).toInt ≤ 1 by omega)⟩
          · have g40 : r14_1.toInt ≠ (0 : Int32).toInt := fun z => h_38 (Int32.toInt_inj.mp z)
            refine ok_bd2.mpr ((o_fX3_readSemicolon hIσ15_1  ).mono (fun o_41 ho_42 => ?_))
            obtain ⟨r19_3, σ20_3⟩ := o_41
            obtain ⟨hIσ20_3, hcσ20_3, r0r19_3, r1r19_3⟩ := ho_42
            dsimp only at hIσ20_3 hcσ20_3 r0r19_3 r1r19_3 ⊢
            have hfσ20_3 : Fr fr_fX3_readStatement σ σ20_3 := Fr_c hfσ15_1 hcσ20_3 (by decide)
            have sσ20_3_25_0 : (σ20_3.1 25 0).toInt = (σ15_1.1 25 0).toInt := by rw [(hcσ20_3 25 0 (by decide) (by decide)).1]
            have sσ20_3_25_1 : (σ20_3.1 25 1).toInt = (σ15_1.1 25 1).toInt := by rw [(hcσ20_3 25 1 (by decide) (by decide)).1]
            have sσ20_3_25_2 : (σ20_3.1 25 2).toInt = (σ15_1.1 25 2).toInt := by rw [(hcσ20_3 25 2 (by decide) (by decide)).1]
            have sσ20_3_25_3 : (σ20_3.1 25 3).toInt = (σ15_1.1 25 3).toInt := by rw [(hcσ20_3 25 3 (by decide) (by decide)).1]
            have sσ20_3_46_6 : (σ20_3.1 46 6).toInt = (σ15_1.1 46 6).toInt := by rw [(hcσ20_3 46 6 (by decide) (by decide)).1]
            refine ok_ite.mpr ⟨fun h_43 => ?_, fun h_43 => ?_⟩
            · have g44 : r19_3.toInt = (0 : Int32).toInt := by rw [h_43]
              refine ok_some.mpr ?_
              exact ⟨hIσ20_3, hfσ20_3, (show 0 ≤ (0 : Int32).toInt by omega), (show (0 : Int32).toInt ≤ 1 by omega)⟩
            · have g45 : r19_3.toInt ≠ (0 : Int32).toInt := fun z => h_43 (Int32.toInt_inj.mp z)
              refine ok_some.mpr ?_
              exact ⟨hIσ20_3, hfσ20_3, (show 0 ≤ (1 : Int32).toInt by omega), (show (1 : Int32).toInt ≤ 1 by omega)⟩
        · have f46 : (1 : Int32).toInt = 1 := by decide
          have g47 : r5.toInt ≠ (1 : Int32).toInt := fun z => h_33 (Int32.toInt_inj.mp z)
          refine ok_ite.mpr ⟨fun h_48 => ?_, fun h_48 => ?_⟩
          · have f49 : (2 : Int32).toInt = 2 := by decide
            have g50 : r5.toInt = (2 : Int32).toInt := by rw [h_48]
            refine ok_bd2.mpr ((o_fX3_readNamed hIσ12_1 (p1 := r5) (by omega) (by omega)).mono (fun o_51 ho_52 => ?_))
            obtain ⟨r24_1, σ25_1⟩ := o_51
            obtain ⟨hIσ25_1, hcσ25_1, r0r24_1, r1r24_1⟩ := ho_52
            dsimp only at hIσ25_1 hcσ25_1 r0r24_1 r1r24_1 ⊢
            have hfσ25_1 : Fr fr_fX3_readStatement σ σ25_1 := Fr_c hfσ12_1 hcσ25_1 (by decide)
            refine ok_nm.mpr ?_
            try unfold jX3_readStatement_142
            refine ok_ite.mpr ⟨fun h_53 => ?_, fun h_53 => ?_⟩
            · have g54 : r24_1.toInt = (0 : Int32).toInt := by rw [h_53]
              refine ok_some.mpr ?_
              exact ⟨hIσ25_1, hfσ25_1, (show 0 ≤ (0 : Int32).toInt by omega), (show (0 : Int32).toInt ≤ 1 by omega)⟩
            · have g55 : r24_1.toInt ≠ (0 : Int32).toInt := fun z => h_53 (Int32.toInt_inj.mp z)
              refine ok_bd2.mpr ((o_fX3_readSemicolon hIσ25_1  ).mono (fun o_56 ho_57 => ?_))
              obtain ⟨r19_5, σ20_5⟩ := o_56
              obtain ⟨hIσ20_5, hcσ20_5, r0r19_5, r1r19_5⟩ := ho_57
              dsimp only at hIσ20_5 hcσ20_5 r0r19_5 r1r19_5 ⊢
              have hfσ20_5 : Fr fr_fX3_readStatement σ σ20_5 := Fr_c hfσ25_1 hcσ20_5 (by decide)
              have sσ20_5_25_0 : (σ20_5.1 25 0).toInt = (σ25_1.1 25 0).toInt := by rw [(hcσ20_5 25 0 (by decide) (by decide)).1]
              have sσ20_5_25_1 : (σ20_5.1 25 1).toInt = (σ25_1.1 25 1).toInt := by rw [(hcσ20_5 25 1 (by decide) (by decide)).1]
              have sσ20_5_25_2 : (σ20_5.1 25 2).toInt = (σ25_1.1 25 2).toInt := by rw [(hcσ20_5 25 2 (by decide) (by decide)).1]
              have sσ20_5_25_3 : (σ20_5.1 25 3).toInt = (σ25_1.1 25 3).toInt := by rw [(hcσ20_5 25 3 (by decide) (by decide)).1]
              have sσ20_5_46_6 : (σ20_5.1 46 6).toInt = (σ25_1.1 46 6).toInt := by rw [(hcσ20_5 46 6 (by decide) (by decide)).1]
              refine ok_ite.mpr ⟨fun h_58 => ?_, fun h_58 => ?_⟩
              · have g59 : r19_5.toInt = (0 : Int32).toInt := by rw [h_58]
                refine ok_some.mpr ?_
                exact ⟨hIσ20_5, hfσ20_5, (show 0 ≤ (0 : Int32).toInt by omega), (show (0 : Int32).toInt ≤ 1 by omega)⟩
              · have g60 : r19_5.toInt ≠ (0 : Int32).toInt := fun z => h_58 (Int32.toInt_inj.mp z)
                refine ok_some.mpr ?_
                exact ⟨hIσ20_5, hfσ20_5, (show 0 ≤ (1 : Int32).toInt by omega), (show (1 : Int32).toInt ≤ 1 by omega)⟩
          · have f61 : (2 : Int32).toInt = 2 := by decide
            have g62 : r5.toInt ≠ (2 : Int32).toInt := fun z => h_48 (Int32.toInt_inj.mp z)
            refine ok_ite.mpr ⟨fun h_63 => ?_, fun h_63 => ?_⟩
            · have f64 : (3 : Int32).toInt = 3 := by decide
              have g65 : r5.toInt = (3 : Int32).toInt := by rw [h_63]
              refine ok_bd2.mpr ((o_fX3_readRow hIσ12_1  ).mono (fun o_66 ho_67 => ?_))
              obtain ⟨r29_1, σ30_1⟩ := o_66
              obtain ⟨hIσ30_1, hcσ30_1, r0r29_1, r1r29_1⟩ := ho_67
              dsimp only at hIσ30_1 hcσ30_1 r0r29_1 r1r29_1 ⊢
              have hfσ30_1 : Fr fr_fX3_readStatement σ σ30_1 := Fr_c hfσ12_1 hcσ30_1 (by decide)
              refine ok_nm.mpr ?_
              try unfold jX3_readStatement_142
              refine ok_ite.mpr ⟨fun h_68 => ?_, fun h_68 => ?_⟩
              · have g69 : r29_1.toInt = (0 : Int32).toInt := by rw [h_68]
                refine ok_some.mpr ?_
                exact ⟨hIσ30_1, hfσ30_1, (show 0 ≤ (0 : Int32).toInt by omega), (show (0 : Int32).toInt ≤ 1 by omega)⟩
              · have g70 : r29_1.toInt ≠ (0 : Int32).toInt := fun z => h_68 (Int32.toInt_inj.mp z)
                refine ok_bd2.mpr ((o_fX3_readSemicolon hIσ30_1  ).mono (fun o_71 ho_72 => ?_))
                obtain ⟨r19_7, σ20_7⟩ := o_71
                obtain ⟨hIσ20_7, hcσ20_7, r0r19_7, r1r19_7⟩ := ho_72
                dsimp only at hIσ20_7 hcσ20_7 r0r19_7 r1r19_7 ⊢
                have hfσ20_7 : Fr fr_fX3_readStatement σ σ20_7 := Fr_c hfσ30_1 hcσ20_7 (by decide)
                have sσ20_7_25_0 : (σ20_7.1 25 0).toInt = (σ30_1.1 25 0).toInt := by rw [(hcσ20_7 25 0 (by decide) (by decide)).1]
                have sσ20_7_25_1 : (σ20_7.1 25 1).toInt = (σ30_1.1 25 1).toInt := by rw [(hcσ20_7 25 1 (by decide) (by decide)).1]
                have sσ20_7_25_2 : (σ20_7.1 25 2).toInt = (σ30_1.1 25 2).toInt := by rw [(hcσ20_7 25 2 (by decide) (by decide)).1]
                have sσ20_7_25_3 : (σ20_7.1 25 3).toInt = (σ30_1.1 25 3).toInt := by rw [(hcσ20_7 25 3 (by decide) (by decide)).1]
                have sσ20_7_46_6 : (σ20_7.1 46 6).toInt = (σ30_1.1 46 6).toInt := by rw [(hcσ20_7 46 6 (by decide) (by decide)).1]
                refine ok_ite.mpr ⟨fun h_73 => ?_, fun h_73 => ?_⟩
                · have g74 : r19_7.toInt = (0 : Int32).toInt := by rw [h_73]
                  refine ok_some.mpr ?_
                  exact ⟨hIσ20_7, hfσ20_7, (show 0 ≤ (0 : Int32).toInt by omega), (show (0 : Int32).toInt ≤ 1 by omega)⟩
                · have g75 : r19_7.toInt ≠ (0 : Int32).toInt := fun z => h_73 (Int32.toInt_inj.mp z)
                  refine ok_some.mpr ?_
                  exact ⟨hIσ20_7, hfσ20_7, (show 0 ≤ (1 : Int32).toInt by omega), (show (1 : Int32).toInt ≤ 1 by omega)⟩
            · have f76 : (3 : Int32).toInt = 3 := by decide
              have g77 : r5.toInt ≠ (3 : Int32).toInt := fun z => h_63 (Int32.toInt_inj.mp z)
              refine ok_ite.mpr ⟨fun h_78 => ?_, fun h_78 => ?_⟩
              · have f79 : (4 : Int32).toInt = 4 := by decide
                have g80 : r5.toInt = (4 : Int32).toInt := by rw [h_78]
                refine ok_bd2.mpr ((o_fX3_readControl hIσ12_1  ).mono (fun o_81 ho_82 => ?_))
                obtain ⟨r34_1, σ35_1⟩ := o_81
                obtain ⟨hIσ35_1, hcσ35_1, r0r34_1, r1r34_1⟩ := ho_82
                dsimp only at hIσ35_1 hcσ35_1 r0r34_1 r1r34_1 ⊢
                have hfσ35_1 : Fr fr_fX3_readStatement σ σ35_1 := Fr_c hfσ12_1 hcσ35_1 (by decide)
                refine ok_nm.mpr ?_
                try unfold jX3_readStatement_142
                refine ok_ite.mpr ⟨fun h_83 => ?_, fun h_83 => ?_⟩
                · have g84 : r34_1.toInt = (0 : Int32).toInt := by rw [h_83]
                  refine ok_some.mpr ?_
                  exact ⟨hIσ35_1, hfσ35_1, (show 0 ≤ (0 : Int32).toInt by omega), (show (0 : Int32).toInt ≤ 1 by omega)⟩
                · have g85 : r34_1.toInt ≠ (0 : Int32).toInt := fun z => h_83 (Int32.toInt_inj.mp z)
                  refine ok_bd2.mpr ((o_fX3_readSemicolon hIσ35_1  ).mono (fun o_86 ho_87 => ?_))
                  obtain ⟨r19_9, σ20_9⟩ := o_86
                  obtain ⟨hIσ20_9, hcσ20_9, r0r19_9, r1r19_9⟩ := ho_87
                  dsimp only at hIσ20_9 hcσ20_9 r0r19_9 r1r19_9 ⊢
                  have hfσ20_9 : Fr fr_fX3_readStatement σ σ20_9 := Fr_c hfσ35_1 hcσ20_9 (by decide)
                  have sσ20_9_25_0 : (σ20_9.1 25 0).toInt = (σ35_1.1 25 0).toInt := by rw [(hcσ20_9 25 0 (by decide) (by decide)).1]
                  have sσ20_9_25_1 : (σ20_9.1 25 1).toInt = (σ35_1.1 25 1).toInt := by rw [(hcσ20_9 25 1 (by decide) (by decide)).1]
                  have sσ20_9_25_2 : (σ20_9.1 25 2).toInt = (σ35_1.1 25 2).toInt := by rw [(hcσ20_9 25 2 (by decide) (by decide)).1]
                  have sσ20_9_25_3 : (σ20_9.1 25 3).toInt = (σ35_1.1 25 3).toInt := by rw [(hcσ20_9 25 3 (by decide) (by decide)).1]
                  have sσ20_9_46_6 : (σ20_9.1 46 6).toInt = (σ35_1.1 46 6).toInt := by rw [(hcσ20_9 46 6 (by decide) (by decide)).1]
                  refine ok_ite.mpr ⟨fun h_88 => ?_, fun h_88 => ?_⟩
                  · have g89 : r19_9.toInt = (0 : Int32).toInt := by rw [h_88]
                    refine ok_some.mpr ?_
                    exact ⟨hIσ20_9, hfσ20_9, (show 0 ≤ (0 : Int32).toInt by omega), (show (0 : Int32).toInt ≤ 1 by omega)⟩
                  · have g90 : r19_9.toInt ≠ (0 : Int32).toInt := fun z => h_88 (Int32.toInt_inj.mp z)
                    refine ok_some.mpr ?_
                    exact ⟨hIσ20_9, hfσ20_9, (show 0 ≤ (1 : Int32).toInt by omega), (show (1 : Int32).toInt ≤ 1 by omega)⟩
              · have f91 : (4 : Int32).toInt = 4 := by decide
                have g92 : r5.toInt ≠ (4 : Int32).toInt := fun z => h_78 (Int32.toInt_inj.mp z)
                refine ok_ite.mpr ⟨fun h_93 => ?_, fun h_93 => ?_⟩
                · have f94 : (5 : Int32).toInt = 5 := by decide
                  have g95 : r5.toInt = (5 : Int32).toInt := by rw [h_93]
                  refine ok_bd2.mpr ((o_fX3_readCentre hIσ12_1  ).mono (fun o_96 ho_97 => ?_))
                  obtain ⟨r39_1, σ40_1⟩ := o_96
                  obtain ⟨hIσ40_1, hcσ40_1, r0r39_1, r1r39_1⟩ := ho_97
                  dsimp only at hIσ40_1 hcσ40_1 r0r39_1 r1r39_1 ⊢
                  have hfσ40_1 : Fr fr_fX3_readStatement σ σ40_1 := Fr_c hfσ12_1 hcσ40_1 (by decide)
                  refine ok_nm.mpr ?_
                  try unfold jX3_readStatement_142
                  refine ok_ite.mpr ⟨fun h_98 => ?_, fun h_98 => ?_⟩
                  · have g99 : r39_1.toInt = (0 : Int32).toInt := by rw [h_98]
                    refine ok_some.mpr ?_
                    exact ⟨hIσ40_1, hfσ40_1, (show 0 ≤ (0 : Int32).toInt by omega), (show (0 : Int32).toInt ≤ 1 by omega)⟩
                  · have g100 : r39_1.toInt ≠ (0 : Int32).toInt := fun z => h_98 (Int32.toInt_inj.mp z)
                    refine ok_bd2.mpr ((o_fX3_readSemicolon hIσ40_1  ).mono (fun o_101 ho_102 => ?_))
                    obtain ⟨r19_11, σ20_11⟩ := o_101
                    obtain ⟨hIσ20_11, hcσ20_11, r0r19_11, r1r19_11⟩ := ho_102
                    dsimp only at hIσ20_11 hcσ20_11 r0r19_11 r1r19_11 ⊢
                    have hfσ20_11 : Fr fr_fX3_readStatement σ σ20_11 := Fr_c hfσ40_1 hcσ20_11 (by decide)
                    have sσ20_11_25_0 : (σ20_11.1 25 0).toInt = (σ40_1.1 25 0).toInt := by rw [(hcσ20_11 25 0 (by decide) (by decide)).1]
                    have sσ20_11_25_1 : (σ20_11.1 25 1).toInt = (σ40_1.1 25 1).toInt := by rw [(hcσ20_11 25 1 (by decide) (by decide)).1]
                    have sσ20_11_25_2 : (σ20_11.1 25 2).toInt = (σ40_1.1 25 2).toInt := by rw [(hcσ20_11 25 2 (by decide) (by decide)).1]
                    have sσ20_11_25_3 : (σ20_11.1 25 3).toInt = (σ40_1.1 25 3).toInt := by rw [(hcσ20_11 25 3 (by decide) (by decide)).1]
                    have sσ20_11_46_6 : (σ20_11.1 46 6).toInt = (σ40_1.1 46 6).toInt := by rw [(hcσ20_11 46 6 (by decide) (by decide)).1]
                    refine ok_ite.mpr ⟨fun h_103 => ?_, fun h_103 => ?_⟩
                    · have g104 : r19_11.toInt = (0 : Int32).toInt := by rw [h_103]
                      refine ok_some.mpr ?_
                      exact ⟨hIσ20_11, hfσ20_11, (show 0 ≤ (0 : Int32).toInt by omega), (show (0 : Int32).toInt ≤ 1 by omega)⟩
                    · have g105 : r19_11.toInt ≠ (0 : Int32).toInt := fun z => h_103 (Int32.toInt_inj.mp z)
                      refine ok_some.mpr ?_
                      exact ⟨hIσ20_11, hfσ20_11, (show 0 ≤ (1 : Int32).toInt by omega), (show (1 : Int32).toInt ≤ 1 by omega)⟩
                · have f106 : (5 : Int32).toInt = 5 := by decide
                  have g107 : r5.toInt ≠ (5 : Int32).toInt := fun z => h_93 (Int32.toInt_inj.mp z)
                  refine ok_bd2.mpr ((o_fX3_readNamed hIσ12_1 (p1 := r5) (by omega) (by omega)).mono (fun o_108 ho_109 => ?_))
                  obtain ⟨r44_1, σ45_1⟩ := o_108
                  obtain ⟨hIσ45_1, hcσ45_1, r0r44_1, r1r44_1⟩ := ho_109
                  dsimp only at hIσ45_1 hcσ45_1 r0r44_1 r1r44_1 ⊢
                  have hfσ45_1 : Fr fr_fX3_readStatement σ σ45_1 := Fr_c hfσ12_1 hcσ45_1 (by decide)
                  refine ok_nm.mpr ?_
                  try unfold jX3_readStatement_142
                  refine ok_ite.mpr ⟨fun h_110 => ?_, fun h_110 => ?_⟩
                  · have g111 : r44_1.toInt = (0 : Int32).toInt := by rw [h_110]
                    refine ok_some.mpr ?_
                    exact ⟨hIσ45_1, hfσ45_1, (show 0 ≤ (0 : Int32).toInt by omega), (show (0 : Int32).toInt ≤ 1 by omega)⟩
                  · have g112 : r44_1.toInt ≠ (0 : Int32).toInt := fun z => h_110 (Int32.toInt_inj.mp z)
                    refine ok_bd2.mpr ((o_fX3_readSemicolon hIσ45_1  ).mono (fun o_113 ho_114 => ?_))
                    obtain ⟨r19_13, σ20_13⟩ := o_113
                    obtain ⟨hIσ20_13, hcσ20_13, r0r19_13, r1r19_13⟩ := ho_114
                    dsimp only at hIσ20_13 hcσ20_13 r0r19_13 r1r19_13 ⊢
                    have hfσ20_13 : Fr fr_fX3_readStatement σ σ20_13 := Fr_c hfσ45_1 hcσ20_13 (by decide)
                    have sσ20_13_25_0 : (σ20_13.1 25 0).toInt = (σ45_1.1 25 0).toInt := by rw [(hcσ20_13 25 0 (by decide) (by decide)).1]
                    have sσ20_13_25_1 : (σ20_13.1 25 1).toInt = (σ45_1.1 25 1).toInt := by rw [(hcσ20_13 25 1 (by decide) (by decide)).1]
                    have sσ20_13_25_2 : (σ20_13.1 25 2).toInt = (σ45_1.1 25 2).toInt := by rw [(hcσ20_13 25 2 (by decide) (by decide)).1]
                    have sσ20_13_25_3 : (σ20_13.1 25 3).toInt = (σ45_1.1 25 3).toInt := by rw [(hcσ20_13 25 3 (by decide) (by decide)).1]
                    have sσ20_13_46_6 : (σ20_13.1 46 6).toInt = (σ45_1.1 46 6).toInt := by rw [(hcσ20_13 46 6 (by decide) (by decide)).1]
                    refine ok_ite.mpr ⟨fun h_115 => ?_, fun h_115 => ?_⟩
                    · have g116 : r19_13.toInt = (0 : Int32).toInt := by rw [h_115]
                      refine ok_some.mpr ?_
                      exact ⟨hIσ20_13, hfσ20_13, (show 0 ≤ (0 : Int32).toInt by omega), (show (0 : Int32).toInt ≤ 1 by omega)⟩
                    · have g117 : r19_13.toInt ≠ (0 : Int32).toInt := fun z => h_115 (Int32.toInt_inj.mp z)
                      refine ok_some.mpr ?_
                      exact ⟨hIσ20_13, hfσ20_13, (show 0 ≤ (1 : Int32).toInt by omega), (show (1 : Int32).toInt ≤ 1 by omega)⟩
      · have f118 : (0 : Int32).toInt = 0 := by decide
        have g119 : r9_1.toInt ≠ (0 : Int32).toInt := fun z => h_28 (Int32.toInt_inj.mp z)
        have f120 : (4 : Int32).toInt = 4 := by decide
        have f121 : 0 ≤ (σ2.1 46 6).toInt ∧ (σ2.1 46 6).toInt ≤ 1600 := hIσ2 46 6
        refine ok_bd2.mpr ((o_fX3_fail hIσ2 (p1 := (4 : Int32)) (p2 := (σ2.1 46 6)) ).mono (fun o_122 ho_123 => ?_))
        obtain ⟨r48_1, σ49_1⟩ := o_122
        obtain ⟨hIσ49_1, hcσ49_1, r0r48_1, r1r48_1⟩ := ho_123
        dsimp only at hIσ49_1 hcσ49_1 r0r48_1 r1r48_1 ⊢
        have hfσ49_1 : Fr fr_fX3_readStatement σ σ49_1 := Fr_c hfσ2 hcσ49_1 (by decide)
        have sσ49_1_25_0 : (σ49_1.1 25 0).toInt = (σ2.1 25 0).toInt := by rw [(hcσ49_1 25 0 (by decide) (by decide)).1]
        have sσ49_1_25_1 : (σ49_1.1 25 1).toInt = (σ2.1 25 1).toInt := by rw [(hcσ49_1 25 1 (by decide) (by decide)).1]
        have sσ49_1_25_2 : (σ49_1.1 25 2).toInt = (σ2.1 25 2).toInt := by rw [(hcσ49_1 25 2 (by decide) (by decide)).1]
        have sσ49_1_25_3 : (σ49_1.1 25 3).toInt = (σ2.1 25 3).toInt := by rw [(hcσ49_1 25 3 (by decide) (by decide)).1]
        have sσ49_1_46_6 : (σ49_1.1 46 6).toInt = (σ2.1 46 6).toInt := by rw [(hcσ49_1 46 6 (by decide) (by decide)).1]
        refine ok_some.mpr ?_
        have f124 : (vp_nar .boolean r48_1).toInt = r48_1.toInt := nar_bool2 (by omega) (by omega)
        exact ⟨hIσ49_1, hfσ49_1, (show 0 ≤ (vp_nar .boolean r48_1).toInt by omega), (show (vp_nar .boolean r48_1).toInt ≤ 1 by omega)⟩
  · have f125 : (120 : Int32).toInt = 120 := by decide
    have g126 : ¬ p1.toInt < (120 : Int32).toInt := fun z => h_10 (Int32.lt_iff_toInt_lt.mpr z)
    have f127 : (4 : Int32).toInt = 4 := by decide
    have f128 : 0 ≤ (σ2.1 46 6).toInt ∧ (σ2.1 46 6).toInt ≤ 1600 := hIσ2 46 6
    refine ok_bd2.mpr ((o_fX3_fail hIσ2 (p1 := (4 : Int32)) (p2 := (σ2.1 46 6)) ).mono (fun o_129 ho_130 => ?_))
    obtain ⟨r54, σ55⟩ := o_129
    obtain ⟨hIσ55, hcσ55, r0r54, r1r54⟩ := ho_130
    dsimp only at hIσ55 hcσ55 r0r54 r1r54 ⊢
    have hfσ55 : Fr fr_fX3_readStatement σ σ55 := Fr_c hfσ2 hcσ55 (by decide)
    have sσ55_25_0 : (σ55.1 25 0).toInt = (σ2.1 25 0).toInt := by rw [(hcσ55 25 0 (by decide) (by decide)).1]
    have sσ55_25_1 : (σ55.1 25 1).toInt = (σ2.1 25 1).toInt := by rw [(hcσ55 25 1 (by decide) (by decide)).1]
    have sσ55_25_2 : (σ55.1 25 2).toInt = (σ2.1 25 2).toInt := by rw [(hcσ55 25 2 (by decide) (by decide)).1]
    have sσ55_25_3 : (σ55.1 25 3).toInt = (σ2.1 25 3).toInt := by rw [(hcσ55 25 3 (by decide) (by decide)).1]
    have sσ55_46_6 : (σ55.1 46 6).toInt = (σ2.1 46 6).toInt := by rw [(hcσ55 46 6 (by decide) (by decide)).1]
    refine ok_some.mpr ?_
    have f131 : (vp_nar .boolean r54).toInt = r54.toInt := nar_bool2 (by omega) (by omega)
    exact ⟨hIσ55, hfσ55, (show 0 ≤ (vp_nar .boolean r54).toInt by omega), (show (vp_nar .boolean r54).toInt ≤ 1 by omega)⟩
set_option maxRecDepth 20000 in
set_option maxHeartbeats 2000000 in
theorem o_fX3_read {σ : gS} (hIσ : JC σ) {p1 : Int32} (h0p1 : 0 ≤ p1.toInt) (h1p1 : p1.toInt ≤ 1600) : Ok (fX3_read σ p1) (fun out => JC out.2 ∧ Fr fr_fX3_read σ out.2 ∧ -1 ≤ out.1.toInt ∧ out.1.toInt ≤ 240) := by
  unfold fX3_read
  have hfσ : Fr fr_fX3_read σ σ := Fr_r
  have f1 : 0 ≤ (σ.1 46 4).toInt ∧ (σ.1 46 4).toInt ≤ 1600 := hIσ 46 4
  have f2 : 0 ≤ (σ.1 46 5).toInt ∧ (σ.1 46 5).toInt ≤ 1600 := hIσ 46 5
  refine ok_nm2 (fun σ1 eσ1 => ?_)
  have f3 : (1600 : Int32).toInt = 1600 := by decide
  have f4 : ((if (1600 : Int32) < p1 then 1600 else p1).toInt = (1600 : Int32).toInt ∧ (1600 : Int32).toInt < p1.toInt) ∨ ((if (1600 : Int32) < p1 then 1600 else p1).toInt = p1.toInt ∧ ¬ (1600 : Int32).toInt < p1.toInt) := by
    by_cases hz : (1600 : Int32) < p1
    · exact .inl ⟨by rw [if_pos hz], Int32.lt_iff_toInt_lt.mp hz⟩
    · exact .inr ⟨by rw [if_neg hz], fun z => hz (Int32.lt_iff_toInt_lt.mpr z)⟩
  have hIσ1 : JC σ1 := by rw [eσ1]; exact JC_w hIσ (show 0 ≤ _ by omega) (show _ ≤ 1600 by omega)
  have hfσ1 : Fr fr_fX3_read σ σ1 := by rw [eσ1]; exact Fr_w hfσ (by decide)
  have sσ1_46_4 : (σ1.1 46 4).toInt = (if (1600 : Int32) < p1 then 1600 else p1).toInt := by rw [eσ1]; rfl
  have sσ1_46_5 : (σ1.1 46 5).toInt = (σ.1 46 5).toInt := by rw [eσ1]; rfl
  refine ok_nm2 (fun σ2 eσ2 => ?_)
  have f5 : (0 : Int32).toInt = 0 := by decide
  have hIσ2 : JC σ2 := by rw [eσ2]; exact JC_w hIσ1 (show 0 ≤ _ by omega) (show _ ≤ 1600 by omega)
  have hfσ2 : Fr fr_fX3_read σ σ2 := by rw [eσ2]; exact Fr_w hfσ1 (by decide)
  have sσ2_46_4 : (σ2.1 46 4).toInt = (σ1.1 46 4).toInt := by rw [eσ2]; rfl
  have sσ2_46_5 : (σ2.1 46 5).toInt = (0 : Int32).toInt := by rw [eσ2]; rfl
  refine ok_nm2 (fun σ3 eσ3 => ?_)
  have hIσ3 : JC σ3 := by rw [eσ3]; exact JC_w hIσ2 (Int32.le_toInt _) (Int32.toInt_le _)
  have hfσ3 : Fr fr_fX3_read σ σ3 := by rw [eσ3]; exact Fr_w hfσ2 (by decide)
  have sσ3_46_4 : (σ3.1 46 4).toInt = (σ2.1 46 4).toInt := by rw [eσ3]; rfl
  have sσ3_46_5 : (σ3.1 46 5).toInt = (σ2.1 46 5).toInt := by rw [eσ3]; rfl
  refine ok_nm2 (fun σ4 eσ4 => ?_)
  have hIσ4 : JC σ4 := by rw [eσ4]; exact JC_w hIσ3 (Int32.le_toInt _) (Int32.toInt_le _)
  have hfσ4 : Fr fr_fX3_read σ σ4 := by rw [eσ4]; exact Fr_w hfσ3 (by decide)
  have sσ4_46_4 : (σ4.1 46 4).toInt = (σ3.1 46 4).toInt := by rw [eσ4]; rfl
  have sσ4_46_5 : (σ4.1 46 5).toInt = (σ3.1 46 5).toInt := by rw [eσ4]; rfl
  refine ok_nm2 (fun σ5 eσ5 => ?_)
  have hIσ5 : JC σ5 := by rw [eσ5]; exact JC_w hIσ4 (Int32.le_toInt _) (Int32.toInt_le _)
  have hfσ5 : Fr fr_fX3_read σ σ5 := by rw [eσ5]; exact Fr_w hfσ4 (by decide)
  have sσ5_46_4 : (σ5.1 46 4).toInt = (σ4.1 46 4).toInt := by rw [eσ5]; rfl
  have sσ5_46_5 : (σ5.1 46 5).toInt = (σ4.1 46 5).toInt := by rw [eσ5]; rfl
  refine ok_bd.mpr ((o_fX8_clear_24 hIσ5  ).mono (fun σ7 ho_7 => ?_))
  obtain ⟨hIσ7, hcσ7⟩ := ho_7
  have hfσ7 : Fr fr_fX3_read σ σ7 := Fr_c hfσ5 hcσ7 (by decide)
  have sσ7_46_4 : (σ7.1 46 4).toInt = (σ5.1 46 4).toInt := by rw [(hcσ7 46 4 (by decide) (by decide)).1]
  have sσ7_46_5 : (σ7.1 46 5).toInt = (σ5.1 46 5).toInt := by rw [(hcσ7 46 5 (by decide) (by decide)).1]
  refine ok_nm2 (fun x8 ex8 => ?_)
  have qx8 : x8.toInt = 0 := by rw [ex8]; decide
  refine ok_bd.mpr ((o_fX3_skipBlanks hIσ7  ).mono (fun σ10 ho_9 => ?_))
  obtain ⟨hIσ10, hcσ10⟩ := ho_9
  have hfσ10 : Fr fr_fX3_read σ σ10 := Fr_c hfσ7 hcσ10 (by decide)
  have sσ10_46_4 : (σ10.1 46 4).toInt = (σ7.1 46 4).toInt := by rw [(hcσ10 46 4 (by decide) (by decide)).1]
  refine ok_lpc (I := fun n s => n = (122 - s.1.toInt).toNat ∧ JC s.2 ∧ Fr fr_fX3_read σ s.2 ∧ 0 ≤ s.1.toInt ∧ s.1.toInt ≤ 240) (fun rec46_1r n_1 s_1 hs_1 hrec_1 => ?_) K9 ((122 - x8.toInt).toNat) (x8, σ10) ⟨rfl, hIσ10, hfσ10, (show 0 ≤ x8.toInt by omega), (show x8.toInt ≤ 240 by omega)⟩ (by unfold K9; omega)
  obtain ⟨a2_1, σ1_1⟩ := s_1
  obtain ⟨hn_1, hIσ1_1, hfσ1_1, b0a2_1, b1a2_1⟩ := hs_1
  dsimp only at hn_1 hIσ1_1 hfσ1_1 b0a2_1 b1a2_1
  unfold bX3_read_46
  try dsimp only
  refine ok_ite.mpr ⟨fun h_10 => ?_, fun h_10 => ?_⟩
  · have f11 : 0 ≤ (σ1_1.1 46 4).toInt ∧ (σ1_1.1 46 4).toInt ≤ 1600 := hIσ1_1 46 4
    have f12 : 0 ≤ (σ1_1.1 46 5).toInt ∧ (σ1_1.1 46 5).toInt ≤ 1600 := hIσ1_1 46 5
    have g13 : (σ1_1.1 46 4).toInt ≤ (σ1_1.1 46 5).toInt := Int32.le_iff_toInt_le.mp h_10
    refine ok_some.mpr ?_
    exact ⟨hIσ1_1, hfσ1_1, (show -1 ≤ a2_1.toInt by omega), (show a2_1.toInt ≤ 240 by omega)⟩
  · have f14 : 0 ≤ (σ1_1.1 46 4).toInt ∧ (σ1_1.1 46 4).toInt ≤ 1600 := hIσ1_1 46 4
    have f15 : 0 ≤ (σ1_1.1 46 5).toInt ∧ (σ1_1.1 46 5).toInt ≤ 1600 := hIσ1_1 46 5
    have g16 : ¬ (σ1_1.1 46 4).toInt ≤ (σ1_1.1 46 5).toInt := fun z => h_10 (Int32.le_iff_toInt_le.mpr z)
    refine ok_ite.mpr ⟨fun h_17 => ?_, fun h_17 => ?_⟩
    · have f18 : (120 : Int32).toInt = 120 := by decide
      have g19 : (120 : Int32).toInt < a2_1.toInt := Int32.lt_iff_toInt_lt.mp h_17
      refine ok_some.mpr ?_
      exact ⟨hIσ1_1, hfσ1_1, (show -1 ≤ a2_1.toInt by omega), (show a2_1.toInt ≤ 240 by omega)⟩
    · have f20 : (120 : Int32).toInt = 120 := by decide
      have g21 : ¬ (120 : Int32).toInt < a2_1.toInt := fun z => h_17 (Int32.lt_iff_toInt_lt.mpr z)
      refine ok_bd2.mpr ((o_fX3_readStatement hIσ1_1 (p1 := a2_1) (by omega) (by omega)).mono (fun o_22 ho_23 => ?_))
      obtain ⟨r14_2, σ15_2⟩ := o_22
      obtain ⟨hIσ15_2, hcσ15_2, r0r14_2, r1r14_2⟩ := ho_23
      dsimp only at hIσ15_2 hcσ15_2 r0r14_2 r1r14_2 ⊢
      have hfσ15_2 : Fr fr_fX3_read σ σ15_2 := Fr_c hfσ1_1 hcσ15_2 (by decide)
      have sσ15_2_46_4 : (σ15_2.1 46 4).toInt = (σ1_1.1 46 4).toInt := by rw [(hcσ15_2 46 4 (by decide) (by decide)).1]
      refine ok_ite.mpr ⟨fun h_24 => ?_, fun h_24 => ?_⟩
      · have g25 : r14_2.toInt = (0 : Int32).toInt := by rw [h_24]
        refine ok_some.mpr ?_
        have f26 : (-1 : Int32).toInt = -1 := by decide
        exact ⟨hIσ15_2, hfσ15_2, (show -1 ≤ (-1 : Int32).toInt by omega), (show (-1 : Int32).toInt ≤ 240 by omega)⟩
      · have g27 : r14_2.toInt ≠ (0 : Int32).toInt := fun z => h_24 (Int32.toInt_inj.mp z)
        refine ok_nm2 (fun x17_2 ex17_2 => ?_)
        have f28 : (1 : Int32).toInt = 1 := by decide
        have f29 : (a2_1 + (1 : Int32)).toInt = a2_1.toInt + (1 : Int32).toInt := iadd_toInt (by omega) (by omega)
        have qx17_2 : x17_2.toInt = (a2_1 + 1).toInt := congrArg Int32.toInt ex17_2
        refine ok_bd.mpr ((o_fX3_skipBlanks hIσ15_2  ).mono (fun σ19_2 ho_31 => ?_))
        obtain ⟨hIσ19_2, hcσ19_2⟩ := ho_31
        have hfσ19_2 : Fr fr_fX3_read σ σ19_2 := Fr_c hfσ15_2 hcσ19_2 (by decide)
        have sσ19_2_46_4 : (σ19_2.1 46 4).toInt = (σ15_2.1 46 4).toInt := by rw [(hcσ19_2 46 4 (by decide) (by decide)).1]
        exact hrec_1 _ (x17_2, σ19_2) (show (122 - x17_2.toInt).toNat < n_1 by omega) ⟨rfl, hIσ19_2, hfσ19_2, (show 0 ≤ x17_2.toInt by omega), (show x17_2.toInt ≤ 240 by omega)⟩
/-! fill: o_fill -/
set_option maxRecDepth 20000 in
set_option maxHeartbeats 2000000 in
theorem o_fX8_takeFrom_2_24 {σ : gS} (hIσ : JC σ)   : Ok (fX8_takeFrom_2_24 σ ) (fun out => JC out ∧ Fr fr_fX8_takeFrom_2_24 σ out) := by
  unfold fX8_takeFrom_2_24
  have hfσ : Fr fr_fX8_takeFrom_2_24 σ σ := Fr_r
  refine ok_bd.mpr ((o_copy (a := 25) (b := 3) hIσ (by decide) (fun i => ⟨Int.le_refl _, Int.le_refl _⟩)).mono (fun σ2 ho_1 => ?_))
  obtain ⟨hIσ2, hcσ2, hvσ2⟩ := ho_1
  have hfσ2 : Fr fr_fX8_takeFrom_2_24 σ σ2 := Fr_c hfσ hcσ2 (by decide)
  refine ok_nm2 (fun x3 ex3 => ?_)
  have f2 : (0 : Int32).toInt = 0 := by decide
  have qx3 : x3.toInt = 0 := by rw [ex3]; decide
  refine ok_lpc (I := fun n s => n = (3 + 1 - s.1.toInt).toNat ∧ JC s.2 ∧ Fr fr_fX8_takeFrom_2_24 σ s.2 ∧ 0 ≤ s.1.toInt ∧ s.1.toInt ≤ 3) (fun rec13_1r n_1 s_1 hs_1 hrec_1 => ?_) K9 ((3 + 1 - x3.toInt).toNat) (x3, σ2) ⟨rfl, hIσ2, hfσ2, (show 0 ≤ x3.toInt by omega), (show x3.toInt ≤ 3 by omega)⟩ (by unfold K9; omega)
  obtain ⟨a2_1, σ1_1⟩ := s_1
  obtain ⟨hn_1, hIσ1_1, hfσ1_1, b0a2_1, b1a2_1⟩ := hs_1
  dsimp only at hn_1 hIσ1_1 hfσ1_1 b0a2_1 b1a2_1
  unfold bX8_takeFrom_2_24_13
  try dsimp only
  refine ok_ite.mpr ⟨fun h_3 => ?_, fun h_3 => ?_⟩
  · have f4 : (2 : Int32).toInt = 2 := by decide
    have g5 : (2 : Int32).toInt < a2_1.toInt := Int32.lt_iff_toInt_lt.mp h_3
    refine ok_bd.mpr ((o_copy (a := 30) (b := 8) hIσ1_1 (by decide) (fun i => ⟨Int.le_refl _, Int.le_refl _⟩)).mono (fun σ6_2 ho_6 => ?_))
    obtain ⟨hIσ6_2, hcσ6_2, hvσ6_2⟩ := ho_6
    have hfσ6_2 : Fr fr_fX8_takeFrom_2_24 σ σ6_2 := Fr_c hfσ1_1 hcσ6_2 (by decide)
    refine ok_bd.mpr ((o_copy (a := 31) (b := 9) hIσ6_2 (by decide) (fun i => ⟨Int.le_refl _, Int.le_refl _⟩)).mono (fun σ8_2 ho_7 => ?_))
    obtain ⟨hIσ8_2, hcσ8_2, hvσ8_2⟩ := ho_7
    have hfσ8_2 : Fr fr_fX8_takeFrom_2_24 σ σ8_2 := Fr_c hfσ6_2 hcσ8_2 (by decide)
    refine ok_bd.mpr ((o_copy (a := 32) (b := 10) hIσ8_2 (by decide) (fun i => ⟨Int.le_refl _, Int.le_refl _⟩)).mono (fun σ10_2 ho_8 => ?_))
    obtain ⟨hIσ10_2, hcσ10_2, hvσ10_2⟩ := ho_8
    have hfσ10_2 : Fr fr_fX8_takeFrom_2_24 σ σ10_2 := Fr_c hfσ8_2 hcσ10_2 (by decide)
    refine ok_bd.mpr ((o_copy (a := 33) (b := 11) hIσ10_2 (by decide) (fun i => ⟨Int.le_refl _, Int.le_refl _⟩)).mono (fun σ12_2 ho_9 => ?_))
    obtain ⟨hIσ12_2, hcσ12_2, hvσ12_2⟩ := ho_9
    have hfσ12_2 : Fr fr_fX8_takeFrom_2_24 σ σ12_2 := Fr_c hfσ10_2 hcσ12_2 (by decide)
    refine ok_bd.mpr ((o_copy (a := 37) (b := 15) hIσ12_2 (by decide) (fun i => ⟨Int.le_refl _, Int.le_refl _⟩)).mono (fun σ14_2 ho_10 => ?_))
    obtain ⟨hIσ14_2, hcσ14_2, hvσ14_2⟩ := ho_10
    have hfσ14_2 : Fr fr_fX8_takeFrom_2_24 σ σ14_2 := Fr_c hfσ12_2 hcσ14_2 (by decide)
    refine ok_bd.mpr ((o_copy (a := 38) (b := 16) hIσ14_2 (by decide) (fun i => ⟨Int.le_refl _, Int.le_refl _⟩)).mono (fun σ16_2 ho_11 => ?_))
    obtain ⟨hIσ16_2, hcσ16_2, hvσ16_2⟩ := ho_11
    have hfσ16_2 : Fr fr_fX8_takeFrom_2_24 σ σ16_2 := Fr_c hfσ14_2 hcσ16_2 (by decide)
    refine ok_bd.mpr ((o_copy (a := 42) (b := 20) hIσ16_2 (by decide) (fun i => ⟨Int.le_refl _, Int.le_refl _⟩)).mono (fun σ18_2 ho_12 => ?_))
    obtain ⟨hIσ18_2, hcσ18_2, hvσ18_2⟩ := ho_12
    have hfσ18_2 : Fr fr_fX8_takeFrom_2_24 σ σ18_2 := Fr_c hfσ16_2 hcσ18_2 (by decide)
    refine ok_nm2 (fun x19_2 ex19_2 => ?_)
    have qx19_2 : x19_2.toInt = 0 := by rw [ex19_2]; decide
    refine ok_lpc (I := fun n s => n = (3 + 1 - s.1.toInt).toNat ∧ JC s.2 ∧ Fr fr_fX8_takeFrom_2_24 σ s.2 ∧ 0 ≤ s.1.toInt ∧ s.1.toInt ≤ 3) (fun rec118_3r n_3 s_3 hs_3 hrec_3 => ?_) K9 ((3 + 1 - x19_2.toInt).toNat) (x19_2, σ18_2) ⟨rfl, hIσ18_2, hfσ18_2, (show 0 ≤ x19_2.toInt by omega), (show x19_2.toInt ≤ 3 by omega)⟩ (by unfold K9; omega)
    obtain ⟨a2_3, σ1_3⟩ := s_3
    obtain ⟨hn_3, hIσ1_3, hfσ1_3, b0a2_3, b1a2_3⟩ := hs_3
    dsimp only at hn_3 hIσ1_3 hfσ1_3 b0a2_3 b1a2_3
    unfold bX8_takeFrom_2_24_118
    try dsimp only
    refine ok_ite.mpr ⟨fun h_13 => ?_, fun h_13 => ?_⟩
    · have g14 : (2 : Int32).toInt ≤ a2_3.toInt := Int32.le_iff_toInt_le.mp h_13
      refine ok_some.mpr ?_
      exact ⟨hIσ1_3, hfσ1_3⟩
    · have g15 : ¬ (2 : Int32).toInt ≤ a2_3.toInt := fun z => h_13 (Int32.le_iff_toInt_le.mpr z)
      refine ok_gd.mpr ⟨gb_of (by omega) (by omega), ?_⟩
      refine ok_gd.mpr ⟨gb_of (by omega) (by omega), ?_⟩
      have f16 : a2_3.toNatClampNeg = a2_3.toInt.toNat := rfl
      refine ok_bd.mpr ((o_copy (a := (35 + a2_3.toNatClampNeg)) (b := (13 + a2_3.toNatClampNeg)) hIσ1_3 (by (have hj : ((35 + a2_3.toNatClampNeg) = 35 ∧ (13 + a2_3.toNatClampNeg) = 13) ∨ ((35 + a2_3.toNatClampNeg) = 36 ∧ (13 + a2_3.toNatClampNeg) = 14) := by omega); rcases hj with ⟨hj, hk⟩ | ⟨hj, hk⟩ <;> rw [hj, hk] <;> decide) (fun i => by (have hj : ((35 + a2_3.toNatClampNeg) = 35 ∧ (13 + a2_3.toNatClampNeg) = 13) ∨ ((35 + a2_3.toNatClampNeg) = 36 ∧ (13 + a2_3.toNatClampNeg) = 14) := by omega); rcases hj with ⟨hj, hk⟩ | ⟨hj, hk⟩ <;> rw [hj, hk] <;> exact ⟨Int.le_refl _, Int.le_refl _⟩)).mono (fun σ24_4 ho_17 => ?_))
      obtain ⟨hIσ24_4, hcσ24_4, hvσ24_4⟩ := ho_17
      have hfσ24_4 : Fr fr_fX8_takeFrom_2_24 σ σ24_4 := by
        have hj : (13 + a2_3.toNatClampNeg) = 13 ∨ (13 + a2_3.toNatClampNeg) = 14 := by omega
        exact Fr_c hfσ1_3 hcσ24_4 (by rcases hj with hj | hj <;> rw [hj] <;> decide)
      refine ok_gd.mpr ⟨gb_of (by omega) (by omega), ?_⟩
      refine ok_gd.mpr ⟨gb_of (by omega) (by omega), ?_⟩
      refine ok_bd.mpr ((o_copy (a := (40 + a2_3.toNatClampNeg)) (b := (18 + a2_3.toNatClampNeg)) hIσ24_4 (by (have hj : ((40 + a2_3.toNatClampNeg) = 40 ∧ (18 + a2_3.toNatClampNeg) = 18) ∨ ((40 + a2_3.toNatClampNeg) = 41 ∧ (18 + a2_3.toNatClampNeg) = 19) := by omega); rcases hj with ⟨hj, hk⟩ | ⟨hj, hk⟩ <;> rw [hj, hk] <;> decide) (fun i => by (have hj : ((40 + a2_3.toNatClampNeg) = 40 ∧ (18 + a2_3.toNatClampNeg) = 18) ∨ ((40 + a2_3.toNatClampNeg) = 41 ∧ (18 + a2_3.toNatClampNeg) = 19) := by omega); rcases hj with ⟨hj, hk⟩ | ⟨hj, hk⟩ <;> rw [hj, hk] <;> exact ⟨Int.le_refl _, Int.le_refl _⟩)).mono (fun σ28_4 ho_18 => ?_))
      obtain ⟨hIσ28_4, hcσ28_4, hvσ28_4⟩ := ho_18
      have hfσ28_4 : Fr fr_fX8_takeFrom_2_24 σ σ28_4 := by
        have hj : (18 + a2_3.toNatClampNeg) = 18 ∨ (18 + a2_3.toNatClampNeg) = 19 := by omega
        exact Fr_c hfσ24_4 hcσ28_4 (by rcases hj with hj | hj <;> rw [hj] <;> decide)
      refine ok_gd.mpr ⟨gb_of (by omega) (by omega), ?_⟩
      refine ok_gd.mpr ⟨gb_of (by omega) (by omega), ?_⟩
      refine ok_bd.mpr ((o_copy (a := (44 + a2_3.toNatClampNeg)) (b := (22 + a2_3.toNatClampNeg)) hIσ28_4 (by (have hj : ((44 + a2_3.toNatClampNeg) = 44 ∧ (22 + a2_3.toNatClampNeg) = 22) ∨ ((44 + a2_3.toNatClampNeg) = 45 ∧ (22 + a2_3.toNatClampNeg) = 23) := by omega); rcases hj with ⟨hj, hk⟩ | ⟨hj, hk⟩ <;> rw [hj, hk] <;> decide) (fun i => by (have hj : ((44 + a2_3.toNatClampNeg) = 44 ∧ (22 + a2_3.toNatClampNeg) = 22) ∨ ((44 + a2_3.toNatClampNeg) = 45 ∧ (22 + a2_3.toNatClampNeg) = 23) := by omega); rcases hj with ⟨hj, hk⟩ | ⟨hj, hk⟩ <;> rw [hj, hk] <;> exact ⟨Int.le_refl _, Int.le_refl _⟩)).mono (fun σ32_4 ho_19 => ?_))
      obtain ⟨hIσ32_4, hcσ32_4, hvσ32_4⟩ := ho_19
      have hfσ32_4 : Fr fr_fX8_takeFrom_2_24 σ σ32_4 := by
        have hj : (22 + a2_3.toNatClampNeg) = 22 ∨ (22 + a2_3.toNatClampNeg) = 23 := by omega
        exact Fr_c hfσ28_4 hcσ32_4 (by rcases hj with hj | hj <;> rw [hj] <;> decide)
      refine ok_nm2 (fun x33_4 ex33_4 => ?_)
      have f20 : (1 : Int32).toInt = 1 := by decide
      have f21 : (a2_3 + (1 : Int32)).toInt = a2_3.toInt + (1 : Int32).toInt := iadd_toInt (by omega) (by omega)
      have qx33_4 : x33_4.toInt = (a2_3 + 1).toInt := congrArg Int32.toInt ex33_4
      exact hrec_3 _ (x33_4, σ32_4) (show (3 + 1 - x33_4.toInt).toNat < n_3 by omega) ⟨rfl, hIσ32_4, hfσ32_4, (show 0 ≤ x33_4.toInt by omega), (show x33_4.toInt ≤ 3 by omega)⟩
  · have f22 : (2 : Int32).toInt = 2 := by decide
    have g23 : ¬ (2 : Int32).toInt < a2_1.toInt := fun z => h_3 (Int32.lt_iff_toInt_lt.mpr z)
    refine ok_gd.mpr ⟨gb_of (by omega) (by omega), ?_⟩
    refine ok_gd.mpr ⟨gb_of (by omega) (by omega), ?_⟩
    have f24 : a2_1.toNatClampNeg = a2_1.toInt.toNat := rfl
    refine ok_bd.mpr ((o_copy (a := (27 + a2_1.toNatClampNeg)) (b := (5 + a2_1.toNatClampNeg)) hIσ1_1 (by (have hj : ((27 + a2_1.toNatClampNeg) = 27 ∧ (5 + a2_1.toNatClampNeg) = 5) ∨ ((27 + a2_1.toNatClampNeg) = 28 ∧ (5 + a2_1.toNatClampNeg) = 6) ∨ ((27 + a2_1.toNatClampNeg) = 29 ∧ (5 + a2_1.toNatClampNeg) = 7) := by omega); rcases hj with ⟨hj, hk⟩ | ⟨hj, hk⟩ | ⟨hj, hk⟩ <;> rw [hj, hk] <;> decide) (fun i => by (have hj : ((27 + a2_1.toNatClampNeg) = 27 ∧ (5 + a2_1.toNatClampNeg) = 5) ∨ ((27 + a2_1.toNatClampNeg) = 28 ∧ (5 + a2_1.toNatClampNeg) = 6) ∨ ((27 + a2_1.toNatClampNeg) = 29 ∧ (5 + a2_1.toNatClampNeg) = 7) := by omega); rcases hj with ⟨hj, hk⟩ | ⟨hj, hk⟩ | ⟨hj, hk⟩ <;> rw [hj, hk] <;> exact ⟨Int.le_refl _, Int.le_refl _⟩)).mono (fun σ37_2 ho_25 => ?_))
    obtain ⟨hIσ37_2, hcσ37_2, hvσ37_2⟩ := ho_25
    have hfσ37_2 : Fr fr_fX8_takeFrom_2_24 σ σ37_2 := by
      have hj : (5 + a2_1.toNatClampNeg) = 5 ∨ (5 + a2_1.toNatClampNeg) = 6 ∨ (5 + a2_1.toNatClampNeg) = 7 := by omega
      exact Fr_c hfσ1_1 hcσ37_2 (by rcases hj with hj | hj | hj <;> rw [hj] <;> decide)
    refine ok_nm2 (fun x38_2 ex38_2 => ?_)
    have f26 : (1 : Int32).toInt = 1 := by decide
    have f27 : (a2_1 + (1 : Int32)).toInt = a2_1.toInt + (1 : Int32).toInt := iadd_toInt (by omega) (by omega)
    have qx38_2 : x38_2.toInt = (a2_1 + 1).toInt := congrArg Int32.toInt ex38_2
    exact hrec_1 _ (x38_2, σ37_2) (show (3 + 1 - x38_2.toInt).toNat < n_1 by omega) ⟨rfl, hIσ37_2, hfσ37_2, (show 0 ≤ x38_2.toInt by omega), (show x38_2.toInt ≤ 3 by omega)⟩
set_option maxRecDepth 20000 in
set_option maxHeartbeats 2000000 in
theorem o_fX6_reset {σ : gS} (hIσ : JC σ)   : Ok (fX6_reset σ ) (fun out => JC out ∧ Fr fr_fX6_reset σ out) := by
  unfold fX6_reset
  have hfσ : Fr fr_fX6_reset σ σ := Fr_r
  refine ok_bd.mpr ((o_fill (c := 84) (v := (0 : Int32)) hIσ (by decide) (fun i => ⟨show -2147483648 ≤ (0 : Int32).toInt by decide, show (0 : Int32).toInt ≤ 2147483647 by decide⟩)).mono (fun σ2 ho_1 => ?_))
  obtain ⟨hIσ2, hcσ2, hvσ2⟩ := ho_1
  have hfσ2 : Fr fr_fX6_reset σ σ2 := Fr_c hfσ hcσ2 (by decide)
  refine ok_nm2 (fun x3 ex3 => ?_)
  have f2 : (0 : Int32).toInt = 0 := by decide
  have qx3 : x3.toInt = 0 := by rw [ex3]; decide
  refine ok_lpc (I := fun n s => n = (3 + 1 - s.1.toInt).toNat ∧ JC s.2 ∧ Fr fr_fX6_reset σ s.2 ∧ 0 ≤ s.1.toInt ∧ s.1.toInt ≤ 3) (fun rec10_1r n_1 s_1 hs_1 hrec_1 => ?_) K9 ((3 + 1 - x3.toInt).toNat) (x3, σ2) ⟨rfl, hIσ2, hfσ2, (show 0 ≤ x3.toInt by omega), (show x3.toInt ≤ 3 by omega)⟩ (by unfold K9; omega)
  obtain ⟨a1_1, σ1_1⟩ := s_1
  obtain ⟨hn_1, hIσ1_1, hfσ1_1, b0a1_1, b1a1_1⟩ := hs_1
  dsimp only at hn_1 hIσ1_1 hfσ1_1 b0a1_1 b1a1_1
  unfold bX6_reset_10
  try dsimp only
  refine ok_ite.mpr ⟨fun h_3 => ?_, fun h_3 => ?_⟩
  · have f4 : (2 : Int32).toInt = 2 := by decide
    have g5 : (2 : Int32).toInt ≤ a1_1.toInt := Int32.le_iff_toInt_le.mp h_3
    refine ok_nm2 (fun x5_2 ex5_2 => ?_)
    have qx5_2 : x5_2.toInt = 0 := by rw [ex5_2]; decide
    refine ok_lpc (I := fun n s => n = (12 + 1 - s.1.toInt).toNat ∧ JC s.2 ∧ Fr fr_fX6_reset σ s.2 ∧ 0 ≤ s.1.toInt ∧ s.1.toInt ≤ 12) (fun rec62_3r n_3 s_3 hs_3 hrec_3 => ?_) K9 ((12 + 1 - x5_2.toInt).toNat) (x5_2, σ1_1) ⟨rfl, hIσ1_1, hfσ1_1, (show 0 ≤ x5_2.toInt by omega), (show x5_2.toInt ≤ 12 by omega)⟩ (by unfold K9; omega)
    obtain ⟨a1_3, σ1_3⟩ := s_3
    obtain ⟨hn_3, hIσ1_3, hfσ1_3, b0a1_3, b1a1_3⟩ := hs_3
    dsimp only at hn_3 hIσ1_3 hfσ1_3 b0a1_3 b1a1_3
    unfold bX6_reset_62
    try dsimp only
    have f6 : (1 : Int32).toInt = 1 := by decide
    refine ok_gd.mpr ⟨gb_of (by omega) (by omega), ?_⟩
    refine ok_nm2 (fun v6_4 ev6_4 => ?_)
    have f7 : 0 ≤ (σ1_3.1 3 1).toInt ∧ (σ1_3.1 3 1).toInt ≤ 12 := hIσ1_3 3 1
    have qv6_4 : v6_4.toInt = (σ1_3.1 3 1).toInt := congrArg Int32.toInt ev6_4
    refine ok_ite.mpr ⟨fun h_8 => ?_, fun h_8 => ?_⟩
    · have g9 : v6_4.toInt ≤ a1_3.toInt := Int32.le_iff_toInt_le.mp h_8
      refine ok_some.mpr ?_
      exact ⟨hIσ1_3, hfσ1_3⟩
    · have g10 : ¬ v6_4.toInt ≤ a1_3.toInt := fun z => h_8 (Int32.le_iff_toInt_le.mpr z)
      refine ok_gd.mpr ⟨gb_of (by omega) (by omega), ?_⟩
      refine ok_nm2 (fun v8_4 ev8_4 => ?_)
      have qv8_4 : v8_4.toInt = (σ1_3.1 9 a1_3.toNatClampNeg).toInt := congrArg Int32.toInt ev8_4
      refine ok_ite.mpr ⟨fun h_11 => ?_, fun h_11 => ?_⟩
      · have f12 : (4 : Int32).toInt = 4 := by decide
        have g13 : v8_4.toInt = (4 : Int32).toInt := by rw [h_11]
        refine ok_gd.mpr ⟨gb_of (by omega) (by omega), ?_⟩
        refine ok_nm2 (fun σ13_4 eσ13_4 => ?_)
        have hIσ13_4 : JC σ13_4 := by rw [eσ13_4]; exact JC_w hIσ1_3 (Int32.le_toInt _) (Int32.toInt_le _)
        have hfσ13_4 : Fr fr_fX6_reset σ σ13_4 := by rw [eσ13_4]; exact Fr_w0 hfσ1_3 (by decide)
        refine ok_nm2 (fun x14_4 ex14_4 => ?_)
        have f14 : (a1_3 + (1 : Int32)).toInt = a1_3.toInt + (1 : Int32).toInt := iadd_toInt (by omega) (by omega)
        have qx14_4 : x14_4.toInt = (a1_3 + 1).toInt := congrArg Int32.toInt ex14_4
        exact hrec_3 _ (x14_4, σ13_4) (show (12 + 1 - x14_4.toInt).toNat < n_3 by omega) ⟨rfl, hIσ13_4, hfσ13_4, (show 0 ≤ x14_4.toInt by omega), (show x14_4.toInt ≤ 12 by omega)⟩
      · have f15 : (4 : Int32).toInt = 4 := by decide
        have g16 : v8_4.toInt ≠ (4 : Int32).toInt := fun z => h_11 (Int32.toInt_inj.mp z)
        refine ok_gd.mpr ⟨gb_of (by omega) (by omega), ?_⟩
        refine ok_nm2 (fun v10_4 ev10_4 => ?_)
        have qv10_4 : v10_4.toInt = (σ1_3.1 9 a1_3.toNatClampNeg).toInt := congrArg Int32.toInt ev10_4
        refine ok_gd.mpr ⟨gb_of (by omega) (by omega), ?_⟩
        refine ok_nm2 (fun σ11_4 eσ11_4 => ?_)
        have hIσ11_4 : JC σ11_4 := by rw [eσ11_4]; exact JC_w hIσ1_3 (Int32.le_toInt _) (Int32.toInt_le _)
        have hfσ11_4 : Fr fr_fX6_reset σ σ11_4 := by rw [eσ11_4]; exact Fr_w0 hfσ1_3 (by decide)
        refine ok_nm2 (fun x12_4 ex12_4 => ?_)
        have f17 : (a1_3 + (1 : Int32)).toInt = a1_3.toInt + (1 : Int32).toInt := iadd_toInt (by omega) (by omega)
        have qx12_4 : x12_4.toInt = (a1_3 + 1).toInt := congrArg Int32.toInt ex12_4
        exact hrec_3 _ (x12_4, σ11_4) (show (12 + 1 - x12_4.toInt).toNat < n_3 by omega) ⟨rfl, hIσ11_4, hfσ11_4, (show 0 ≤ x12_4.toInt by omega), (show x12_4.toInt ≤ 12 by omega)⟩
  · have f18 : (2 : Int32).toInt = 2 := by decide
    have g19 : ¬ (2 : Int32).toInt ≤ a1_1.toInt := fun z => h_3 (Int32.le_iff_toInt_le.mpr z)
    refine ok_gd.mpr ⟨gb_of (by omega) (by omega), ?_⟩
    have f20 : a1_1.toNatClampNeg = a1_1.toInt.toNat := rfl
    refine ok_bd.mpr ((o_fill (c := (50 + a1_1.toNatClampNeg)) (v := (0 : Int32)) hIσ1_1 (by (have hj : (50 + a1_1.toNatClampNeg) = 50 ∨ (50 + a1_1.toNatClampNeg) = 51 := by omega); rcases hj with hj | hj <;> rw [hj] <;> decide) (fun i => by (have hj : (50 + a1_1.toNatClampNeg) = 50 ∨ (50 + a1_1.toNatClampNeg) = 51 := by omega); rcases hj with hj | hj <;> rw [hj] <;> exact ⟨show -2147483648 ≤ (0 : Int32).toInt by decide, show (0 : Int32).toInt ≤ 2147483647 by decide⟩)).mono (fun σ17_2 ho_21 => ?_))
    obtain ⟨hIσ17_2, hcσ17_2, hvσ17_2⟩ := ho_21
    have hfσ17_2 : Fr fr_fX6_reset σ σ17_2 := by
      have hj : (50 + a1_1.toNatClampNeg) = 50 ∨ (50 + a1_1.toNatClampNeg) = 51 := by omega
      exact Fr_c hfσ1_1 hcσ17_2 (by rcases hj with hj | hj <;> rw [hj] <;> decide)
    refine ok_gd.mpr ⟨gb_of (by omega) (by omega), ?_⟩
    refine ok_bd.mpr ((o_fill (c := (53 + a1_1.toNatClampNeg)) (v := (0 : Int32)) hIσ17_2 (by (have hj : (53 + a1_1.toNatClampNeg) = 53 ∨ (53 + a1_1.toNatClampNeg) = 54 := by omega); rcases hj with hj | hj <;> rw [hj] <;> decide) (fun i => by (have hj : (53 + a1_1.toNatClampNeg) = 53 ∨ (53 + a1_1.toNatClampNeg) = 54 := by omega); rcases hj with hj | hj <;> rw [hj] <;> exact ⟨show -2147483648 ≤ (0 : Int32).toInt by decide, show (0 : Int32).toInt ≤ 2147483647 by decide⟩)).mono (fun σ20_2 ho_22 => ?_))
    obtain ⟨hIσ20_2, hcσ20_2, hvσ20_2⟩ := ho_22
    have hfσ20_2 : Fr fr_fX6_reset σ σ20_2 := by
      have hj : (53 + a1_1.toNatClampNeg) = 53 ∨ (53 + a1_1.toNatClampNeg) = 54 := by omega
      exact Fr_c hfσ17_2 hcσ20_2 (by rcases hj with hj | hj <;> rw [hj] <;> decide)
    refine ok_gd.mpr ⟨gb_of (by omega) (by omega), ?_⟩
    refine ok_bd.mpr ((o_fill (c := (56 + a1_1.toNatClampNeg)) (v := (0 : Int32)) hIσ20_2 (by (have hj : (56 + a1_1.toNatClampNeg) = 56 ∨ (56 + a1_1.toNatClampNeg) = 57 := by omega); rcases hj with hj | hj <;> rw [hj] <;> decide) (fun i => by (have hj : (56 + a1_1.toNatClampNeg) = 56 ∨ (56 + a1_1.toNatClampNeg) = 57 := by omega); rcases hj with hj | hj <;> rw [hj] <;> exact ⟨show -2147483648 ≤ (0 : Int32).toInt by decide, show (0 : Int32).toInt ≤ 2147483647 by decide⟩)).mono (fun σ23_2 ho_23 => ?_))
    obtain ⟨hIσ23_2, hcσ23_2, hvσ23_2⟩ := ho_23
    have hfσ23_2 : Fr fr_fX6_reset σ σ23_2 := by
      have hj : (56 + a1_1.toNatClampNeg) = 56 ∨ (56 + a1_1.toNatClampNeg) = 57 := by omega
      exact Fr_c hfσ20_2 hcσ23_2 (by rcases hj with hj | hj <;> rw [hj] <;> decide)
    refine ok_nm2 (fun x24_2 ex24_2 => ?_)
    have f24 : (1 : Int32).toInt = 1 := by decide
    have f25 : (a1_1 + (1 : Int32)).toInt = a1_1.toInt + (1 : Int32).toInt := iadd_toInt (by omega) (by omega)
    have qx24_2 : x24_2.toInt = (a1_1 + 1).toInt := congrArg Int32.toInt ex24_2
    exact hrec_1 _ (x24_2, σ23_2) (show (3 + 1 - x24_2.toInt).toNat < n_1 by omega) ⟨rfl, hIσ23_2, hfσ23_2, (show 0 ≤ x24_2.toInt by omega), (show x24_2.toInt ≤ 3 by omega)⟩
set_option maxRecDepth 20000 in
set_option maxHeartbeats 2000000 in
theorem o_fX5_isFixed_47 {σ : gS} (hIσ : JC σ) {p1 : Int32} (h0p1 : 0 ≤ p1.toInt) (h1p1 : p1.toInt ≤ 19) : Ok (fX5_isFixed_47 σ p1) (fun out => 0 ≤ out.toInt ∧ out.toInt ≤ 1) := by
  unfold fX5_isFixed_47
  refine ok_gd.mpr ⟨gb_of (by omega) (by omega), ?_⟩
  refine ok_nm2 (fun v1 ev1 => ?_)
  have qv1 : v1.toInt = (σ.1 16 p1.toNatClampNeg).toInt := congrArg Int32.toInt ev1
  refine ok_ite.mpr ⟨fun h_1 => ?_, fun h_1 => ?_⟩
  · have f2 : (0 : Int32).toInt = 0 := by decide
    have g3 : (v1 &&& (σ.1 47 1)).toInt = (0 : Int32).toInt := by rw [h_1]
    refine ok_some.mpr ?_
    exact ⟨(show 0 ≤ (0 : Int32).toInt by omega), (show (0 : Int32).toInt ≤ 1 by omega)⟩
  · have f4 : (0 : Int32).toInt = 0 := by decide
    have g5 : (v1 &&& (σ.1 47 1)).toInt ≠ (0 : Int32).toInt := fun z => h_1 (Int32.toInt_inj.mp z)
    refine ok_some.mpr ?_
    have f6 : (1 : Int32).toInt = 1 := by decide
    exact ⟨(show 0 ≤ (1 : Int32).toInt by omega), (show (1 : Int32).toInt ≤ 1 by omega)⟩
set_option maxRecDepth 20000 in
set_option maxHeartbeats 2000000 in
theorem o_fX5_fixedAt_47 {σ : gS} (hIσ : JC σ) {p1 : Int32} {p2 : Int32} (h0p1 : 0 ≤ p1.toInt) (h1p1 : p1.toInt ≤ 19) (h0p2 : 0 ≤ p2.toInt) (h1p2 : p2.toInt ≤ 1) : Ok (fX5_fixedAt_47 σ p1 p2) (fun _ => True) := by
  unfold fX5_fixedAt_47
  refine ok_gd.mpr ⟨gb_of (by omega) (by omega), ?_⟩
  refine ok_gd.mpr ⟨gb_of (by omega) (by omega), ?_⟩
  refine ok_nm2 (fun v2 ev2 => ?_)
  have qv2 : v2.toInt = (σ.1 (18 + p2.toNatClampNeg) p1.toNatClampNeg).toInt := congrArg Int32.toInt ev2
  refine ok_some.mpr ?_
  have f1 : (100 : Int32).toInt = 100 := by decide
  exact trivial
