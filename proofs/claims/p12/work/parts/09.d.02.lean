/-! comes through, c 2 -/
set_option maxRecDepth 20000 in
set_option maxHeartbeats 2000000 in
theorem o_fJ0_coder_7d493_K9 {σ : gS} (hIσ : JC σ)   : Ok (fJ0_coder_7d493_K9 σ ) (fun out => 0 ≤ out.toInt ∧ out.toInt ≤ 0) := by
  unfold fJ0_coder_7d493_K9
  refine ok_ite.mpr ⟨fun h_1 => ?_, fun h_1 => ?_⟩
  · have f2 : (1 : Int32).toInt = 1 := by decide
    have f3 : (0 : Int32).toInt = 0 := by decide
    have g4 : (1 : Int32).toInt = (0 : Int32).toInt := by rw [h_1]
    exfalso
    omega
  · have f5 : (1 : Int32).toInt = 1 := by decide
    have f6 : (0 : Int32).toInt = 0 := by decide
    have g7 : (1 : Int32).toInt ≠ (0 : Int32).toInt := fun z => h_1 (Int32.toInt_inj.mp z)
    refine ok_some.mpr ?_
    have f8 : (vp_nar .byte 0).toInt = 0 := by decide
    exact ⟨(show 0 ≤ (vp_nar .byte 0).toInt by omega), (show (vp_nar .byte 0).toInt ≤ 0 by omega)⟩
set_option maxRecDepth 20000 in
set_option maxHeartbeats 2000000 in
theorem o_fJ0_length_8abf5_K9 {σ : gS} (hIσ : JC σ)   : Ok (fJ0_length_8abf5_K9 σ ) (fun out => 0 ≤ out.toInt ∧ out.toInt ≤ 2) := by
  unfold fJ0_length_8abf5_K9
  refine ok_bd.mpr ?_
  try unfold fJ0_coder_7d493_K9
  refine ok_ite.mpr ⟨fun h_1 => ?_, fun h_1 => ?_⟩
  · have f2 : (1 : Int32).toInt = 1 := by decide
    have f3 : (0 : Int32).toInt = 0 := by decide
    have g4 : (1 : Int32).toInt = (0 : Int32).toInt := by rw [h_1]
    exfalso
    omega
  · have f5 : (1 : Int32).toInt = 1 := by decide
    have f6 : (0 : Int32).toInt = 0 := by decide
    have g7 : (1 : Int32).toInt ≠ (0 : Int32).toInt := fun z => h_1 (Int32.toInt_inj.mp z)
    refine ok_some.mpr ?_
    refine ok_some.mpr ?_
    have f8 : ((2 : Int32) >>> ((vp_nar .byte 0) &&& 31)).toInt = 2 := by decide
    exact ⟨(show 0 ≤ ((2 : Int32) >>> ((vp_nar .byte 0) &&& 31)).toInt by omega), (show ((2 : Int32) >>> ((vp_nar .byte 0) &&& 31)).toInt ≤ 2 by omega)⟩
set_option maxRecDepth 20000 in
set_option maxHeartbeats 2000000 in
theorem o_fJ0_isLatin1_aae02_K9 {σ : gS} (hIσ : JC σ)   : Ok (fJ0_isLatin1_aae02_K9 σ ) (fun out => 1 ≤ out.toInt ∧ out.toInt ≤ 1) := by
  unfold fJ0_isLatin1_aae02_K9
  refine ok_ite.mpr ⟨fun h_1 => ?_, fun h_1 => ?_⟩
  · have f2 : (1 : Int32).toInt = 1 := by decide
    have f3 : (0 : Int32).toInt = 0 := by decide
    have g4 : (1 : Int32).toInt = (0 : Int32).toInt := by rw [h_1]
    exfalso
    omega
  · have f5 : (1 : Int32).toInt = 1 := by decide
    have f6 : (0 : Int32).toInt = 0 := by decide
    have g7 : (1 : Int32).toInt ≠ (0 : Int32).toInt := fun z => h_1 (Int32.toInt_inj.mp z)
    refine ok_ite.mpr ⟨fun h_8 => ?_, fun h_8 => ?_⟩
    · have g9 : (0 : Int32).toInt = (0 : Int32).toInt := by rw [h_8]
      refine ok_some.mpr ?_
      exact ⟨(show 1 ≤ (1 : Int32).toInt by omega), (show (1 : Int32).toInt ≤ 1 by omega)⟩
    · have g10 : (0 : Int32).toInt ≠ (0 : Int32).toInt := fun z => h_8 (Int32.toInt_inj.mp z)
      exfalso
      omega
set_option maxRecDepth 20000 in
set_option maxHeartbeats 2000000 in
theorem o_fJ1_charAt_3b067_V9 {σ : gS} (hIσ : JC σ) {p1 : Int32} (pre0 : 0 ≤ p1.toInt ∧ p1.toInt < 2) : Ok (fJ1_charAt_3b067_V9 σ p1) (fun _ => True) := by
  unfold fJ1_charAt_3b067_V9
  have f1 : (2 : Int32).toInt = 2 := by decide
  refine ok_bd.mpr ((o_fJ0_checkIndex_df160 hIσ (p0 := p1) (p1 := (2 : Int32)) (by omega)).mono (fun u2 ho_3 => ?_))
  refine ok_gd.mpr ⟨gb_of (by omega) (by omega), ?_⟩
  refine ok_nm2 (fun v3 ev3 => ?_)
  have qv3 : v3.toInt = ((bytC 9) p1.toNatClampNeg).toInt := congrArg Int32.toInt ev3
  refine ok_some.mpr ?_
  exact trivial
set_option maxRecDepth 20000 in
set_option maxHeartbeats 2000000 in
theorem o_fJ0_charAt_5068e_K9 {σ : gS} (hIσ : JC σ) {p1 : Int32} (pre0 : 0 ≤ p1.toInt ∧ p1.toInt < 2) : Ok (fJ0_charAt_5068e_K9 σ p1) (fun _ => True) := by
  unfold fJ0_charAt_5068e_K9
  refine ok_bd.mpr ?_
  try unfold fJ0_isLatin1_aae02_K9
  refine ok_ite.mpr ⟨fun h_1 => ?_, fun h_1 => ?_⟩
  · have f2 : (1 : Int32).toInt = 1 := by decide
    have f3 : (0 : Int32).toInt = 0 := by decide
    have g4 : (1 : Int32).toInt = (0 : Int32).toInt := by rw [h_1]
    exfalso
    omega
  · have f5 : (1 : Int32).toInt = 1 := by decide
    have f6 : (0 : Int32).toInt = 0 := by decide
    have g7 : (1 : Int32).toInt ≠ (0 : Int32).toInt := fun z => h_1 (Int32.toInt_inj.mp z)
    refine ok_ite.mpr ⟨fun h_8 => ?_, fun h_8 => ?_⟩
    · have g9 : (0 : Int32).toInt = (0 : Int32).toInt := by rw [h_8]
      refine ok_some.mpr ?_
      refine ok_ite.mpr ⟨fun h_10 => ?_, fun h_10 => ?_⟩
      · have g11 : (1 : Int32).toInt = (0 : Int32).toInt := by rw [h_10]
        exfalso
        omega
      · have g12 : (1 : Int32).toInt ≠ (0 : Int32).toInt := fun z => h_10 (Int32.toInt_inj.mp z)
        refine ok_bd.mpr ((o_fJ1_charAt_3b067_V9 hIσ (p1 := p1) (by omega)).mono (fun r5_2 ho_14 => ?_))
        refine ok_some.mpr ?_
        exact trivial
    · have g15 : (0 : Int32).toInt ≠ (0 : Int32).toInt := fun z => h_8 (Int32.toInt_inj.mp z)
      exfalso
      omega
set_option maxRecDepth 20000 in
set_option maxHeartbeats 2000000 in
theorem o_fX3_isWord_K9 {σ : gS} (hIσ : JC σ)   : Ok (fX3_isWord_K9 σ ) (fun out => 0 ≤ out.toInt ∧ out.toInt ≤ 1) := by
  unfold fX3_isWord_K9
  have f1 : 0 ≤ (σ.1 46 6).toInt ∧ (σ.1 46 6).toInt ≤ 1600 := hIσ 46 6
  have f2 : 0 ≤ (σ.1 46 7).toInt ∧ (σ.1 46 7).toInt ≤ 1600 := hIσ 46 7
  refine ok_bd.mpr ?_
  try unfold fJ0_length_8abf5_K9
  refine ok_bd.mpr ?_
  try unfold fJ0_coder_7d493_K9
  refine ok_ite.mpr ⟨fun h_3 => ?_, fun h_3 => ?_⟩
  · have f4 : (1 : Int32).toInt = 1 := by decide
    have f5 : (0 : Int32).toInt = 0 := by decide
    have g6 : (1 : Int32).toInt = (0 : Int32).toInt := by rw [h_3]
    exfalso
    omega
  · have f7 : (1 : Int32).toInt = 1 := by decide
    have f8 : (0 : Int32).toInt = 0 := by decide
    have g9 : (1 : Int32).toInt ≠ (0 : Int32).toInt := fun z => h_3 (Int32.toInt_inj.mp z)
    refine ok_some.mpr ?_
    refine ok_some.mpr ?_
    refine ok_ite.mpr ⟨fun h_10 => ?_, fun h_10 => ?_⟩
    · have f11 : ((σ.1 46 7) - (σ.1 46 6)).toInt = (σ.1 46 7).toInt - (σ.1 46 6).toInt := isub_toInt (by omega) (by omega)
      have f12 : ((2 : Int32) >>> ((vp_nar .byte 0) &&& 31)).toInt = 2 := by decide
      have g13 : ((σ.1 46 7) - (σ.1 46 6)).toInt = ((2 : Int32) >>> ((vp_nar .byte 0) &&& 31)).toInt := by rw [h_10]
      refine ok_nm2 (fun x4_3_4 ex4_3_4 => ?_)
      have qx4_3_4 : x4_3_4.toInt = 0 := by rw [ex4_3_4]; decide
      refine ok_lpc (I := fun n s => n = (3 + 1 - s.toInt).toNat ∧ 0 ≤ s.toInt ∧ s.toInt ≤ 3) (fun rec20_5r n_5 s_5 hs_5 hrec_5 => ?_) K9 ((3 + 1 - x4_3_4.toInt).toNat) x4_3_4 ⟨rfl, (show 0 ≤ x4_3_4.toInt by omega), (show x4_3_4.toInt ≤ 3 by omega)⟩ (by unfold K9; omega)
      obtain ⟨a2_5, hq_5⟩ : ∃ y, y = s_5 := ⟨_, rfl⟩
      subst hq_5
      obtain ⟨hn_5, b0a2_5, b1a2_5⟩ := hs_5
      skip
      unfold bX3_isWord_K9_20
      try dsimp only
      refine ok_bd.mpr ?_
      try unfold fJ0_length_8abf5_K9
      refine ok_bd.mpr ?_
      try unfold fJ0_coder_7d493_K9
      refine ok_ite.mpr ⟨fun h_14 => ?_, fun h_14 => ?_⟩
      · have g15 : (1 : Int32).toInt = (0 : Int32).toInt := by rw [h_14]
        exfalso
        omega
      · have g16 : (1 : Int32).toInt ≠ (0 : Int32).toInt := fun z => h_14 (Int32.toInt_inj.mp z)
        refine ok_some.mpr ?_
        refine ok_some.mpr ?_
        refine ok_ite.mpr ⟨fun h_17 => ?_, fun h_17 => ?_⟩
        · have g18 : ((2 : Int32) >>> ((vp_nar .byte 0) &&& 31)).toInt ≤ a2_5.toInt := Int32.le_iff_toInt_le.mp h_17
          refine ok_some.mpr ?_
          exact ⟨(show 0 ≤ (1 : Int32).toInt by omega), (show (1 : Int32).toInt ≤ 1 by omega)⟩
        · have g19 : ¬ ((2 : Int32) >>> ((vp_nar .byte 0) &&& 31)).toInt ≤ a2_5.toInt := fun z => h_17 (Int32.le_iff_toInt_le.mpr z)
          have f20 : ((σ.1 46 6) + a2_5).toInt = (σ.1 46 6).toInt + a2_5.toInt := iadd_toInt (by omega) (by omega)
          refine ok_gd.mpr ⟨gb_of (by omega) (by omega), ?_⟩
          refine ok_nm2 (fun v8_14_17_18 ev8_14_17_18 => ?_)
          have qv8_14_17_18 : v8_14_17_18.toInt = (σ.1 1 ((σ.1 46 6) + a2_5).toNatClampNeg).toInt := congrArg Int32.toInt ev8_14_17_18
          refine ok_bd.mpr ((o_fJ0_charAt_5068e_K9 hIσ (p1 := a2_5) (by omega)).mono (fun r10_14_17_18 ho_22 => ?_))
          refine ok_ite.mpr ⟨fun h_23 => ?_, fun h_23 => ?_⟩
          · have g24 : v8_14_17_18.toInt = r10_14_17_18.toInt := by rw [h_23]
            refine ok_nm2 (fun x12_14_17_18 ex12_14_17_18 => ?_)
            have f25 : (a2_5 + (1 : Int32)).toInt = a2_5.toInt + (1 : Int32).toInt := iadd_toInt (by omega) (by omega)
            have qx12_14_17_18 : x12_14_17_18.toInt = (a2_5 + 1).toInt := congrArg Int32.toInt ex12_14_17_18
            exact hrec_5 _ x12_14_17_18 (show (3 + 1 - x12_14_17_18.toInt).toNat < n_5 by omega) ⟨rfl, (show 0 ≤ x12_14_17_18.toInt by omega), (show x12_14_17_18.toInt ≤ 3 by omega)⟩
          · have g26 : v8_14_17_18.toInt ≠ r10_14_17_18.toInt := fun z => h_23 (Int32.toInt_inj.mp z)
            refine ok_some.mpr ?_
            exact ⟨(show 0 ≤ (0 : Int32).toInt by omega), (show (0 : Int32).toInt ≤ 1 by omega)⟩
    · have f27 : ((σ.1 46 7) - (σ.1 46 6)).toInt = (σ.1 46 7).toInt - (σ.1 46 6).toInt := isub_toInt (by omega) (by omega)
      have f28 : ((2 : Int32) >>> ((vp_nar .byte 0) &&& 31)).toInt = 2 := by decide
      have g29 : ((σ.1 46 7) - (σ.1 46 6)).toInt ≠ ((2 : Int32) >>> ((vp_nar .byte 0) &&& 31)).toInt := fun z => h_10 (Int32.toInt_inj.mp z)
      refine ok_some.mpr ?_
      exact ⟨(show 0 ≤ (0 : Int32).toInt by omega), (show (0 : Int32).toInt ≤ 1 by omega)⟩
set_option maxRecDepth 20000 in
set_option maxHeartbeats 2000000 in
theorem o_fJ0_coder_7d493_K10 {σ : gS} (hIσ : JC σ)   : Ok (fJ0_coder_7d493_K10 σ ) (fun out => 0 ≤ out.toInt ∧ out.toInt ≤ 0) := by
  unfold fJ0_coder_7d493_K10
  refine ok_ite.mpr ⟨fun h_1 => ?_, fun h_1 => ?_⟩
  · have f2 : (1 : Int32).toInt = 1 := by decide
    have f3 : (0 : Int32).toInt = 0 := by decide
    have g4 : (1 : Int32).toInt = (0 : Int32).toInt := by rw [h_1]
    exfalso
    omega
  · have f5 : (1 : Int32).toInt = 1 := by decide
    have f6 : (0 : Int32).toInt = 0 := by decide
    have g7 : (1 : Int32).toInt ≠ (0 : Int32).toInt := fun z => h_1 (Int32.toInt_inj.mp z)
    refine ok_some.mpr ?_
    have f8 : (vp_nar .byte 0).toInt = 0 := by decide
    exact ⟨(show 0 ≤ (vp_nar .byte 0).toInt by omega), (show (vp_nar .byte 0).toInt ≤ 0 by omega)⟩
set_option maxRecDepth 20000 in
set_option maxHeartbeats 2000000 in
theorem o_fJ0_length_8abf5_K10 {σ : gS} (hIσ : JC σ)   : Ok (fJ0_length_8abf5_K10 σ ) (fun out => 0 ≤ out.toInt ∧ out.toInt ≤ 6) := by
  unfold fJ0_length_8abf5_K10
  refine ok_bd.mpr ?_
  try unfold fJ0_coder_7d493_K10
  refine ok_ite.mpr ⟨fun h_1 => ?_, fun h_1 => ?_⟩
  · have f2 : (1 : Int32).toInt = 1 := by decide
    have f3 : (0 : Int32).toInt = 0 := by decide
    have g4 : (1 : Int32).toInt = (0 : Int32).toInt := by rw [h_1]
    exfalso
    omega
  · have f5 : (1 : Int32).toInt = 1 := by decide
    have f6 : (0 : Int32).toInt = 0 := by decide
    have g7 : (1 : Int32).toInt ≠ (0 : Int32).toInt := fun z => h_1 (Int32.toInt_inj.mp z)
    refine ok_some.mpr ?_
    refine ok_some.mpr ?_
    have f8 : ((6 : Int32) >>> ((vp_nar .byte 0) &&& 31)).toInt = 6 := by decide
    exact ⟨(show 0 ≤ ((6 : Int32) >>> ((vp_nar .byte 0) &&& 31)).toInt by omega), (show ((6 : Int32) >>> ((vp_nar .byte 0) &&& 31)).toInt ≤ 6 by omega)⟩
set_option maxRecDepth 20000 in
set_option maxHeartbeats 2000000 in
theorem o_fJ0_isLatin1_aae02_K10 {σ : gS} (hIσ : JC σ)   : Ok (fJ0_isLatin1_aae02_K10 σ ) (fun out => 1 ≤ out.toInt ∧ out.toInt ≤ 1) := by
  unfold fJ0_isLatin1_aae02_K10
  refine ok_ite.mpr ⟨fun h_1 => ?_, fun h_1 => ?_⟩
  · have f2 : (1 : Int32).toInt = 1 := by decide
    have f3 : (0 : Int32).toInt = 0 := by decide
    have g4 : (1 : Int32).toInt = (0 : Int32).toInt := by rw [h_1]
    exfalso
    omega
  · have f5 : (1 : Int32).toInt = 1 := by decide
    have f6 : (0 : Int32).toInt = 0 := by decide
    have g7 : (1 : Int32).toInt ≠ (0 : Int32).toInt := fun z => h_1 (Int32.toInt_inj.mp z)
    refine ok_ite.mpr ⟨fun h_8 => ?_, fun h_8 => ?_⟩
    · have g9 : (0 : Int32).toInt = (0 : Int32).toInt := by rw [h_8]
      refine ok_some.mpr ?_
      exact ⟨(show 1 ≤ (1 : Int32).toInt by omega), (show (1 : Int32).toInt ≤ 1 by omega)⟩
    · have g10 : (0 : Int32).toInt ≠ (0 : Int32).toInt := fun z => h_8 (Int32.toInt_inj.mp z)
      exfalso
      omega
set_option maxRecDepth 20000 in
set_option maxHeartbeats 2000000 in
theorem o_fJ1_charAt_3b067_V10 {σ : gS} (hIσ : JC σ) {p1 : Int32} (pre0 : 0 ≤ p1.toInt ∧ p1.toInt < 6) : Ok (fJ1_charAt_3b067_V10 σ p1) (fun _ => True) := by
  unfold fJ1_charAt_3b067_V10
  have f1 : (6 : Int32).toInt = 6 := by decide
  refine ok_bd.mpr ((o_fJ0_checkIndex_df160 hIσ (p0 := p1) (p1 := (6 : Int32)) (by omega)).mono (fun u2 ho_3 => ?_))
  refine ok_gd.mpr ⟨gb_of (by omega) (by omega), ?_⟩
  refine ok_nm2 (fun v3 ev3 => ?_)
  have qv3 : v3.toInt = ((bytC 10) p1.toNatClampNeg).toInt := congrArg Int32.toInt ev3
  refine ok_some.mpr ?_
  exact trivial
set_option maxRecDepth 20000 in
set_option maxHeartbeats 2000000 in
theorem o_fJ0_charAt_5068e_K10 {σ : gS} (hIσ : JC σ) {p1 : Int32} (pre0 : 0 ≤ p1.toInt ∧ p1.toInt < 6) : Ok (fJ0_charAt_5068e_K10 σ p1) (fun _ => True) := by
  unfold fJ0_charAt_5068e_K10
  refine ok_bd.mpr ?_
  try unfold fJ0_isLatin1_aae02_K10
  refine ok_ite.mpr ⟨fun h_1 => ?_, fun h_1 => ?_⟩
  · have f2 : (1 : Int32).toInt = 1 := by decide
    have f3 : (0 : Int32).toInt = 0 := by decide
    have g4 : (1 : Int32).toInt = (0 : Int32).toInt := by rw [h_1]
    exfalso
    omega
  · have f5 : (1 : Int32).toInt = 1 := by decide
    have f6 : (0 : Int32).toInt = 0 := by decide
    have g7 : (1 : Int32).toInt ≠ (0 : Int32).toInt := fun z => h_1 (Int32.toInt_inj.mp z)
    refine ok_ite.mpr ⟨fun h_8 => ?_, fun h_8 => ?_⟩
    · have g9 : (0 : Int32).toInt = (0 : Int32).toInt := by rw [h_8]
      refine ok_some.mpr ?_
      refine ok_ite.mpr ⟨fun h_10 => ?_, fun h_10 => ?_⟩
      · have g11 : (1 : Int32).toInt = (0 : Int32).toInt := by rw [h_10]
        exfalso
        omega
      · have g12 : (1 : Int32).toInt ≠ (0 : Int32).toInt := fun z => h_10 (Int32.toInt_inj.mp z)
        refine ok_bd.mpr ((o_fJ1_charAt_3b067_V10 hIσ (p1 := p1) (by omega)).mono (fun r5_2 ho_14 => ?_))
        refine ok_some.mpr ?_
        exact trivial
    · have g15 : (0 : Int32).toInt ≠ (0 : Int32).toInt := fun z => h_8 (Int32.toInt_inj.mp z)
      exfalso
      omega
set_option maxRecDepth 20000 in
set_option maxHeartbeats 2000000 in
theorem o_fX3_isWord_K10 {σ : gS} (hIσ : JC σ)   : Ok (fX3_isWord_K10 σ ) (fun out => 0 ≤ out.toInt ∧ out.toInt ≤ 1) := by
  unfold fX3_isWord_K10
  have f1 : 0 ≤ (σ.1 46 6).toInt ∧ (σ.1 46 6).toInt ≤ 1600 := hIσ 46 6
  have f2 : 0 ≤ (σ.1 46 7).toInt ∧ (σ.1 46 7).toInt ≤ 1600 := hIσ 46 7
  refine ok_bd.mpr ?_
  try unfold fJ0_length_8abf5_K10
  refine ok_bd.mpr ?_
  try unfold fJ0_coder_7d493_K10
  refine ok_ite.mpr ⟨fun h_3 => ?_, fun h_3 => ?_⟩
  · have f4 : (1 : Int32).toInt = 1 := by decide
    have f5 : (0 : Int32).toInt = 0 := by decide
    have g6 : (1 : Int32).toInt = (0 : Int32).toInt := by rw [h_3]
    exfalso
    omega
  · have f7 : (1 : Int32).toInt = 1 := by decide
    have f8 : (0 : Int32).toInt = 0 := by decide
    have g9 : (1 : Int32).toInt ≠ (0 : Int32).toInt := fun z => h_3 (Int32.toInt_inj.mp z)
    refine ok_some.mpr ?_
    refine ok_some.mpr ?_
    refine ok_ite.mpr ⟨fun h_10 => ?_, fun h_10 => ?_⟩
    · have f11 : ((σ.1 46 7) - (σ.1 46 6)).toInt = (σ.1 46 7).toInt - (σ.1 46 6).toInt := isub_toInt (by omega) (by omega)
      have f12 : ((6 : Int32) >>> ((vp_nar .byte 0) &&& 31)).toInt = 6 := by decide
      have g13 : ((σ.1 46 7) - (σ.1 46 6)).toInt = ((6 : Int32) >>> ((vp_nar .byte 0) &&& 31)).toInt := by rw [h_10]
      refine ok_nm2 (fun x4_3_4 ex4_3_4 => ?_)
      have qx4_3_4 : x4_3_4.toInt = 0 := by rw [ex4_3_4]; decide
      refine ok_lpc (I := fun n s => n = (6 + 1 - s.toInt).toNat ∧ 0 ≤ s.toInt ∧ s.toInt ≤ 6) (fun rec20_5r n_5 s_5 hs_5 hrec_5 => ?_) K9 ((6 + 1 - x4_3_4.toInt).toNat) x4_3_4 ⟨rfl, (show 0 ≤ x4_3_4.toInt by omega), (show x4_3_4.toInt ≤ 6 by omega)⟩ (by unfold K9; omega)
      obtain ⟨a2_5, hq_5⟩ : ∃ y, y = s_5 := ⟨_, rfl⟩
      subst hq_5
      obtain ⟨hn_5, b0a2_5, b1a2_5⟩ := hs_5
      skip
      unfold bX3_isWord_K10_20
      try dsimp only
      refine ok_bd.mpr ?_
      try unfold fJ0_length_8abf5_K10
      refine ok_bd.mpr ?_
      try unfold fJ0_coder_7d493_K10
      refine ok_ite.mpr ⟨fun h_14 => ?_, fun h_14 => ?_⟩
      · have g15 : (1 : Int32).toInt = (0 : Int32).toInt := by rw [h_14]
        exfalso
        omega
      · have g16 : (1 : Int32).toInt ≠ (0 : Int32).toInt := fun z => h_14 (Int32.toInt_inj.mp z)
        refine ok_some.mpr ?_
        refine ok_some.mpr ?_
        refine ok_ite.mpr ⟨fun h_17 => ?_, fun h_17 => ?_⟩
        · have g18 : ((6 : Int32) >>> ((vp_nar .byte 0) &&& 31)).toInt ≤ a2_5.toInt := Int32.le_iff_toInt_le.mp h_17
          refine ok_some.mpr ?_
          exact ⟨(show 0 ≤ (1 : Int32).toInt by omega), (show (1 : Int32).toInt ≤ 1 by omega)⟩
        · have g19 : ¬ ((6 : Int32) >>> ((vp_nar .byte 0) &&& 31)).toInt ≤ a2_5.toInt := fun z => h_17 (Int32.le_iff_toInt_le.mpr z)
          have f20 : ((σ.1 46 6) + a2_5).toInt = (σ.1 46 6).toInt + a2_5.toInt := iadd_toInt (by omega) (by omega)
          refine ok_gd.mpr ⟨gb_of (by omega) (by omega), ?_⟩
          refine ok_nm2 (fun v8_20_23_24 ev8_20_23_24 => ?_)
          have qv8_20_23_24 : v8_20_23_24.toInt = (σ.1 1 ((σ.1 46 6) + a2_5).toNatClampNeg).toInt := congrArg Int32.toInt ev8_20_23_24
          refine ok_bd.mpr ((o_fJ0_charAt_5068e_K10 hIσ (p1 := a2_5) (by omega)).mono (fun r10_20_23_24 ho_22 => ?_))
          refine ok_ite.mpr ⟨fun h_23 => ?_, fun h_23 => ?_⟩
          · have g24 : v8_20_23_24.toInt = r10_20_23_24.toInt := by rw [h_23]
            refine ok_nm2 (fun x12_20_23_24 ex12_20_23_24 => ?_)
            have f25 : (a2_5 + (1 : Int32)).toInt = a2_5.toInt + (1 : Int32).toInt := iadd_toInt (by omega) (by omega)
            have qx12_20_23_24 : x12_20_23_24.toInt = (a2_5 + 1).toInt := congrArg Int32.toInt ex12_20_23_24
            exact hrec_5 _ x12_20_23_24 (show (6 + 1 - x12_20_23_24.toInt).toNat < n_5 by omega) ⟨rfl, (show 0 ≤ x12_20_23_24.toInt by omega), (show x12_20_23_24.toInt ≤ 6 by omega)⟩
          · have g26 : v8_20_23_24.toInt ≠ r10_20_23_24.toInt := fun z => h_23 (Int32.toInt_inj.mp z)
            refine ok_some.mpr ?_
            exact ⟨(show 0 ≤ (0 : Int32).toInt by omega), (show (0 : Int32).toInt ≤ 1 by omega)⟩
    · have f27 : ((σ.1 46 7) - (σ.1 46 6)).toInt = (σ.1 46 7).toInt - (σ.1 46 6).toInt := isub_toInt (by omega) (by omega)
      have f28 : ((6 : Int32) >>> ((vp_nar .byte 0) &&& 31)).toInt = 6 := by decide
      have g29 : ((σ.1 46 7) - (σ.1 46 6)).toInt ≠ ((6 : Int32) >>> ((vp_nar .byte 0) &&& 31)).toInt := fun z => h_10 (Int32.toInt_inj.mp z)
      refine ok_some.mpr ?_
      exact ⟨(show 0 ≤ (0 : Int32).toInt by omega), (show (0 : Int32).toInt ≤ 1 by omega)⟩
set_option maxRecDepth 20000 in
set_option maxHeartbeats 2000000 in
theorem o_fJ0_coder_7d493_K11 {σ : gS} (hIσ : JC σ)   : Ok (fJ0_coder_7d493_K11 σ ) (fun out => 0 ≤ out.toInt ∧ out.toInt ≤ 0) := by
  unfold fJ0_coder_7d493_K11
  refine ok_ite.mpr ⟨fun h_1 => ?_, fun h_1 => ?_⟩
  · have f2 : (1 : Int32).toInt = 1 := by decide
    have f3 : (0 : Int32).toInt = 0 := by decide
    have g4 : (1 : Int32).toInt = (0 : Int32).toInt := by rw [h_1]
    exfalso
    omega
  · have f5 : (1 : Int32).toInt = 1 := by decide
    have f6 : (0 : Int32).toInt = 0 := by decide
    have g7 : (1 : Int32).toInt ≠ (0 : Int32).toInt := fun z => h_1 (Int32.toInt_inj.mp z)
    refine ok_some.mpr ?_
    have f8 : (vp_nar .byte 0).toInt = 0 := by decide
    exact ⟨(show 0 ≤ (vp_nar .byte 0).toInt by omega), (show (vp_nar .byte 0).toInt ≤ 0 by omega)⟩
set_option maxRecDepth 20000 in
set_option maxHeartbeats 2000000 in
theorem o_fJ0_length_8abf5_K11 {σ : gS} (hIσ : JC σ)   : Ok (fJ0_length_8abf5_K11 σ ) (fun out => 0 ≤ out.toInt ∧ out.toInt ≤ 3) := by
  unfold fJ0_length_8abf5_K11
  refine ok_bd.mpr ?_
  try unfold fJ0_coder_7d493_K11
  refine ok_ite.mpr ⟨fun h_1 => ?_, fun h_1 => ?_⟩
  · have f2 : (1 : Int32).toInt = 1 := by decide
    have f3 : (0 : Int32).toInt = 0 := by decide
    have g4 : (1 : Int32).toInt = (0 : Int32).toInt := by rw [h_1]
    exfalso
    omega
  · have f5 : (1 : Int32).toInt = 1 := by decide
    have f6 : (0 : Int32).toInt = 0 := by decide
    have g7 : (1 : Int32).toInt ≠ (0 : Int32).toInt := fun z => h_1 (Int32.toInt_inj.mp z)
    refine ok_some.mpr ?_
    refine ok_some.mpr ?_
    have f8 : ((3 : Int32) >>> ((vp_nar .byte 0) &&& 31)).toInt = 3 := by decide
    exact ⟨(show 0 ≤ ((3 : Int32) >>> ((vp_nar .byte 0) &&& 31)).toInt by omega), (show ((3 : Int32) >>> ((vp_nar .byte 0) &&& 31)).toInt ≤ 3 by omega)⟩
set_option maxRecDepth 20000 in
set_option maxHeartbeats 2000000 in
theorem o_fJ0_isLatin1_aae02_K11 {σ : gS} (hIσ : JC σ)   : Ok (fJ0_isLatin1_aae02_K11 σ ) (fun out => 1 ≤ out.toInt ∧ out.toInt ≤ 1) := by
  unfold fJ0_isLatin1_aae02_K11
  refine ok_ite.mpr ⟨fun h_1 => ?_, fun h_1 => ?_⟩
  · have f2 : (1 : Int32).toInt = 1 := by decide
    have f3 : (0 : Int32).toInt = 0 := by decide
    have g4 : (1 : Int32).toInt = (0 : Int32).toInt := by rw [h_1]
    exfalso
    omega
  · have f5 : (1 : Int32).toInt = 1 := by decide
    have f6 : (0 : Int32).toInt = 0 := by decide
    have g7 : (1 : Int32).toInt ≠ (0 : Int32).toInt := fun z => h_1 (Int32.toInt_inj.mp z)
    refine ok_ite.mpr ⟨fun h_8 => ?_, fun h_8 => ?_⟩
    · have g9 : (0 : Int32).toInt = (0 : Int32).toInt := by rw [h_8]
      refine ok_some.mpr ?_
      exact ⟨(show 1 ≤ (1 : Int32).toInt by omega), (show (1 : Int32).toInt ≤ 1 by omega)⟩
    · have g10 : (0 : Int32).toInt ≠ (0 : Int32).toInt := fun z => h_8 (Int32.toInt_inj.mp z)
      exfalso
      omega
set_option maxRecDepth 20000 in
set_option maxHeartbeats 2000000 in
theorem o_fJ1_charAt_3b067_V11 {σ : gS} (hIσ : JC σ) {p1 : Int32} (pre0 : 0 ≤ p1.toInt ∧ p1.toInt < 3) : Ok (fJ1_charAt_3b067_V11 σ p1) (fun _ => True) := by
  unfold fJ1_charAt_3b067_V11
  have f1 : (3 : Int32).toInt = 3 := by decide
  refine ok_bd.mpr ((o_fJ0_checkIndex_df160 hIσ (p0 := p1) (p1 := (3 : Int32)) (by omega)).mono (fun u2 ho_3 => ?_))
  refine ok_gd.mpr ⟨gb_of (by omega) (by omega), ?_⟩
  refine ok_nm2 (fun v3 ev3 => ?_)
  have qv3 : v3.toInt = ((bytC 11) p1.toNatClampNeg).toInt := congrArg Int32.toInt ev3
  refine ok_some.mpr ?_
  exact trivial
set_option maxRecDepth 20000 in
set_option maxHeartbeats 2000000 in
theorem o_fJ0_charAt_5068e_K11 {σ : gS} (hIσ : JC σ) {p1 : Int32} (pre0 : 0 ≤ p1.toInt ∧ p1.toInt < 3) : Ok (fJ0_charAt_5068e_K11 σ p1) (fun _ => True) := by
  unfold fJ0_charAt_5068e_K11
  refine ok_bd.mpr ?_
  try unfold fJ0_isLatin1_aae02_K11
  refine ok_ite.mpr ⟨fun h_1 => ?_, fun h_1 => ?_⟩
  · have f2 : (1 : Int32).toInt = 1 := by decide
    have f3 : (0 : Int32).toInt = 0 := by decide
    have g4 : (1 : Int32).toInt = (0 : Int32).toInt := by rw [h_1]
    exfalso
    omega
  · have f5 : (1 : Int32).toInt = 1 := by decide
    have f6 : (0 : Int32).toInt = 0 := by decide
    have g7 : (1 : Int32).toInt ≠ (0 : Int32).toInt := fun z => h_1 (Int32.toInt_inj.mp z)
    refine ok_ite.mpr ⟨fun h_8 => ?_, fun h_8 => ?_⟩
    · have g9 : (0 : Int32).toInt = (0 : Int32).toInt := by rw [h_8]
      refine ok_some.mpr ?_
      refine ok_ite.mpr ⟨fun h_10 => ?_, fun h_10 => ?_⟩
      · have g11 : (1 : Int32).toInt = (0 : Int32).toInt := by rw [h_10]
        exfalso
        omega
      · have g12 : (1 : Int32).toInt ≠ (0 : Int32).toInt := fun z => h_10 (Int32.toInt_inj.mp z)
        refine ok_bd.mpr ((o_fJ1_charAt_3b067_V11 hIσ (p1 := p1) (by omega)).mono (fun r5_2 ho_14 => ?_))
        refine ok_some.mpr ?_
        exact trivial
    · have g15 : (0 : Int32).toInt ≠ (0 : Int32).toInt := fun z => h_8 (Int32.toInt_inj.mp z)
      exfalso
      omega
set_option maxRecDepth 20000 in
set_option maxHeartbeats 2000000 in
theorem o_fX3_isWord_K11 {σ : gS} (hIσ : JC σ)   : Ok (fX3_isWord_K11 σ ) (fun out => 0 ≤ out.toInt ∧ out.toInt ≤ 1) := by
  unfold fX3_isWord_K11
  have f1 : 0 ≤ (σ.1 46 6).toInt ∧ (σ.1 46 6).toInt ≤ 1600 := hIσ 46 6
  have f2 : 0 ≤ (σ.1 46 7).toInt ∧ (σ.1 46 7).toInt ≤ 1600 := hIσ 46 7
  refine ok_bd.mpr ?_
  try unfold fJ0_length_8abf5_K11
  refine ok_bd.mpr ?_
  try unfold fJ0_coder_7d493_K11
  refine ok_ite.mpr ⟨fun h_3 => ?_, fun h_3 => ?_⟩
  · have f4 : (1 : Int32).toInt = 1 := by decide
    have f5 : (0 : Int32).toInt = 0 := by decide
    have g6 : (1 : Int32).toInt = (0 : Int32).toInt := by rw [h_3]
    exfalso
    omega
  · have f7 : (1 : Int32).toInt = 1 := by decide
    have f8 : (0 : Int32).toInt = 0 := by decide
    have g9 : (1 : Int32).toInt ≠ (0 : Int32).toInt := fun z => h_3 (Int32.toInt_inj.mp z)
    refine ok_some.mpr ?_
    refine ok_some.mpr ?_
    refine ok_ite.mpr ⟨fun h_10 => ?_, fun h_10 => ?_⟩
    · have f11 : ((σ.1 46 7) - (σ.1 46 6)).toInt = (σ.1 46 7).toInt - (σ.1 46 6).toInt := isub_toInt (by omega) (by omega)
      have f12 : ((3 : Int32) >>> ((vp_nar .byte 0) &&& 31)).toInt = 3 := by decide
      have g13 : ((σ.1 46 7) - (σ.1 46 6)).toInt = ((3 : Int32) >>> ((vp_nar .byte 0) &&& 31)).toInt := by rw [h_10]
      refine ok_nm2 (fun x4_3_4 ex4_3_4 => ?_)
      have qx4_3_4 : x4_3_4.toInt = 0 := by rw [ex4_3_4]; decide
      refine ok_lpc (I := fun n s => n = (3 + 1 - s.toInt).toNat ∧ 0 ≤ s.toInt ∧ s.toInt ≤ 3) (fun rec20_5r n_5 s_5 hs_5 hrec_5 => ?_) K9 ((3 + 1 - x4_3_4.toInt).toNat) x4_3_4 ⟨rfl, (show 0 ≤ x4_3_4.toInt by omega), (show x4_3_4.toInt ≤ 3 by omega)⟩ (by unfold K9; omega)
      obtain ⟨a2_5, hq_5⟩ : ∃ y, y = s_5 := ⟨_, rfl⟩
      subst hq_5
      obtain ⟨hn_5, b0a2_5, b1a2_5⟩ := hs_5
      skip
      unfold bX3_isWord_K11_20
      try dsimp only
      refine ok_bd.mpr ?_
      try unfold fJ0_length_8abf5_K11
      refine ok_bd.mpr ?_
      try unfold fJ0_coder_7d493_K11
      refine ok_ite.mpr ⟨fun h_14 => ?_, fun h_14 => ?_⟩
      · have g15 : (1 : Int32).toInt = (0 : Int32).toInt := by rw [h_14]
        exfalso
        omega
      · have g16 : (1 : Int32).toInt ≠ (0 : Int32).toInt := fun z => h_14 (Int32.toInt_inj.mp z)
        refine ok_some.mpr ?_
        refine ok_some.mpr ?_
        refine ok_ite.mpr ⟨fun h_17 => ?_, fun h_17 => ?_⟩
        · have g18 : ((3 : Int32) >>> ((vp_nar .byte 0) &&& 31)).toInt ≤ a2_5.toInt := Int32.le_iff_toInt_le.mp h_17
          refine ok_some.mpr ?_
          exact ⟨(show 0 ≤ (1 : Int32).toInt by omega), (show (1 : Int32).toInt ≤ 1 by omega)⟩
        · have g19 : ¬ ((3 : Int32) >>> ((vp_nar .byte 0) &&& 31)).toInt ≤ a2_5.toInt := fun z => h_17 (Int32.le_iff_toInt_le.mpr z)
          have f20 : ((σ.1 46 6) + a2_5).toInt = (σ.1 46 6).toInt + a2_5.toInt := iadd_toInt (by omega) (by omega)
          refine ok_gd.mpr ⟨gb_of (by omega) (by omega), ?_⟩
          refine ok_nm2 (fun v8_14_17_18 ev8_14_17_18 => ?_)
          have qv8_14_17_18 : v8_14_17_18.toInt = (σ.1 1 ((σ.1 46 6) + a2_5).toNatClampNeg).toInt := congrArg Int32.toInt ev8_14_17_18
          refine ok_bd.mpr ((o_fJ0_charAt_5068e_K11 hIσ (p1 := a2_5) (by omega)).mono (fun r10_14_17_18 ho_22 => ?_))
          refine ok_ite.mpr ⟨fun h_23 => ?_, fun h_23 => ?_⟩
          · have g24 : v8_14_17_18.toInt = r10_14_17_18.toInt := by rw [h_23]
            refine ok_nm2 (fun x12_14_17_18 ex12_14_17_18 => ?_)
            have f25 : (a2_5 + (1 : Int32)).toInt = a2_5.toInt + (1 : Int32).toInt := iadd_toInt (by omega) (by omega)
            have qx12_14_17_18 : x12_14_17_18.toInt = (a2_5 + 1).toInt := congrArg Int32.toInt ex12_14_17_18
            exact hrec_5 _ x12_14_17_18 (show (3 + 1 - x12_14_17_18.toInt).toNat < n_5 by omega) ⟨rfl, (show 0 ≤ x12_14_17_18.toInt by omega), (show x12_14_17_18.toInt ≤ 3 by omega)⟩
          · have g26 : v8_14_17_18.toInt ≠ r10_14_17_18.toInt := fun z => h_23 (Int32.toInt_inj.mp z)
            refine ok_some.mpr ?_
            exact ⟨(show 0 ≤ (0 : Int32).toInt by omega), (show (0 : Int32).toInt ≤ 1 by omega)⟩
    · have f27 : ((σ.1 46 7) - (σ.1 46 6)).toInt = (σ.1 46 7).toInt - (σ.1 46 6).toInt := isub_toInt (by omega) (by omega)
      have f28 : ((3 : Int32) >>> ((vp_nar .byte 0) &&& 31)).toInt = 3 := by decide
      have g29 : ((σ.1 46 7) - (σ.1 46 6)).toInt ≠ ((3 : Int32) >>> ((vp_nar .byte 0) &&& 31)).toInt := fun z => h_10 (Int32.toInt_inj.mp z)
      refine ok_some.mpr ?_
      exact ⟨(show 0 ≤ (0 : Int32).toInt by omega), (show (0 : Int32).toInt ≤ 1 by omega)⟩
set_option maxRecDepth 20000 in
set_option maxHeartbeats 2000000 in
theorem o_fX3_isOwnWord {σ : gS} (hIσ : JC σ)   : Ok (fX3_isOwnWord σ ) (fun out => 0 ≤ out.toInt ∧ out.toInt ≤ 1) := by
  unfold fX3_isOwnWord
  refine ok_bd.mpr ((o_fX3_isWord_K0 hIσ  ).mono (fun r2 ho_2 => ?_))
  obtain ⟨r0r2, r1r2⟩ := ho_2
  refine ok_ite.mpr ⟨fun h_3 => ?_, fun h_3 => ?_⟩
  · have f4 : (0 : Int32).toInt = 0 := by decide
    have g5 : r2.toInt = (0 : Int32).toInt := by rw [h_3]
    refine ok_bd.mpr ((o_fX3_isWord_K1 hIσ  ).mono (fun r5 ho_7 => ?_))
    obtain ⟨r0r5, r1r5⟩ := ho_7
    refine ok_ite.mpr ⟨fun h_8 => ?_, fun h_8 => ?_⟩
    · have g9 : r5.toInt = (0 : Int32).toInt := by rw [h_8]
      refine ok_bd.mpr ((o_fX3_isWord_K6 hIσ  ).mono (fun r8 ho_11 => ?_))
      obtain ⟨r0r8, r1r8⟩ := ho_11
      refine ok_ite.mpr ⟨fun h_12 => ?_, fun h_12 => ?_⟩
      · have g13 : r8.toInt = (0 : Int32).toInt := by rw [h_12]
        refine ok_bd.mpr ((o_fX3_isWord_K7 hIσ  ).mono (fun r11 ho_15 => ?_))
        obtain ⟨r0r11, r1r11⟩ := ho_15
        refine ok_ite.mpr ⟨fun h_16 => ?_, fun h_16 => ?_⟩
        · have g17 : r11.toInt = (0 : Int32).toInt := by rw [h_16]
          refine ok_bd.mpr ((o_fX3_isWord_K8 hIσ  ).mono (fun r14 ho_19 => ?_))
          obtain ⟨r0r14, r1r14⟩ := ho_19
          refine ok_ite.mpr ⟨fun h_20 => ?_, fun h_20 => ?_⟩
          · have g21 : r14.toInt = (0 : Int32).toInt := by rw [h_20]
            refine ok_bd.mpr ((o_fX3_isWord_K2 hIσ  ).mono (fun r17 ho_23 => ?_))
            obtain ⟨r0r17, r1r17⟩ := ho_23
            refine ok_ite.mpr ⟨fun h_24 => ?_, fun h_24 => ?_⟩
            · have g25 : r17.toInt = (0 : Int32).toInt := by rw [h_24]
              refine ok_bd.mpr ((o_fX3_isWord_K3 hIσ  ).mono (fun r20 ho_27 => ?_))
              obtain ⟨r0r20, r1r20⟩ := ho_27
              refine ok_ite.mpr ⟨fun h_28 => ?_, fun h_28 => ?_⟩
              · have g29 : r20.toInt = (0 : Int32).toInt := by rw [h_28]
                refine ok_bd.mpr ((o_fX3_isWord_K9 hIσ  ).mono (fun r23 ho_31 => ?_))
                obtain ⟨r0r23, r1r23⟩ := ho_31
                refine ok_ite.mpr ⟨fun h_32 => ?_, fun h_32 => ?_⟩
                · have g33 : r23.toInt = (0 : Int32).toInt := by rw [h_32]
                  refine ok_bd.mpr ((o_fX3_isWord_K10 hIσ  ).mono (fun r26 ho_35 => ?_))
                  obtain ⟨r0r26, r1r26⟩ := ho_35
                  refine ok_ite.mpr ⟨fun h_36 => ?_, fun h_36 => ?_⟩
                  · have g37 : r26.toInt = (0 : Int32).toInt := by rw [h_36]
                    refine ok_bd.mpr ((o_fX3_isWord_K4 hIσ  ).mono (fun r29 ho_39 => ?_))
                    obtain ⟨r0r29, r1r29⟩ := ho_39
                    refine ok_ite.mpr ⟨fun h_40 => ?_, fun h_40 => ?_⟩
                    · have g41 : r29.toInt = (0 : Int32).toInt := by rw [h_40]
                      refine ok_bd.mpr ((o_fX3_isWord_K11 hIσ  ).mono (fun r32 ho_43 => ?_))
                      obtain ⟨r0r32, r1r32⟩ := ho_43
                      refine ok_ite.mpr ⟨fun h_44 => ?_, fun h_44 => ?_⟩
                      · have g45 : r32.toInt = (0 : Int32).toInt := by rw [h_44]
                        refine ok_bd.mpr ((o_fX3_isWord_K5 hIσ  ).mono (fun r35 ho_47 => ?_))
                        obtain ⟨r0r35, r1r35⟩ := ho_47
                        refine ok_ite.mpr ⟨fun h_48 => ?_, fun h_48 => ?_⟩
                        · have g49 : r35.toInt = (0 : Int32).toInt := by rw [h_48]
                          refine ok_some.mpr ?_
                          exact ⟨(show 0 ≤ (0 : Int32).toInt by omega), (show (0 : Int32).toInt ≤ 1 by omega)⟩
                        · have g50 : r35.toInt ≠ (0 : Int32).toInt := fun z => h_48 (Int32.toInt_inj.mp z)
                          refine ok_some.mpr ?_
                          have f51 : (1 : Int32).toInt = 1 := by decide
                          exact ⟨(show 0 ≤ (1 : Int32).toInt by omega), (show (1 : Int32).toInt ≤ 1 by omega)⟩
                      · have g52 : r32.toInt ≠ (0 : Int32).toInt := fun z => h_44 (Int32.toInt_inj.mp z)
                        refine ok_some.mpr ?_
                        have f53 : (1 : Int32).toInt = 1 := by decide
                        exact ⟨(show 0 ≤ (1 : Int32).toInt by omega), (show (1 : Int32).toInt ≤ 1 by omega)⟩
                    · have g54 : r29.toInt ≠ (0 : Int32).toInt := fun z => h_40 (Int32.toInt_inj.mp z)
                      refine ok_some.mpr ?_
                      have f55 : (1 : Int32).toInt = 1 := by decide
                      exact ⟨(show 0 ≤ (1 : Int32).toInt by omega), (show (1 : Int32).toInt ≤ 1 by omega)⟩
                  · have g56 : r26.toInt ≠ (0 : Int32).toInt := fun z => h_36 (Int32.toInt_inj.mp z)
                    refine ok_some.mpr ?_
                    have f57 : (1 : Int32).toInt = 1 := by decide
                    exact ⟨(show 0 ≤ (1 : Int32).toInt by omega), (show (1 : Int32).toInt ≤ 1 by omega)⟩
                · have g58 : r23.toInt ≠ (0 : Int32).toInt := fun z => h_32 (Int32.toInt_inj.mp z)
                  refine ok_some.mpr ?_
                  have f59 : (1 : Int32).toInt = 1 := by decide
                  exact ⟨(show 0 ≤ (1 : Int32).toInt by omega), (show (1 : Int32).toInt ≤ 1 by omega)⟩
              · have g60 : r20.toInt ≠ (0 : Int32).toInt := fun z => h_28 (Int32.toInt_inj.mp z)
                refine ok_some.mpr ?_
                have f61 : (1 : Int32).toInt = 1 := by decide
                exact ⟨(show 0 ≤ (1 : Int32).toInt by omega), (show (1 : Int32).toInt ≤ 1 by omega)⟩
            · have g62 : r17.toInt ≠ (0 : Int32).toInt := fun z => h_24 (Int32.toInt_inj.mp z)
              refine ok_some.mpr ?_
              have f63 : (1 : Int32).toInt = 1 := by decide
              exact ⟨(show 0 ≤ (1 : Int32).toInt by omega), (show (1 : Int32).toInt ≤ 1 by omega)⟩
          · have g64 : r14.toInt ≠ (0 : Int32).toInt := fun z => h_20 (Int32.toInt_inj.mp z)
            refine ok_some.mpr ?_
            have f65 : (1 : Int32).toInt = 1 := by decide
            exact ⟨(show 0 ≤ (1 : Int32).toInt by omega), (show (1 : Int32).toInt ≤ 1 by omega)⟩
        · have g66 : r11.toInt ≠ (0 : Int32).toInt := fun z => h_16 (Int32.toInt_inj.mp z)
          refine ok_some.mpr ?_
          have f67 : (1 : Int32).toInt = 1 := by decide
          exact ⟨(show 0 ≤ (1 : Int32).toInt by omega), (show (1 : Int32).toInt ≤ 1 by omega)⟩
      · have g68 : r8.toInt ≠ (0 : Int32).toInt := fun z => h_12 (Int32.toInt_inj.mp z)
        refine ok_some.mpr ?_
        have f69 : (1 : Int32).toInt = 1 := by decide
        exact ⟨(show 0 ≤ (1 : Int32).toInt by omega), (show (1 : Int32).toInt ≤ 1 by omega)⟩
    · have g70 : r5.toInt ≠ (0 : Int32).toInt := fun z => h_8 (Int32.toInt_inj.mp z)
      refine ok_some.mpr ?_
      have f71 : (1 : Int32).toInt = 1 := by decide
      exact ⟨(show 0 ≤ (1 : Int32).toInt by omega), (show (1 : Int32).toInt ≤ 1 by omega)⟩
  · have f72 : (0 : Int32).toInt = 0 := by decide
    have g73 : r2.toInt ≠ (0 : Int32).toInt := fun z => h_3 (Int32.toInt_inj.mp z)
    refine ok_some.mpr ?_
    have f74 : (1 : Int32).toInt = 1 := by decide
    exact ⟨(show 0 ≤ (1 : Int32).toInt by omega), (show (1 : Int32).toInt ≤ 1 by omega)⟩
set_option maxRecDepth 20000 in
set_option maxHeartbeats 2000000 in
theorem o_fX8_find_24 {σ : gS} (hIσ : JC σ) {p1 : Int32} {p2 : Int32} (h0p1 : 0 ≤ p1.toInt) (h1p1 : p1.toInt ≤ 2) : Ok (fX8_find_24 σ p1 p2) (fun out => -1 ≤ out.toInt ∧ out.toInt ≤ 19 ∧ ((p1.toInt = 0 → out.toInt ≤ 5) ∧ (p1.toInt = 1 → out.toInt ≤ 11) ∧ (p1.toInt = 2 → out.toInt ≤ 19))) := by
  unfold fX8_find_24
  refine ok_nm2 (fun x1 ex1 => ?_)
  have f1 : (0 : Int32).toInt = 0 := by decide
  have qx1 : x1.toInt = 0 := by rw [ex1]; decide
  refine ok_lpc (I := fun n s => n = (20 + 1 - s.toInt).toNat ∧ 0 ≤ s.toInt ∧ s.toInt ≤ 20) (fun rec2_1r n_1 s_1 hs_1 hrec_1 => ?_) K9 ((20 + 1 - x1.toInt).toNat) x1 ⟨rfl, (show 0 ≤ x1.toInt by omega), (show x1.toInt ≤ 20 by omega)⟩ (by unfold K9; omega)
  obtain ⟨a3_1, hq_1⟩ : ∃ y, y = s_1 := ⟨_, rfl⟩
  subst hq_1
  obtain ⟨hn_1, b0a3_1, b1a3_1⟩ := hs_1
  skip
  unfold bX8_find_24_2
  try dsimp only
  refine ok_gd.mpr ⟨gb_of (by omega) (by omega), ?_⟩
  refine ok_nm2 (fun v2_2 ev2_2 => ?_)
  have f3 : p1.toNatClampNeg = p1.toInt.toNat := rfl
  have f3_ : (p1.toNatClampNeg = 0 ∧ 0 ≤ (σ.1 25 p1.toNatClampNeg).toInt ∧ (σ.1 25 p1.toNatClampNeg).toInt ≤ 6) ∨ (p1.toNatClampNeg = 1 ∧ 0 ≤ (σ.1 25 p1.toNatClampNeg).toInt ∧ (σ.1 25 p1.toNatClampNeg).toInt ≤ 12) ∨ (p1.toNatClampNeg = 2 ∧ 0 ≤ (σ.1 25 p1.toNatClampNeg).toInt ∧ (σ.1 25 p1.toNatClampNeg).toInt ≤ 20) := by
    have hb := hIσ 25 p1.toNatClampNeg
    have hj : p1.toNatClampNeg = 0 ∨ p1.toNatClampNeg = 1 ∨ p1.toNatClampNeg = 2 := by omega
    generalize p1.toNatClampNeg = j at hb hj ⊢
    rcases hj with rfl | rfl | rfl
    · exact .inl ⟨rfl, hb.1, hb.2⟩
    · exact .inr (.inl ⟨rfl, hb.1, hb.2⟩)
    · exact .inr (.inr (⟨rfl, hb.1, hb.2⟩))
  have qv2_2 : v2_2.toInt = (σ.1 25 p1.toNatClampNeg).toInt := congrArg Int32.toInt ev2_2
  refine ok_ite.mpr ⟨fun h_4 => ?_, fun h_4 => ?_⟩
  · have g5 : v2_2.toInt ≤ a3_1.toInt := Int32.le_iff_toInt_le.mp h_4
    refine ok_some.mpr ?_
    have f6 : (-1 : Int32).toInt = -1 := by decide
    exact ⟨(show -1 ≤ (-1 : Int32).toInt by omega), (show (-1 : Int32).toInt ≤ 19 by omega), (show (p1.toInt = 0 → (-1 : Int32).toInt ≤ 5) ∧ (p1.toInt = 1 → (-1 : Int32).toInt ≤ 11) ∧ (p1.toInt = 2 → (-1 : Int32).toInt ≤ 19) by omega)⟩
  · have g7 : ¬ v2_2.toInt ≤ a3_1.toInt := fun z => h_4 (Int32.le_iff_toInt_le.mpr z)
    refine ok_gd.mpr ⟨gb_of (by omega) (by omega), ?_⟩
    refine ok_gd.mpr ⟨gb_of (by omega) (by omega), ?_⟩
    refine ok_nm2 (fun v5_2 ev5_2 => ?_)
    have qv5_2 : v5_2.toInt = (σ.1 (27 + p1.toNatClampNeg) a3_1.toNatClampNeg).toInt := congrArg Int32.toInt ev5_2
    refine ok_ite.mpr ⟨fun h_8 => ?_, fun h_8 => ?_⟩
    · have g9 : v5_2.toInt = p2.toInt := by rw [h_8]
      refine ok_some.mpr ?_
      exact ⟨(show -1 ≤ a3_1.toInt by omega), (show a3_1.toInt ≤ 19 by omega), (show (p1.toInt = 0 → a3_1.toInt ≤ 5) ∧ (p1.toInt = 1 → a3_1.toInt ≤ 11) ∧ (p1.toInt = 2 → a3_1.toInt ≤ 19) by omega)⟩
    · have g10 : v5_2.toInt ≠ p2.toInt := fun z => h_8 (Int32.toInt_inj.mp z)
      refine ok_nm2 (fun x7_2 ex7_2 => ?_)
      have f11 : (1 : Int32).toInt = 1 := by decide
      have f12 : (a3_1 + (1 : Int32)).toInt = a3_1.toInt + (1 : Int32).toInt := iadd_toInt (by omega) (by omega)
      have qx7_2 : x7_2.toInt = (a3_1 + 1).toInt := congrArg Int32.toInt ex7_2
      exact hrec_1 _ x7_2 (show (20 + 1 - x7_2.toInt).toNat < n_1 by omega) ⟨rfl, (show 0 ≤ x7_2.toInt by omega), (show x7_2.toInt ≤ 20 by omega)⟩
set_option maxRecDepth 20000 in
set_option maxHeartbeats 2000000 in
theorem o_fX8_isNamed_24 {σ : gS} (hIσ : JC σ) {p1 : Int32}  : Ok (fX8_isNamed_24 σ p1) (fun out => 0 ≤ out.toInt ∧ out.toInt ≤ 1) := by
  unfold fX8_isNamed_24
  have f1 : (0 : Int32).toInt = 0 := by decide
  refine ok_bd.mpr ((o_fX8_find_24 hIσ (p1 := (0 : Int32)) (p2 := p1) (by omega) (by omega)).mono (fun r2 ho_3 => ?_))
  obtain ⟨r0r2, r1r2, hp_4⟩ := ho_3
  refine ok_ite.mpr ⟨fun h_5 => ?_, fun h_5 => ?_⟩
  · have f6 : (-1 : Int32).toInt = -1 := by decide
    have g7 : r2.toInt = (-1 : Int32).toInt := by rw [h_5]
    have f8 : (1 : Int32).toInt = 1 := by decide
    refine ok_bd.mpr ((o_fX8_find_24 hIσ (p1 := (1 : Int32)) (p2 := p1) (by omega) (by omega)).mono (fun r5 ho_10 => ?_))
    obtain ⟨r0r5, r1r5, hp_11⟩ := ho_10
    refine ok_ite.mpr ⟨fun h_12 => ?_, fun h_12 => ?_⟩
    · have g13 : r5.toInt = (-1 : Int32).toInt := by rw [h_12]
      have f14 : (2 : Int32).toInt = 2 := by decide
      refine ok_bd.mpr ((o_fX8_find_24 hIσ (p1 := (2 : Int32)) (p2 := p1) (by omega) (by omega)).mono (fun r8 ho_16 => ?_))
      obtain ⟨r0r8, r1r8, hp_17⟩ := ho_16
      refine ok_ite.mpr ⟨fun h_18 => ?_, fun h_18 => ?_⟩
      · have g19 : r8.toInt = (-1 : Int32).toInt := by rw [h_18]
        refine ok_some.mpr ?_
        exact ⟨(show 0 ≤ (0 : Int32).toInt by omega), (show (0 : Int32).toInt ≤ 1 by omega)⟩
      · have g20 : r8.toInt ≠ (-1 : Int32).toInt := fun z => h_18 (Int32.toInt_inj.mp z)
        refine ok_some.mpr ?_
        exact ⟨(show 0 ≤ (1 : Int32).toInt by omega), (show (1 : Int32).toInt ≤ 1 by omega)⟩
    · have g21 : r5.toInt ≠ (-1 : Int32).toInt := fun z => h_12 (Int32.toInt_inj.mp z)
      refine ok_some.mpr ?_
      exact ⟨(show 0 ≤ (1 : Int32).toInt by omega), (show (1 : Int32).toInt ≤ 1 by omega)⟩
  · have f22 : (-1 : Int32).toInt = -1 := by decide
    have g23 : r2.toInt ≠ (-1 : Int32).toInt := fun z => h_5 (Int32.toInt_inj.mp z)
    refine ok_some.mpr ?_
    have f24 : (1 : Int32).toInt = 1 := by decide
    exact ⟨(show 0 ≤ (1 : Int32).toInt by omega), (show (1 : Int32).toInt ≤ 1 by omega)⟩
set_option maxRecDepth 20000 in
set_option maxHeartbeats 2000000 in
theorem o_fX3_readName {σ : gS} (hIσ : JC σ) {p1 : Int32} (h0p1 : -1 ≤ p1.toInt) (h1p1 : p1.toInt ≤ 2) : Ok (fX3_readName σ p1) (fun out => JC out.2 ∧ Fr fr_fX3_readName σ out.2 ∧ 0 ≤ out.1.toInt ∧ out.1.toInt ≤ 1 ∧ (out.1.toInt ≠ 0 → p1.toInt ≠ -1 → 0 ≤ (out.2.1 46 10).toInt ∧ (p1.toInt = 0 → (out.2.1 46 10).toInt ≤ 5) ∧ (p1.toInt = 1 → (out.2.1 46 10).toInt ≤ 11) ∧ (p1.toInt = 2 → (out.2.1 46 10).toInt ≤ 19))) := by
  unfold fX3_readName
  have hfσ : Fr fr_fX3_readName σ σ := Fr_r
  have f1 : 0 ≤ (σ.1 46 6).toInt ∧ (σ.1 46 6).toInt ≤ 1600 := hIσ 46 6
  have f2 : 0 ≤ (σ.1 46 7).toInt ∧ (σ.1 46 7).toInt ≤ 1600 := hIσ 46 7
  have f3 : -1 ≤ (σ.1 46 10).toInt ∧ (σ.1 46 10).toInt ≤ 19 := hIσ 46 10
  have f4 : (97 : Int32).toInt = 97 := by decide
  have f5 : (122 : Int32).toInt = 122 := by decide
  refine ok_bd.mpr ((o_fX3_markRun hIσ (p1 := (97 : Int32)) (p2 := (122 : Int32)) ).mono (fun σ2 ho_7 => ?_))
  obtain ⟨hIσ2, hcσ2⟩ := ho_7
  have hfσ2 : Fr fr_fX3_readName σ σ2 := Fr_c hfσ hcσ2 (by decide)
  have sσ2_46_9 : (σ2.1 46 9).toInt = (σ.1 46 9).toInt := by rw [(hcσ2 46 9 (by decide) (by decide)).1]
  have sσ2_46_10 : (σ2.1 46 10).toInt = (σ.1 46 10).toInt := by rw [(hcσ2 46 10 (by decide) (by decide)).1]
  refine ok_bd.mpr ?_
  try unfold fX3_isNoRun
  refine ok_ite.mpr ⟨fun h_8 => ?_, fun h_8 => ?_⟩
  · have f9 : 0 ≤ (σ2.1 46 6).toInt ∧ (σ2.1 46 6).toInt ≤ 1600 := hIσ2 46 6
    have f10 : 0 ≤ (σ2.1 46 7).toInt ∧ (σ2.1 46 7).toInt ≤ 1600 := hIσ2 46 7
    have g11 : (σ2.1 46 6).toInt = (σ2.1 46 7).toInt := by rw [h_8]
    refine ok_some.mpr ?_
    refine ok_ite.mpr ⟨fun h_12 => ?_, fun h_12 => ?_⟩
    · have f13 : (1 : Int32).toInt = 1 := by decide
      have f14 : (0 : Int32).toInt = 0 := by decide
      have g15 : (1 : Int32).toInt = (0 : Int32).toInt := by rw [h_12]
      exfalso
      omega
    · have f16 : (1 : Int32).toInt = 1 := by decide
      have f17 : (0 : Int32).toInt = 0 := by decide
      have g18 : (1 : Int32).toInt ≠ (0 : Int32).toInt := fun z => h_12 (Int32.toInt_inj.mp z)
      refine ok_bd2.mpr ((o_fX3_fail hIσ2 (p1 := (1 : Int32)) (p2 := (σ2.1 46 6)) ).mono (fun o_19 ho_20 => ?_))
      obtain ⟨r7_2, σ8_2⟩ := o_19
      obtain ⟨hIσ8_2, hcσ8_2, r0r7_2, r1r7_2⟩ := ho_20
      dsimp only at hIσ8_2 hcσ8_2 r0r7_2 r1r7_2 ⊢
      have hfσ8_2 : Fr fr_fX3_readName σ σ8_2 := Fr_c hfσ2 hcσ8_2 (by decide)
      have sσ8_2_46_6 : (σ8_2.1 46 6).toInt = (σ2.1 46 6).toInt := by rw [(hcσ8_2 46 6 (by decide) (by decide)).1]
      have sσ8_2_46_7 : (σ8_2.1 46 7).toInt = (σ2.1 46 7).toInt := by rw [(hcσ8_2 46 7 (by decide) (by decide)).1]
      have sσ8_2_46_9 : (σ8_2.1 46 9).toInt = (σ2.1 46 9).toInt := by rw [(hcσ8_2 46 9 (by decide) (by decide)).1]
      have sσ8_2_46_10 : (σ8_2.1 46 10).toInt = (σ2.1 46 10).toInt := by rw [(hcσ8_2 46 10 (by decide) (by decide)).1]
      refine ok_some.mpr ?_
      have f21 : (vp_nar .boolean r7_2).toInt = r7_2.toInt := nar_bool2 (by omega) (by omega)
      exact ⟨hIσ8_2, hfσ8_2, (show 0 ≤ (vp_nar .boolean r7_2).toInt by omega), (show (vp_nar .boolean r7_2).toInt ≤ 1 by omega), (show (vp_nar .boolean r7_2).toInt ≠ 0 → p1.toInt ≠ -1 → 0 ≤ (σ8_2.1 46 10).toInt ∧ (p1.toInt = 0 → (σ8_2.1 46 10).toInt ≤ 5) ∧ (p1.toInt = 1 → (σ8_2.1 46 10).toInt ≤ 11) ∧ (p1.toInt = 2 → (σ8_2.1 46 10).toInt ≤ 19) by omega)⟩
  · have f22 : 0 ≤ (σ2.1 46 6).toInt ∧ (σ2.1 46 6).toInt ≤ 1600 := hIσ2 46 6
    have f23 : 0 ≤ (σ2.1 46 7).toInt ∧ (σ2.1 46 7).toInt ≤ 1600 := hIσ2 46 7
    have g24 : (σ2.1 46 6).toInt ≠ (σ2.1 46 7).toInt := fun z => h_8 (Int32.toInt_inj.mp z)
    refine ok_ite.mpr ⟨fun h_25 => ?_, fun h_25 => ?_⟩
    · have g26 : (σ2.1 46 6).toInt = (σ2.1 46 8).toInt := by rw [h_25]
      refine ok_some.mpr ?_
      refine ok_ite.mpr ⟨fun h_27 => ?_, fun h_27 => ?_⟩
      · have f28 : (1 : Int32).toInt = 1 := by decide
        have f29 : (0 : Int32).toInt = 0 := by decide
        have g30 : (1 : Int32).toInt = (0 : Int32).toInt := by rw [h_27]
        exfalso
        omega
      · have f31 : (1 : Int32).toInt = 1 := by decide
        have f32 : (0 : Int32).toInt = 0 := by decide
        have g33 : (1 : Int32).toInt ≠ (0 : Int32).toInt := fun z => h_27 (Int32.toInt_inj.mp z)
        refine ok_bd2.mpr ((o_fX3_fail hIσ2 (p1 := (1 : Int32)) (p2 := (σ2.1 46 6)) ).mono (fun o_34 ho_35 => ?_))
        obtain ⟨r7_3, σ8_3⟩ := o_34
        obtain ⟨hIσ8_3, hcσ8_3, r0r7_3, r1r7_3⟩ := ho_35
        dsimp only at hIσ8_3 hcσ8_3 r0r7_3 r1r7_3 ⊢
        have hfσ8_3 : Fr fr_fX3_readName σ σ8_3 := Fr_c hfσ2 hcσ8_3 (by decide)
        have sσ8_3_46_6 : (σ8_3.1 46 6).toInt = (σ2.1 46 6).toInt := by rw [(hcσ8_3 46 6 (by decide) (by decide)).1]
        have sσ8_3_46_7 : (σ8_3.1 46 7).toInt = (σ2.1 46 7).toInt := by rw [(hcσ8_3 46 7 (by decide) (by decide)).1]
        have sσ8_3_46_9 : (σ8_3.1 46 9).toInt = (σ2.1 46 9).toInt := by rw [(hcσ8_3 46 9 (by decide) (by decide)).1]
        have sσ8_3_46_10 : (σ8_3.1 46 10).toInt = (σ2.1 46 10).toInt := by rw [(hcσ8_3 46 10 (by decide) (by decide)).1]
        refine ok_some.mpr ?_
        have f36 : (vp_nar .boolean r7_3).toInt = r7_3.toInt := nar_bool2 (by omega) (by omega)
        exact ⟨hIσ8_3, hfσ8_3, (show 0 ≤ (vp_nar .boolean r7_3).toInt by omega), (show (vp_nar .boolean r7_3).toInt ≤ 1 by omega), (show (vp_nar .boolean r7_3).toInt ≠ 0 → p1.toInt ≠ -1 → 0 ≤ (σ8_3.1 46 10).toInt ∧ (p1.toInt = 0 → (σ8_3.1 46 10).toInt ≤ 5) ∧ (p1.toInt = 1 → (σ8_3.1 46 10).toInt ≤ 11) ∧ (p1.toInt = 2 → (σ8_3.1 46 10).toInt ≤ 19) by omega)⟩
    · have g37 : (σ2.1 46 6).toInt ≠ (σ2.1 46 8).toInt := fun z => h_25 (Int32.toInt_inj.mp z)
      refine ok_some.mpr ?_
      refine ok_ite.mpr ⟨fun h_38 => ?_, fun h_38 => ?_⟩
      · have f39 : (0 : Int32).toInt = 0 := by decide
        have g40 : (0 : Int32).toInt = (0 : Int32).toInt := by rw [h_38]
        refine ok_bd.mpr ((o_fX3_isOwnWord hIσ2  ).mono (fun r10_4 ho_42 => ?_))
        obtain ⟨r0r10_4, r1r10_4⟩ := ho_42
        refine ok_ite.mpr ⟨fun h_43 => ?_, fun h_43 => ?_⟩
        · have g44 : r10_4.toInt = (0 : Int32).toInt := by rw [h_43]
          refine ok_ite.mpr ⟨fun h_45 => ?_, fun h_45 => ?_⟩
          · have f46 : ((σ2.1 46 7) - (σ2.1 46 6)).toInt = (σ2.1 46 7).toInt - (σ2.1 46 6).toInt := isub_toInt (by omega) (by omega)
            have f47 : (6 : Int32).toInt = 6 := by decide
            have g48 : ((σ2.1 46 7) - (σ2.1 46 6)).toInt ≤ (6 : Int32).toInt := Int32.le_iff_toInt_le.mp h_45
            refine ok_nm2 (fun σ13_4 eσ13_4 => ?_)
            have hIσ13_4 : JC σ13_4 := by rw [eσ13_4]; exact JC_w hIσ2 (Int32.le_toInt _) (Int32.toInt_le _)
            have hfσ13_4 : Fr fr_fX3_readName σ σ13_4 := by rw [eσ13_4]; exact Fr_w hfσ2 (by decide)
            have sσ13_4_46_6 : (σ13_4.1 46 6).toInt = (σ2.1 46 6).toInt := by rw [eσ13_4]; rfl
            have sσ13_4_46_7 : (σ13_4.1 46 7).toInt = (σ2.1 46 7).toInt := by rw [eσ13_4]; rfl
            have sσ13_4_46_9 : (σ13_4.1 46 9).toInt = (0 : Int32).toInt := by rw [eσ13_4]; rfl
            have sσ13_4_46_10 : (σ13_4.1 46 10).toInt = (σ2.1 46 10).toInt := by rw [eσ13_4]; rfl
            refine ok_nm2 (fun x14_4 ex14_4 => ?_)
            have qx14_4 : x14_4.toInt = 0 := by rw [ex14_4]; decide
            refine ok_lpc (I := fun n s => n = (6 + 1 - s.1.toInt).toNat ∧ JC s.2 ∧ Fr fr_fX3_readName σ s.2 ∧ 0 ≤ s.1.toInt ∧ s.1.toInt ≤ 6) (fun rec66_5r n_5 s_5 hs_5 hrec_5 => ?_) K9 ((6 + 1 - x14_4.toInt).toNat) (x14_4, σ13_4) ⟨rfl, hIσ13_4, hfσ13_4, (show 0 ≤ x14_4.toInt by omega), (show x14_4.toInt ≤ 6 by omega)⟩ (by unfold K9; omega)
            obtain ⟨a2_5, σ1_5⟩ := s_5
            obtain ⟨hn_5, hIσ1_5, hfσ1_5, b0a2_5, b1a2_5⟩ := hs_5
            dsimp only at hn_5 hIσ1_5 hfσ1_5 b0a2_5 b1a2_5
            unfold bX3_readName_66
            try dsimp only
            refine ok_ite.mpr ⟨fun h_49 => ?_, fun h_49 => ?_⟩
            · have g50 : (6 : Int32).toInt ≤ a2_5.toInt := Int32.le_iff_toInt_le.mp h_49
              refine ok_bd.mpr ((o_fX3_passRun hIσ1_5  ).mono (fun σ17_6 ho_52 => ?_))
              obtain ⟨hIσ17_6, hcσ17_6⟩ := ho_52
              have hfσ17_6 : Fr fr_fX3_readName σ σ17_6 := Fr_c hfσ1_5 hcσ17_6 (by decide)
              have sσ17_6_46_6 : (σ17_6.1 46 6).toInt = (σ1_5.1 46 6).toInt := by rw [(hcσ17_6 46 6 (by decide) (by decide)).1]
              have sσ17_6_46_7 : (σ17_6.1 46 7).toInt = (σ1_5.1 46 7).toInt := by rw [(hcσ17_6 46 7 (by decide) (by decide)).1]
              have sσ17_6_46_9 : (σ17_6.1 46 9).toInt = (σ1_5.1 46 9).toInt := by rw [(hcσ17_6 46 9 (by decide) (by decide)).1]
              have sσ17_6_46_10 : (σ17_6.1 46 10).toInt = (σ1_5.1 46 10).toInt := by rw [(hcσ17_6 46 10 (by decide) (by decide)).1]
              refine ok_ite.mpr ⟨fun h_53 => ?_, fun h_53 => ?_⟩
              · have f54 : (-1 : Int32).toInt = -1 := by decide
                have g55 : p1.toInt = (-1 : Int32).toInt := by rw [h_53]
                try unfold jX3_readName_149
                refine ok_nm2 (fun σ21_7 eσ21_7 => ?_)
                have hIσ21_7 : JC σ21_7 := by rw [eσ21_7]; exact JC_w hIσ17_6 (show -1 ≤ _ by omega) (show _ ≤ 19 by omega)
                have hfσ21_7 : Fr fr_fX3_readName σ σ21_7 := by rw [eσ21_7]; exact Fr_w hfσ17_6 (by decide)
                have sσ21_7_46_6 : (σ21_7.1 46 6).toInt = (σ17_6.1 46 6).toInt := by rw [eσ21_7]; rfl
                have sσ21_7_46_7 : (σ21_7.1 46 7).toInt = (σ17_6.1 46 7).toInt := by rw [eσ21_7]; rfl
                have sσ21_7_46_9 : (σ21_7.1 46 9).toInt = (σ17_6.1 46 9).toInt := by rw [eσ21_7]; rfl
                have sσ21_7_46_10 : (σ21_7.1 46 10).toInt = (-1 : Int32).toInt := by rw [eσ21_7]; rfl
                refine ok_ite.mpr ⟨fun h_56 => ?_, fun h_56 => ?_⟩
                · have g57 : p1.toInt = (-1 : Int32).toInt := by rw [h_56]
                  refine ok_bd.mpr ((o_fX8_isNamed_24 hIσ21_7 (p1 := (σ21_7.1 46 9)) ).mono (fun r30_7 ho_59 => ?_))
                  obtain ⟨r0r30_7, r1r30_7⟩ := ho_59
                  refine ok_ite.mpr ⟨fun h_60 => ?_, fun h_60 => ?_⟩
                  · have g61 : r30_7.toInt = (0 : Int32).toInt := by rw [h_60]
                    try unfold jX3_readName_192
                    refine ok_nm2 (fun x24_8 ex24_8 => ?_)
                    have f62 : (1 : Int32).toInt = 1 := by decide
                    have qx24_8 : x24_8.toInt = 1 := by rw [ex24_8]; decide
                    refine ok_ite.mpr ⟨fun h_63 => ?_, fun h_63 => ?_⟩
                    · have g64 : x24_8.toInt = (0 : Int32).toInt := by rw [h_63]
                      exfalso
                      omega
                    · have g65 : x24_8.toInt ≠ (0 : Int32).toInt := fun z => h_63 (Int32.toInt_inj.mp z)
                      refine ok_some.mpr ?_
                      exact ⟨hIσ21_7, hfσ21_7, (show 0 ≤ (1 : Int32).toInt by omega), (show (1 : Int32).toInt ≤ 1 by omega), (show (1 : Int32).toInt ≠ 0 → p1.toInt ≠ -1 → 0 ≤ (σ21_7.1 46 10).toInt ∧ (p1.toInt = 0 → (σ21_7.1 46 10).toInt ≤ 5) ∧ (p1.toInt = 1 → (σ21_7.1 46 10).toInt ≤ 11) ∧ (p1.toInt = 2 → (σ21_7.1 46 10).toInt ≤ 19) by omega)⟩
                  · have g66 : r30_7.toInt ≠ (0 : Int32).toInt := fun z => h_60 (Int32.toInt_inj.mp z)
                    try unfold jX3_readName_192
                    refine ok_nm2 (fun x24_9 ex24_9 => ?_)
                    have qx24_9 : x24_9.toInt = 0 := by rw [ex24_9]; decide
                    refine ok_ite.mpr ⟨fun h_67 => ?_, fun h_67 => ?_⟩
                    · have g68 : x24_9.toInt = (0 : Int32).toInt := by rw [h_67]
                      have f69 : (3 : Int32).toInt = 3 := by decide
                      have f70 : 0 ≤ (σ21_7.1 46 6).toInt ∧ (σ21_7.1 46 6).toInt ≤ 1600 := hIσ21_7 46 6
                      refine ok_bd2.mpr ((o_fX3_fail hIσ21_7 (p1 := (3 : Int32)) (p2 := (σ21_7.1 46 6)) ).mono (fun o_71 ho_72 => ?_))
                      obtain ⟨r27_9, σ28_9⟩ := o_71
                      obtain ⟨hIσ28_9, hcσ28_9, r0r27_9, r1r27_9⟩ := ho_72
                      dsimp only at hIσ28_9 hcσ28_9 r0r27_9 r1r27_9 ⊢
                      have hfσ28_9 : Fr fr_fX3_readName σ σ28_9 := Fr_c hfσ21_7 hcσ28_9 (by decide)
                      have sσ28_9_46_6 : (σ28_9.1 46 6).toInt = (σ21_7.1 46 6).toInt := by rw [(hcσ28_9 46 6 (by decide) (by decide)).1]
                      have sσ28_9_46_7 : (σ28_9.1 46 7).toInt = (σ21_7.1 46 7).toInt := by rw [(hcσ28_9 46 7 (by decide) (by decide)).1]
                      have sσ28_9_46_9 : (σ28_9.1 46 9).toInt = (σ21_7.1 46 9).toInt := by rw [(hcσ28_9 46 9 (by decide) (by decide)).1]
                      have sσ28_9_46_10 : (σ28_9.1 46 10).toInt = (σ21_7.1 46 10).toInt := by rw [(hcσ28_9 46 10 (by decide) (by decide)).1]
                      refine ok_some.mpr ?_
                      have f73 : (vp_nar .boolean r27_9).toInt = r27_9.toInt := nar_bool2 (by omega) (by omega)
                      exact ⟨hIσ28_9, hfσ28_9, (show 0 ≤ (vp_nar .boolean r27_9).toInt by omega), (show (vp_nar .boolean r27_9).toInt ≤ 1 by omega), (show (vp_nar .boolean r27_9).toInt ≠ 0 → p1.toInt ≠ -1 → 0 ≤ (σ28_9.1 46 10).toInt ∧ (p1.toInt = 0 → (σ28_9.1 46 10).toInt ≤ 5) ∧ (p1.toInt = 1 → (σ28_9.1 46 10).toInt ≤ 11) ∧ (p1.toInt = 2 → (σ28_9.1 46 10).toInt ≤ 19) by omega)⟩
                    · have g74 : x24_9.toInt ≠ (0 : Int32).toInt := fun z => h_67 (Int32.toInt_inj.mp z)
                      exfalso
                      omega
                · have g75 : p1.toInt ≠ (-1 : Int32).toInt := fun z => h_56 (Int32.toInt_inj.mp z)
                  exfalso
                  omega
              · have f76 : (-1 : Int32).toInt = -1 := by decide
                have g77 : p1.toInt ≠ (-1 : Int32).toInt := fun z => h_53 (Int32.toInt_inj.mp z)
                refine ok_bd.mpr ((o_fX8_find_24 hIσ17_6 (p1 := p1) (p2 := (σ17_6.1 46 9)) (by omega) (by omega)).mono (fun r20_6 ho_79 => ?_))
                obtain ⟨r0r20_6, r1r20_6, hp_80⟩ := ho_79
                try unfold jX3_readName_149
                refine ok_nm2 (fun σ21_10 eσ21_10 => ?_)
                have hIσ21_10 : JC σ21_10 := by rw [eσ21_10]; exact JC_w hIσ17_6 (show -1 ≤ _ by omega) (show _ ≤ 19 by omega)
                have hfσ21_10 : Fr fr_fX3_readName σ σ21_10 := by rw [eσ21_10]; exact Fr_w hfσ17_6 (by decide)
                have sσ21_10_46_6 : (σ21_10.1 46 6).toInt = (σ17_6.1 46 6).toInt := by rw [eσ21_10]; rfl
                have sσ21_10_46_7 : (σ21_10.1 46 7).toInt = (σ17_6.1 46 7).toInt := by rw [eσ21_10]; rfl
                have sσ21_10_46_9 : (σ21_10.1 46 9).toInt = (σ17_6.1 46 9).toInt := by rw [eσ21_10]; rfl
                have sσ21_10_46_10 : (σ21_10.1 46 10).toInt = r20_6.toInt := by rw [eσ21_10]; rfl
                refine ok_ite.mpr ⟨fun h_81 => ?_, fun h_81 => ?_⟩
                · have g82 : p1.toInt = (-1 : Int32).toInt := by rw [h_81]
                  exfalso
                  omega
                · have g83 : p1.toInt ≠ (-1 : Int32).toInt := fun z => h_81 (Int32.toInt_inj.mp z)
                  refine ok_ite.mpr ⟨fun h_84 => ?_, fun h_84 => ?_⟩
                  · have f85 : -1 ≤ (σ21_10.1 46 10).toInt ∧ (σ21_10.1 46 10).toInt ≤ 19 := hIσ21_10 46 10
                    have g86 : (σ21_10.1 46 10).toInt = (-1 : Int32).toInt := by rw [h_84]
                    try unfold jX3_readName_192
                    refine ok_nm2 (fun x24_11 ex24_11 => ?_)
                    have qx24_11 : x24_11.toInt = 0 := by rw [ex24_11]; decide
                    refine ok_ite.mpr ⟨fun h_87 => ?_, fun h_87 => ?_⟩
                    · have g88 : x24_11.toInt = (0 : Int32).toInt := by rw [h_87]
                      have f89 : (3 : Int32).toInt = 3 := by decide
                      have f90 : 0 ≤ (σ21_10.1 46 6).toInt ∧ (σ21_10.1 46 6).toInt ≤ 1600 := hIσ21_10 46 6
                      refine ok_bd2.mpr ((o_fX3_fail hIσ21_10 (p1 := (3 : Int32)) (p2 := (σ21_10.1 46 6)) ).mono (fun o_91 ho_92 => ?_))
                      obtain ⟨r27_11, σ28_11⟩ := o_91
                      obtain ⟨hIσ28_11, hcσ28_11, r0r27_11, r1r27_11⟩ := ho_92
                      dsimp only at hIσ28_11 hcσ28_11 r0r27_11 r1r27_11 ⊢
                      have hfσ28_11 : Fr fr_fX3_readName σ σ28_11 := Fr_c hfσ21_10 hcσ28_11 (by decide)
                      have sσ28_11_46_6 : (σ28_11.1 46 6).toInt = (σ21_10.1 46 6).toInt := by rw [(hcσ28_11 46 6 (by decide) (by decide)).1]
                      have sσ28_11_46_7 : (σ28_11.1 46 7).toInt = (σ21_10.1 46 7).toInt := by rw [(hcσ28_11 46 7 (by decide) (by decide)).1]
                      have sσ28_11_46_9 : (σ28_11.1 46 9).toInt = (σ21_10.1 46 9).toInt := by rw [(hcσ28_11 46 9 (by decide) (by decide)).1]
                      have sσ28_11_46_10 : (σ28_11.1 46 10).toInt = (σ21_10.1 46 10).toInt := by rw [(hcσ28_11 46 10 (by decide) (by decide)).1]
                      refine ok_some.mpr ?_
                      have f93 : (vp_nar .boolean r27_11).toInt = r27_11.toInt := nar_bool2 (by omega) (by omega)
                      exact ⟨hIσ28_11, hfσ28_11, (show 0 ≤ (vp_nar .boolean r27_11).toInt by omega), (show (vp_nar .boolean r27_11).toInt ≤ 1 by omega), (show (vp_nar .boolean r27_11).toInt ≠ 0 → p1.toInt ≠ -1 → 0 ≤ (σ28_11.1 46 10).toInt ∧ (p1.toInt = 0 → (σ28_11.1 46 10).toInt ≤ 5) ∧ (p1.toInt = 1 → (σ28_11.1 46 10).toInt ≤ 11) ∧ (p1.toInt = 2 → (σ28_11.1 46 10).toInt ≤ 19) by omega)⟩
                    · have g94 : x24_11.toInt ≠ (0 : Int32).toInt := fun z => h_87 (Int32.toInt_inj.mp z)
                      exfalso
                      omega
                  · have f95 : -1 ≤ (σ21_10.1 46 10).toInt ∧ (σ21_10.1 46 10).toInt ≤ 19 := hIσ21_10 46 10
                    have g96 : (σ21_10.1 46 10).toInt ≠ (-1 : Int32).toInt := fun z => h_84 (Int32.toInt_inj.mp z)
                    try unfold jX3_readName_192
                    refine ok_nm2 (fun x24_12 ex24_12 => ?_)
                    have f97 : (1 : Int32).toInt = 1 := by decide
                    have qx24_12 : x24_12.toInt = 1 := by rw [ex24_12]; decide
                    refine ok_ite.mpr ⟨fun h_98 => ?_, fun h_98 => ?_⟩
                    · have g99 : x24_12.toInt = (0 : Int32).toInt := by rw [h_98]
                      exfalso
                      omega
                    · have g100 : x24_12.toInt ≠ (0 : Int32).toInt := fun z => h_98 (Int32.toInt_inj.mp z)
                      refine ok_some.mpr ?_
                      exact ⟨hIσ21_10, hfσ21_10, (show 0 ≤ (1 : Int32).toInt by omega), (show (1 : Int32).toInt ≤ 1 by omega), (show (1 : Int32).toInt ≠ 0 → p1.toInt ≠ -1 → 0 ≤ (σ21_10.1 46 10).toInt ∧ (p1.toInt = 0 → (σ21_10.1 46 10).toInt ≤ 5) ∧ (p1.toInt = 1 → (σ21_10.1 46 10).toInt ≤ 11) ∧ (p1.toInt = 2 → (σ21_10.1 46 10).toInt ≤ 19) by omega)⟩
            · have g101 : ¬ (6 : Int32).toInt ≤ a2_5.toInt := fun z => h_49 (Int32.le_iff_toInt_le.mpr z)
              refine ok_ite.mpr ⟨fun h_102 => ?_, fun h_102 => ?_⟩
              · have f103 : 0 ≤ (σ1_5.1 46 7).toInt ∧ (σ1_5.1 46 7).toInt ≤ 1600 := hIσ1_5 46 7
                have f104 : 0 ≤ (σ1_5.1 46 6).toInt ∧ (σ1_5.1 46 6).toInt ≤ 1600 := hIσ1_5 46 6
                have f105 : ((σ1_5.1 46 6) + a2_5).toInt = (σ1_5.1 46 6).toInt + a2_5.toInt := iadd_toInt (by omega) (by omega)
                have g106 : (σ1_5.1 46 7).toInt ≤ ((σ1_5.1 46 6) + a2_5).toInt := Int32.le_iff_toInt_le.mp h_102
                refine ok_nm2 (fun σ33_6 eσ33_6 => ?_)
                have f107 : (27 : Int32).toInt = 27 := by decide
                have hIσ33_6 : JC σ33_6 := by rw [eσ33_6]; exact JC_w hIσ1_5 (Int32.le_toInt _) (Int32.toInt_le _)
                have hfσ33_6 : Fr fr_fX3_readName σ σ33_6 := by rw [eσ33_6]; exact Fr_w hfσ1_5 (by decide)
                have sσ33_6_46_6 : (σ33_6.1 46 6).toInt = (σ1_5.1 46 6).toInt := by rw [eσ33_6]; rfl
                have sσ33_6_46_7 : (σ33_6.1 46 7).toInt = (σ1_5.1 46 7).toInt := by rw [eσ33_6]; rfl
                have sσ33_6_46_9 : (σ33_6.1 46 9).toInt = ((27 * (σ1_5.1 46 9)) + 0).toInt := by rw [eσ33_6]; rfl
                have sσ33_6_46_10 : (σ33_6.1 46 10).toInt = (σ1_5.1 46 10).toInt := by rw [eσ33_6]; rfl
                refine ok_nm2 (fun x34_6 ex34_6 => ?_)
                have f108 : (1 : Int32).toInt = 1 := by decide
                have f109 : (a2_5 + (1 : Int32)).toInt = a2_5.toInt + (1 : Int32).toInt := iadd_toInt (by omega) (by omega)
                have qx34_6 : x34_6.toInt = (a2_5 + 1).toInt := congrArg Int32.toInt ex34_6
                exact hrec_5 _ (x34_6, σ33_6) (show (6 + 1 - x34_6.toInt).toNat < n_5 by omega) ⟨rfl, hIσ33_6, hfσ33_6, (show 0 ≤ x34_6.toInt by omega), (show x34_6.toInt ≤ 6 by omega)⟩
              · have f110 : 0 ≤ (σ1_5.1 46 7).toInt ∧ (σ1_5.1 46 7).toInt ≤ 1600 := hIσ1_5 46 7
                have f111 : 0 ≤ (σ1_5.1 46 6).toInt ∧ (σ1_5.1 46 6).toInt ≤ 1600 := hIσ1_5 46 6
                have f112 : ((σ1_5.1 46 6) + a2_5).toInt = (σ1_5.1 46 6).toInt + a2_5.toInt := iadd_toInt (by omega) (by omega)
                have g113 : ¬ (σ1_5.1 46 7).toInt ≤ ((σ1_5.1 46 6) + a2_5).toInt := fun z => h_102 (Int32.le_iff_toInt_le.mpr z)
                refine ok_gd.mpr ⟨gb_of (by omega) (by omega), ?_⟩
                refine ok_nm2 (fun v35_6 ev35_6 => ?_)
                have qv35_6 : v35_6.toInt = (σ1_5.1 1 ((σ1_5.1 46 6) + a2_5).toNatClampNeg).toInt := congrArg Int32.toInt ev35_6
                refine ok_nm2 (fun σ36_6 eσ36_6 => ?_)
                have f114 : (27 : Int32).toInt = 27 := by decide
                have f115 : (1 : Int32).toInt = 1 := by decide
                have hIσ36_6 : JC σ36_6 := by rw [eσ36_6]; exact JC_w hIσ1_5 (Int32.le_toInt _) (Int32.toInt_le _)
                have hfσ36_6 : Fr fr_fX3_readName σ σ36_6 := by rw [eσ36_6]; exact Fr_w hfσ1_5 (by decide)
                have sσ36_6_46_6 : (σ36_6.1 46 6).toInt = (σ1_5.1 46 6).toInt := by rw [eσ36_6]; rfl
                have sσ36_6_46_7 : (σ36_6.1 46 7).toInt = (σ1_5.1 46 7).toInt := by rw [eσ36_6]; rfl
                have sσ36_6_46_9 : (σ36_6.1 46 9).toInt = ((27 * (σ1_5.1 46 9)) + ((v35_6 - 97) + 1)).toInt := by rw [eσ36_6]; rfl
                have sσ36_6_46_10 : (σ36_6.1 46 10).toInt = (σ1_5.1 46 10).toInt := by rw [eσ36_6]; rfl
                refine ok_nm2 (fun x37_6 ex37_6 => ?_)
                have f116 : (a2_5 + (1 : Int32)).toInt = a2_5.toInt + (1 : Int32).toInt := iadd_toInt (by omega) (by omega)
                have qx37_6 : x37_6.toInt = (a2_5 + 1).toInt := congrArg Int32.toInt ex37_6
                exact hrec_5 _ (x37_6, σ36_6) (show (6 + 1 - x37_6.toInt).toNat < n_5 by omega) ⟨rfl, hIσ36_6, hfσ36_6, (show 0 ≤ x37_6.toInt by omega), (show x37_6.toInt ≤ 6 by omega)⟩
          · have f117 : ((σ2.1 46 7) - (σ2.1 46 6)).toInt = (σ2.1 46 7).toInt - (σ2.1 46 6).toInt := isub_toInt (by omega) (by omega)
            have f118 : (6 : Int32).toInt = 6 := by decide
            have g119 : ¬ ((σ2.1 46 7) - (σ2.1 46 6)).toInt ≤ (6 : Int32).toInt := fun z => h_45 (Int32.le_iff_toInt_le.mpr z)
            have f120 : (1 : Int32).toInt = 1 := by decide
            have f121 : ((σ2.1 46 6) + (6 : Int32)).toInt = (σ2.1 46 6).toInt + (6 : Int32).toInt := iadd_toInt (by omega) (by omega)
            refine ok_bd2.mpr ((o_fX3_fail hIσ2 (p1 := (1 : Int32)) (p2 := ((σ2.1 46 6) + 6)) ).mono (fun o_122 ho_123 => ?_))
            obtain ⟨r39_4, σ40_4⟩ := o_122
            obtain ⟨hIσ40_4, hcσ40_4, r0r39_4, r1r39_4⟩ := ho_123
            dsimp only at hIσ40_4 hcσ40_4 r0r39_4 r1r39_4 ⊢
            have hfσ40_4 : Fr fr_fX3_readName σ σ40_4 := Fr_c hfσ2 hcσ40_4 (by decide)
            have sσ40_4_46_6 : (σ40_4.1 46 6).toInt = (σ2.1 46 6).toInt := by rw [(hcσ40_4 46 6 (by decide) (by decide)).1]
            have sσ40_4_46_7 : (σ40_4.1 46 7).toInt = (σ2.1 46 7).toInt := by rw [(hcσ40_4 46 7 (by decide) (by decide)).1]
            have sσ40_4_46_9 : (σ40_4.1 46 9).toInt = (σ2.1 46 9).toInt := by rw [(hcσ40_4 46 9 (by decide) (by decide)).1]
            have sσ40_4_46_10 : (σ40_4.1 46 10).toInt = (σ2.1 46 10).toInt := by rw [(hcσ40_4 46 10 (by decide) (by decide)).1]
            refine ok_some.mpr ?_
            have f124 : (vp_nar .boolean r39_4).toInt = r39_4.toInt := nar_bool2 (by omega) (by omega)
            exact ⟨hIσ40_4, hfσ40_4, (show 0 ≤ (vp_nar .boolean r39_4).toInt by omega), (show (vp_nar .boolean r39_4).toInt ≤ 1 by omega), (show (vp_nar .boolean r39_4).toInt ≠ 0 → p1.toInt ≠ -1 → 0 ≤ (σ40_4.1 46 10).toInt ∧ (p1.toInt = 0 → (σ40_4.1 46 10).toInt ≤ 5) ∧ (p1.toInt = 1 → (σ40_4.1 46 10).toInt ≤ 11) ∧ (p1.toInt = 2 → (σ40_4.1 46 10).toInt ≤ 19) by omega)⟩
        · have g125 : r10_4.toInt ≠ (0 : Int32).toInt := fun z => h_43 (Int32.toInt_inj.mp z)
          have f126 : (1 : Int32).toInt = 1 := by decide
          refine ok_bd2.mpr ((o_fX3_fail hIσ2 (p1 := (1 : Int32)) (p2 := (σ2.1 46 6)) ).mono (fun o_127 ho_128 => ?_))
          obtain ⟨r42_4, σ43_4⟩ := o_127
          obtain ⟨hIσ43_4, hcσ43_4, r0r42_4, r1r42_4⟩ := ho_128
          dsimp only at hIσ43_4 hcσ43_4 r0r42_4 r1r42_4 ⊢
          have hfσ43_4 : Fr fr_fX3_readName σ σ43_4 := Fr_c hfσ2 hcσ43_4 (by decide)
          have sσ43_4_46_6 : (σ43_4.1 46 6).toInt = (σ2.1 46 6).toInt := by rw [(hcσ43_4 46 6 (by decide) (by decide)).1]
          have sσ43_4_46_7 : (σ43_4.1 46 7).toInt = (σ2.1 46 7).toInt := by rw [(hcσ43_4 46 7 (by decide) (by decide)).1]
          have sσ43_4_46_9 : (σ43_4.1 46 9).toInt = (σ2.1 46 9).toInt := by rw [(hcσ43_4 46 9 (by decide) (by decide)).1]
          have sσ43_4_46_10 : (σ43_4.1 46 10).toInt = (σ2.1 46 10).toInt := by rw [(hcσ43_4 46 10 (by decide) (by decide)).1]
          refine ok_some.mpr ?_
          have f129 : (vp_nar .boolean r42_4).toInt = r42_4.toInt := nar_bool2 (by omega) (by omega)
          exact ⟨hIσ43_4, hfσ43_4, (show 0 ≤ (vp_nar .boolean r42_4).toInt by omega), (show (vp_nar .boolean r42_4).toInt ≤ 1 by omega), (show (vp_nar .boolean r42_4).toInt ≠ 0 → p1.toInt ≠ -1 → 0 ≤ (σ43_4.1 46 10).toInt ∧ (p1.toInt = 0 → (σ43_4.1 46 10).toInt ≤ 5) ∧ (p1.toInt = 1 → (σ43_4.1 46 10).toInt ≤ 11) ∧ (p1.toInt = 2 → (σ43_4.1 46 10).toInt ≤ 19) by omega)⟩
      · have f130 : (0 : Int32).toInt = 0 := by decide
        have g131 : (0 : Int32).toInt ≠ (0 : Int32).toInt := fun z => h_38 (Int32.toInt_inj.mp z)
        exfalso
        omega
set_option maxRecDepth 20000 in
set_option maxHeartbeats 2000000 in
theorem o_fX3_readWord_K6 {σ : gS} (hIσ : JC σ)   : Ok (fX3_readWord_K6 σ ) (fun out => JC out.2 ∧ Fr fr_fX3_readWord_K6 σ out.2 ∧ 0 ≤ out.1.toInt ∧ out.1.toInt ≤ 1) := by
  unfold fX3_readWord_K6
  have hfσ : Fr fr_fX3_readWord_K6 σ σ := Fr_r
  have f1 : 0 ≤ (σ.1 46 6).toInt ∧ (σ.1 46 6).toInt ≤ 1600 := hIσ 46 6
  have f2 : (97 : Int32).toInt = 97 := by decide
  have f3 : (122 : Int32).toInt = 122 := by decide
  refine ok_bd.mpr ((o_fX3_markRun hIσ (p1 := (97 : Int32)) (p2 := (122 : Int32)) ).mono (fun σ2 ho_5 => ?_))
  obtain ⟨hIσ2, hcσ2⟩ := ho_5
  have hfσ2 : Fr fr_fX3_readWord_K6 σ σ2 := Fr_c hfσ hcσ2 (by decide)
  refine ok_bd.mpr ?_
  try unfold fX3_isNoRun
  refine ok_ite.mpr ⟨fun h_6 => ?_, fun h_6 => ?_⟩
  · have f7 : 0 ≤ (σ2.1 46 6).toInt ∧ (σ2.1 46 6).toInt ≤ 1600 := hIσ2 46 6
    have f8 : 0 ≤ (σ2.1 46 7).toInt ∧ (σ2.1 46 7).toInt ≤ 1600 := hIσ2 46 7
    have g9 : (σ2.1 46 6).toInt = (σ2.1 46 7).toInt := by rw [h_6]
    refine ok_some.mpr ?_
    refine ok_ite.mpr ⟨fun h_10 => ?_, fun h_10 => ?_⟩
    · have f11 : (1 : Int32).toInt = 1 := by decide
      have f12 : (0 : Int32).toInt = 0 := by decide
      have g13 : (1 : Int32).toInt = (0 : Int32).toInt := by rw [h_10]
      exfalso
      omega
    · have f14 : (1 : Int32).toInt = 1 := by decide
      have f15 : (0 : Int32).toInt = 0 := by decide
      have g16 : (1 : Int32).toInt ≠ (0 : Int32).toInt := fun z => h_10 (Int32.toInt_inj.mp z)
      refine ok_bd2.mpr ((o_fX3_fail hIσ2 (p1 := (1 : Int32)) (p2 := (σ2.1 46 6)) ).mono (fun o_17 ho_18 => ?_))
      obtain ⟨r7_2, σ8_2⟩ := o_17
      obtain ⟨hIσ8_2, hcσ8_2, r0r7_2, r1r7_2⟩ := ho_18
      dsimp only at hIσ8_2 hcσ8_2 r0r7_2 r1r7_2 ⊢
      have hfσ8_2 : Fr fr_fX3_readWord_K6 σ σ8_2 := Fr_c hfσ2 hcσ8_2 (by decide)
      have sσ8_2_46_6 : (σ8_2.1 46 6).toInt = (σ2.1 46 6).toInt := by rw [(hcσ8_2 46 6 (by decide) (by decide)).1]
      refine ok_some.mpr ?_
      have f19 : (vp_nar .boolean r7_2).toInt = r7_2.toInt := nar_bool2 (by omega) (by omega)
      exact ⟨hIσ8_2, hfσ8_2, (show 0 ≤ (vp_nar .boolean r7_2).toInt by omega), (show (vp_nar .boolean r7_2).toInt ≤ 1 by omega)⟩
  · have f20 : 0 ≤ (σ2.1 46 6).toInt ∧ (σ2.1 46 6).toInt ≤ 1600 := hIσ2 46 6
    have f21 : 0 ≤ (σ2.1 46 7).toInt ∧ (σ2.1 46 7).toInt ≤ 1600 := hIσ2 46 7
    have g22 : (σ2.1 46 6).toInt ≠ (σ2.1 46 7).toInt := fun z => h_6 (Int32.toInt_inj.mp z)
    refine ok_ite.mpr ⟨fun h_23 => ?_, fun h_23 => ?_⟩
    · have g24 : (σ2.1 46 6).toInt = (σ2.1 46 8).toInt := by rw [h_23]
      refine ok_some.mpr ?_
      refine ok_ite.mpr ⟨fun h_25 => ?_, fun h_25 => ?_⟩
      · have f26 : (1 : Int32).toInt = 1 := by decide
        have f27 : (0 : Int32).toInt = 0 := by decide
        have g28 : (1 : Int32).toInt = (0 : Int32).toInt := by rw [h_25]
        exfalso
        omega
      · have f29 : (1 : Int32).toInt = 1 := by decide
        have f30 : (0 : Int32).toInt = 0 := by decide
        have g31 : (1 : Int32).toInt ≠ (0 : Int32).toInt := fun z => h_25 (Int32.toInt_inj.mp z)
        refine ok_bd2.mpr ((o_fX3_fail hIσ2 (p1 := (1 : Int32)) (p2 := (σ2.1 46 6)) ).mono (fun o_32 ho_33 => ?_))
        obtain ⟨r7_3, σ8_3⟩ := o_32
        obtain ⟨hIσ8_3, hcσ8_3, r0r7_3, r1r7_3⟩ := ho_33
        dsimp only at hIσ8_3 hcσ8_3 r0r7_3 r1r7_3 ⊢
        have hfσ8_3 : Fr fr_fX3_readWord_K6 σ σ8_3 := Fr_c hfσ2 hcσ8_3 (by decide)
        have sσ8_3_46_6 : (σ8_3.1 46 6).toInt = (σ2.1 46 6).toInt := by rw [(hcσ8_3 46 6 (by decide) (by decide)).1]
        refine ok_some.mpr ?_
        have f34 : (vp_nar .boolean r7_3).toInt = r7_3.toInt := nar_bool2 (by omega) (by omega)
        exact ⟨hIσ8_3, hfσ8_3, (show 0 ≤ (vp_nar .boolean r7_3).toInt by omega), (show (vp_nar .boolean r7_3).toInt ≤ 1 by omega)⟩
    · have g35 : (σ2.1 46 6).toInt ≠ (σ2.1 46 8).toInt := fun z => h_23 (Int32.toInt_inj.mp z)
      refine ok_some.mpr ?_
      refine ok_ite.mpr ⟨fun h_36 => ?_, fun h_36 => ?_⟩
      · have f37 : (0 : Int32).toInt = 0 := by decide
        have g38 : (0 : Int32).toInt = (0 : Int32).toInt := by rw [h_36]
        refine ok_bd.mpr ((o_fX3_isWord_K6 hIσ2  ).mono (fun r10_4 ho_40 => ?_))
        obtain ⟨r0r10_4, r1r10_4⟩ := ho_40
        refine ok_ite.mpr ⟨fun h_41 => ?_, fun h_41 => ?_⟩
        · have g42 : r10_4.toInt = (0 : Int32).toInt := by rw [h_41]
          have f43 : (1 : Int32).toInt = 1 := by decide
          refine ok_bd2.mpr ((o_fX3_fail hIσ2 (p1 := (1 : Int32)) (p2 := (σ2.1 46 6)) ).mono (fun o_44 ho_45 => ?_))
          obtain ⟨r15_4, σ16_4⟩ := o_44
          obtain ⟨hIσ16_4, hcσ16_4, r0r15_4, r1r15_4⟩ := ho_45
          dsimp only at hIσ16_4 hcσ16_4 r0r15_4 r1r15_4 ⊢
          have hfσ16_4 : Fr fr_fX3_readWord_K6 σ σ16_4 := Fr_c hfσ2 hcσ16_4 (by decide)
          have sσ16_4_46_6 : (σ16_4.1 46 6).toInt = (σ2.1 46 6).toInt := by rw [(hcσ16_4 46 6 (by decide) (by decide)).1]
          refine ok_some.mpr ?_
          have f46 : (vp_nar .boolean r15_4).toInt = r15_4.toInt := nar_bool2 (by omega) (by omega)
          exact ⟨hIσ16_4, hfσ16_4, (show 0 ≤ (vp_nar .boolean r15_4).toInt by omega), (show (vp_nar .boolean r15_4).toInt ≤ 1 by omega)⟩
        · have g47 : r10_4.toInt ≠ (0 : Int32).toInt := fun z => h_41 (Int32.toInt_inj.mp z)
          refine ok_bd.mpr ((o_fX3_passRun hIσ2  ).mono (fun σ13_4 ho_49 => ?_))
          obtain ⟨hIσ13_4, hcσ13_4⟩ := ho_49
          have hfσ13_4 : Fr fr_fX3_readWord_K6 σ σ13_4 := Fr_c hfσ2 hcσ13_4 (by decide)
          have sσ13_4_46_6 : (σ13_4.1 46 6).toInt = (σ2.1 46 6).toInt := by rw [(hcσ13_4 46 6 (by decide) (by decide)).1]
          refine ok_some.mpr ?_
          have f50 : (1 : Int32).toInt = 1 := by decide
          exact ⟨hIσ13_4, hfσ13_4, (show 0 ≤ (1 : Int32).toInt by omega), (show (1 : Int32).toInt ≤ 1 by omega)⟩
      · have f51 : (0 : Int32).toInt = 0 := by decide
        have g52 : (0 : Int32).toInt ≠ (0 : Int32).toInt := fun z => h_36 (Int32.toInt_inj.mp z)
        exfalso
        omega
set_option maxRecDepth 20000 in
set_option maxHeartbeats 2000000 in
theorem o_fX3_readWord_K7 {σ : gS} (hIσ : JC σ)   : Ok (fX3_readWord_K7 σ ) (fun out => JC out.2 ∧ Fr fr_fX3_readWord_K7 σ out.2 ∧ 0 ≤ out.1.toInt ∧ out.1.toInt ≤ 1) := by
  unfold fX3_readWord_K7
  have hfσ : Fr fr_fX3_readWord_K7 σ σ := Fr_r
  have f1 : 0 ≤ (σ.1 46 6).toInt ∧ (σ.1 46 6).toInt ≤ 1600 := hIσ 46 6
  have f2 : (97 : Int32).toInt = 97 := by decide
  have f3 : (122 : Int32).toInt = 122 := by decide
  refine ok_bd.mpr ((o_fX3_markRun hIσ (p1 := (97 : Int32)) (p2 := (122 : Int32)) ).mono (fun σ2 ho_5 => ?_))
  obtain ⟨hIσ2, hcσ2⟩ := ho_5
  have hfσ2 : Fr fr_fX3_readWord_K7 σ σ2 := Fr_c hfσ hcσ2 (by decide)
  refine ok_bd.mpr ?_
  try unfold fX3_isNoRun
  refine ok_ite.mpr ⟨fun h_6 => ?_, fun h_6 => ?_⟩
  · have f7 : 0 ≤ (σ2.1 46 6).toInt ∧ (σ2.1 46 6).toInt ≤ 1600 := hIσ2 46 6
    have f8 : 0 ≤ (σ2.1 46 7).toInt ∧ (σ2.1 46 7).toInt ≤ 1600 := hIσ2 46 7
    have g9 : (σ2.1 46 6).toInt = (σ2.1 46 7).toInt := by rw [h_6]
    refine ok_some.mpr ?_
    refine ok_ite.mpr ⟨fun h_10 => ?_, fun h_10 => ?_⟩
    · have f11 : (1 : Int32).toInt = 1 := by decide
      have f12 : (0 : Int32).toInt = 0 := by decide
      have g13 : (1 : Int32).toInt = (0 : Int32).toInt := by rw [h_10]
      exfalso
      omega
    · have f14 : (1 : Int32).toInt = 1 := by decide
      have f15 : (0 : Int32).toInt = 0 := by decide
      have g16 : (1 : Int32).toInt ≠ (0 : Int32).toInt := fun z => h_10 (Int32.toInt_inj.mp z)
      refine ok_bd2.mpr ((o_fX3_fail hIσ2 (p1 := (1 : Int32)) (p2 := (σ2.1 46 6)) ).mono (fun o_17 ho_18 => ?_))
      obtain ⟨r7_2, σ8_2⟩ := o_17
      obtain ⟨hIσ8_2, hcσ8_2, r0r7_2, r1r7_2⟩ := ho_18
      dsimp only at hIσ8_2 hcσ8_2 r0r7_2 r1r7_2 ⊢
      have hfσ8_2 : Fr fr_fX3_readWord_K7 σ σ8_2 := Fr_c hfσ2 hcσ8_2 (by decide)
      have sσ8_2_46_6 : (σ8_2.1 46 6).toInt = (σ2.1 46 6).toInt := by rw [(hcσ8_2 46 6 (by decide) (by decide)).1]
      refine ok_some.mpr ?_
      have f19 : (vp_nar .boolean r7_2).toInt = r7_2.toInt := nar_bool2 (by omega) (by omega)
      exact ⟨hIσ8_2, hfσ8_2, (show 0 ≤ (vp_nar .boolean r7_2).toInt by omega), (show (vp_nar .boolean r7_2).toInt ≤ 1 by omega)⟩
  · have f20 : 0 ≤ (σ2.1 46 6).toInt ∧ (σ2.1 46 6).toInt ≤ 1600 := hIσ2 46 6
    have f21 : 0 ≤ (σ2.1 46 7).toInt ∧ (σ2.1 46 7).toInt ≤ 1600 := hIσ2 46 7
    have g22 : (σ2.1 46 6).toInt ≠ (σ2.1 46 7).toInt := fun z => h_6 (Int32.toInt_inj.mp z)
    refine ok_ite.mpr ⟨fun h_23 => ?_, fun h_23 => ?_⟩
    · have g24 : (σ2.1 46 6).toInt = (σ2.1 46 8).toInt := by rw [h_23]
      refine ok_some.mpr ?_
      refine ok_ite.mpr ⟨fun h_25 => ?_, fun h_25 => ?_⟩
      · have f26 : (1 : Int32).toInt = 1 := by decide
        have f27 : (0 : Int32).toInt = 0 := by decide
        have g28 : (1 : Int32).toInt = (0 : Int32).toInt := by rw [h_25]
        exfalso
        omega
      · have f29 : (1 : Int32).toInt = 1 := by decide
        have f30 : (0 : Int32).toInt = 0 := by decide
        have g31 : (1 : Int32).toInt ≠ (0 : Int32).toInt := fun z => h_25 (Int32.toInt_inj.mp z)
        refine ok_bd2.mpr ((o_fX3_fail hIσ2 (p1 := (1 : Int32)) (p2 := (σ2.1 46 6)) ).mono (fun o_32 ho_33 => ?_))
        obtain ⟨r7_3, σ8_3⟩ := o_32
        obtain ⟨hIσ8_3, hcσ8_3, r0r7_3, r1r7_3⟩ := ho_33
        dsimp only at hIσ8_3 hcσ8_3 r0r7_3 r1r7_3 ⊢
        have hfσ8_3 : Fr fr_fX3_readWord_K7 σ σ8_3 := Fr_c hfσ2 hcσ8_3 (by decide)
        have sσ8_3_46_6 : (σ8_3.1 46 6).toInt = (σ2.1 46 6).toInt := by rw [(hcσ8_3 46 6 (by decide) (by decide)).1]
        refine ok_some.mpr ?_
        have f34 : (vp_nar .boolean r7_3).toInt = r7_3.toInt := nar_bool2 (by omega) (by omega)
        exact ⟨hIσ8_3, hfσ8_3, (show 0 ≤ (vp_nar .boolean r7_3).toInt by omega), (show (vp_nar .boolean r7_3).toInt ≤ 1 by omega)⟩
    · have g35 : (σ2.1 46 6).toInt ≠ (σ2.1 46 8).toInt := fun z => h_23 (Int32.toInt_inj.mp z)
      refine ok_some.mpr ?_
      refine ok_ite.mpr ⟨fun h_36 => ?_, fun h_36 => ?_⟩
      · have f37 : (0 : Int32).toInt = 0 := by decide
        have g38 : (0 : Int32).toInt = (0 : Int32).toInt := by rw [h_36]
        refine ok_bd.mpr ((o_fX3_isWord_K7 hIσ2  ).mono (fun r10_4 ho_40 => ?_))
        obtain ⟨r0r10_4, r1r10_4⟩ := ho_40
        refine ok_ite.mpr ⟨fun h_41 => ?_, fun h_41 => ?_⟩
        · have g42 : r10_4.toInt = (0 : Int32).toInt := by rw [h_41]
          have f43 : (1 : Int32).toInt = 1 := by decide
          refine ok_bd2.mpr ((o_fX3_fail hIσ2 (p1 := (1 : Int32)) (p2 := (σ2.1 46 6)) ).mono (fun o_44 ho_45 => ?_))
          obtain ⟨r15_4, σ16_4⟩ := o_44
          obtain ⟨hIσ16_4, hcσ16_4, r0r15_4, r1r15_4⟩ := ho_45
          dsimp only at hIσ16_4 hcσ16_4 r0r15_4 r1r15_4 ⊢
          have hfσ16_4 : Fr fr_fX3_readWord_K7 σ σ16_4 := Fr_c hfσ2 hcσ16_4 (by decide)
          have sσ16_4_46_6 : (σ16_4.1 46 6).toInt = (σ2.1 46 6).toInt := by rw [(hcσ16_4 46 6 (by decide) (by decide)).1]
          refine ok_some.mpr ?_
          have f46 : (vp_nar .boolean r15_4).toInt = r15_4.toInt := nar_bool2 (by omega) (by omega)
          exact ⟨hIσ16_4, hfσ16_4, (show 0 ≤ (vp_nar .boolean r15_4).toInt by omega), (show (vp_nar .boolean r15_4).toInt ≤ 1 by omega)⟩
        · have g47 : r10_4.toInt ≠ (0 : Int32).toInt := fun z => h_41 (Int32.toInt_inj.mp z)
          refine ok_bd.mpr ((o_fX3_passRun hIσ2  ).mono (fun σ13_4 ho_49 => ?_))
          obtain ⟨hIσ13_4, hcσ13_4⟩ := ho_49
          have hfσ13_4 : Fr fr_fX3_readWord_K7 σ σ13_4 := Fr_c hfσ2 hcσ13_4 (by decide)
          have sσ13_4_46_6 : (σ13_4.1 46 6).toInt = (σ2.1 46 6).toInt := by rw [(hcσ13_4 46 6 (by decide) (by decide)).1]
          refine ok_some.mpr ?_
          have f50 : (1 : Int32).toInt = 1 := by decide
          exact ⟨hIσ13_4, hfσ13_4, (show 0 ≤ (1 : Int32).toInt by omega), (show (1 : Int32).toInt ≤ 1 by omega)⟩
      · have f51 : (0 : Int32).toInt = 0 := by decide
        have g52 : (0 : Int32).toInt ≠ (0 : Int32).toInt := fun z => h_36 (Int32.toInt_inj.mp z)
        exfalso
        omega
set_option maxRecDepth 20000 in
set_option maxHeartbeats 2000000 in
theorem o_fX3_readNumber {σ : gS} (hIσ : JC σ) {p1 : Int32} {p2 : Int32}  : Ok (fX3_readNumber σ p1 p2) (fun out => JC out.2 ∧ Fr fr_fX3_readNumber σ out.2 ∧ 0 ≤ out.1.toInt ∧ out.1.toInt ≤ 1) := by
  unfold fX3_readNumber
  have hfσ : Fr fr_fX3_readNumber σ σ := Fr_r
  have f1 : 0 ≤ (σ.1 46 6).toInt ∧ (σ.1 46 6).toInt ≤ 1600 := hIσ 46 6
  have f2 : 0 ≤ (σ.1 46 7).toInt ∧ (σ.1 46 7).toInt ≤ 1600 := hIσ 46 7
  have f3 : (48 : Int32).toInt = 48 := by decide
  have f4 : (57 : Int32).toInt = 57 := by decide
  refine ok_bd.mpr ((o_fX3_markRun hIσ (p1 := (48 : Int32)) (p2 := (57 : Int32)) ).mono (fun σ2 ho_6 => ?_))
  obtain ⟨hIσ2, hcσ2⟩ := ho_6
  have hfσ2 : Fr fr_fX3_readNumber σ σ2 := Fr_c hfσ hcσ2 (by decide)
  have sσ2_46_11 : (σ2.1 46 11).toInt = (σ.1 46 11).toInt := by rw [(hcσ2 46 11 (by decide) (by decide)).1]
  refine ok_bd.mpr ?_
  try unfold fX3_isNoRun
  refine ok_ite.mpr ⟨fun h_7 => ?_, fun h_7 => ?_⟩
  · have f8 : 0 ≤ (σ2.1 46 6).toInt ∧ (σ2.1 46 6).toInt ≤ 1600 := hIσ2 46 6
    have f9 : 0 ≤ (σ2.1 46 7).toInt ∧ (σ2.1 46 7).toInt ≤ 1600 := hIσ2 46 7
    have g10 : (σ2.1 46 6).toInt = (σ2.1 46 7).toInt := by rw [h_7]
    refine ok_some.mpr ?_
    refine ok_ite.mpr ⟨fun h_11 => ?_, fun h_11 => ?_⟩
    · have f12 : (1 : Int32).toInt = 1 := by decide
      have f13 : (0 : Int32).toInt = 0 := by decide
      have g14 : (1 : Int32).toInt = (0 : Int32).toInt := by rw [h_11]
      exfalso
      omega
    · have f15 : (1 : Int32).toInt = 1 := by decide
      have f16 : (0 : Int32).toInt = 0 := by decide
      have g17 : (1 : Int32).toInt ≠ (0 : Int32).toInt := fun z => h_11 (Int32.toInt_inj.mp z)
      refine ok_bd2.mpr ((o_fX3_fail hIσ2 (p1 := (1 : Int32)) (p2 := (σ2.1 46 6)) ).mono (fun o_18 ho_19 => ?_))
      obtain ⟨r27_2, σ28_2⟩ := o_18
      obtain ⟨hIσ28_2, hcσ28_2, r0r27_2, r1r27_2⟩ := ho_19
      dsimp only at hIσ28_2 hcσ28_2 r0r27_2 r1r27_2 ⊢
      have hfσ28_2 : Fr fr_fX3_readNumber σ σ28_2 := Fr_c hfσ2 hcσ28_2 (by decide)
      have sσ28_2_46_6 : (σ28_2.1 46 6).toInt = (σ2.1 46 6).toInt := by rw [(hcσ28_2 46 6 (by decide) (by decide)).1]
      have sσ28_2_46_7 : (σ28_2.1 46 7).toInt = (σ2.1 46 7).toInt := by rw [(hcσ28_2 46 7 (by decide) (by decide)).1]
      have sσ28_2_46_11 : (σ28_2.1 46 11).toInt = (σ2.1 46 11).toInt := by rw [(hcσ28_2 46 11 (by decide) (by decide)).1]
      refine ok_some.mpr ?_
      have f20 : (vp_nar .boolean r27_2).toInt = r27_2.toInt := nar_bool2 (by omega) (by omega)
      exact ⟨hIσ28_2, hfσ28_2, (show 0 ≤ (vp_nar .boolean r27_2).toInt by omega), (show (vp_nar .boolean r27_2).toInt ≤ 1 by omega)⟩
  · have f21 : 0 ≤ (σ2.1 46 6).toInt ∧ (σ2.1 46 6).toInt ≤ 1600 := hIσ2 46 6
    have f22 : 0 ≤ (σ2.1 46 7).toInt ∧ (σ2.1 46 7).toInt ≤ 1600 := hIσ2 46 7
    have g23 : (σ2.1 46 6).toInt ≠ (σ2.1 46 7).toInt := fun z => h_7 (Int32.toInt_inj.mp z)
    refine ok_ite.mpr ⟨fun h_24 => ?_, fun h_24 => ?_⟩
    · have g25 : (σ2.1 46 6).toInt = (σ2.1 46 8).toInt := by rw [h_24]
      refine ok_some.mpr ?_
      refine ok_ite.mpr ⟨fun h_26 => ?_, fun h_26 => ?_⟩
      · have f27 : (1 : Int32).toInt = 1 := by decide
        have f28 : (0 : Int32).toInt = 0 := by decide
        have g29 : (1 : Int32).toInt = (0 : Int32).toInt := by rw [h_26]
        exfalso
        omega
      · have f30 : (1 : Int32).toInt = 1 := by decide
        have f31 : (0 : Int32).toInt = 0 := by decide
        have g32 : (1 : Int32).toInt ≠ (0 : Int32).toInt := fun z => h_26 (Int32.toInt_inj.mp z)
        refine ok_bd2.mpr ((o_fX3_fail hIσ2 (p1 := (1 : Int32)) (p2 := (σ2.1 46 6)) ).mono (fun o_33 ho_34 => ?_))
        obtain ⟨r27_3, σ28_3⟩ := o_33
        obtain ⟨hIσ28_3, hcσ28_3, r0r27_3, r1r27_3⟩ := ho_34
        dsimp only at hIσ28_3 hcσ28_3 r0r27_3 r1r27_3 ⊢
        have hfσ28_3 : Fr fr_fX3_readNumber σ σ28_3 := Fr_c hfσ2 hcσ28_3 (by decide)
        have sσ28_3_46_6 : (σ28_3.1 46 6).toInt = (σ2.1 46 6).toInt := by rw [(hcσ28_3 46 6 (by decide) (by decide)).1]
        have sσ28_3_46_7 : (σ28_3.1 46 7).toInt = (σ2.1 46 7).toInt := by rw [(hcσ28_3 46 7 (by decide) (by decide)).1]
        have sσ28_3_46_11 : (σ28_3.1 46 11).toInt = (σ2.1 46 11).toInt := by rw [(hcσ28_3 46 11 (by decide) (by decide)).1]
        refine ok_some.mpr ?_
        have f35 : (vp_nar .boolean r27_3).toInt = r27_3.toInt := nar_bool2 (by omega) (by omega)
        exact ⟨hIσ28_3, hfσ28_3, (show 0 ≤ (vp_nar .boolean r27_3).toInt by omega), (show (vp_nar .boolean r27_3).toInt ≤ 1 by omega)⟩
    · have g36 : (σ2.1 46 6).toInt ≠ (σ2.1 46 8).toInt := fun z => h_24 (Int32.toInt_inj.mp z)
      refine ok_some.mpr ?_
      refine ok_ite.mpr ⟨fun h_37 => ?_, fun h_37 => ?_⟩
      · have f38 : (0 : Int32).toInt = 0 := by decide
        have g39 : (0 : Int32).toInt = (0 : Int32).toInt := by rw [h_37]
        refine ok_ite.mpr ⟨fun h_40 => ?_, fun h_40 => ?_⟩
        · have f41 : ((σ2.1 46 7) - (σ2.1 46 6)).toInt = (σ2.1 46 7).toInt - (σ2.1 46 6).toInt := isub_toInt (by omega) (by omega)
          have f42 : (4 : Int32).toInt = 4 := by decide
          have g43 : ((σ2.1 46 7) - (σ2.1 46 6)).toInt ≤ (4 : Int32).toInt := Int32.le_iff_toInt_le.mp h_40
          refine ok_nm2 (fun σ7_4 eσ7_4 => ?_)
          have hIσ7_4 : JC σ7_4 := by rw [eσ7_4]; exact JC_w hIσ2 (Int32.le_toInt _) (Int32.toInt_le _)
          have hfσ7_4 : Fr fr_fX3_readNumber σ σ7_4 := by rw [eσ7_4]; exact Fr_w hfσ2 (by decide)
          have sσ7_4_46_6 : (σ7_4.1 46 6).toInt = (σ2.1 46 6).toInt := by rw [eσ7_4]; rfl
          have sσ7_4_46_7 : (σ7_4.1 46 7).toInt = (σ2.1 46 7).toInt := by rw [eσ7_4]; rfl
          have sσ7_4_46_11 : (σ7_4.1 46 11).toInt = (0 : Int32).toInt := by rw [eσ7_4]; rfl
          refine ok_nm2 (fun x8_4 ex8_4 => ?_)
          have f44 : 0 ≤ (σ7_4.1 46 6).toInt ∧ (σ7_4.1 46 6).toInt ≤ 1600 := hIσ7_4 46 6
          have qx8_4 : x8_4.toInt = (σ7_4.1 46 6).toInt := congrArg Int32.toInt ex8_4
          refine ok_lpc (I := fun n s => n = (1600 + 1 - s.1.toInt).toNat ∧ JC s.2 ∧ Fr fr_fX3_readNumber σ s.2 ∧ 0 ≤ s.1.toInt ∧ s.1.toInt ≤ 1600) (fun rec60_5r n_5 s_5 hs_5 hrec_5 => ?_) K9 ((1600 + 1 - x8_4.toInt).toNat) (x8_4, σ7_4) ⟨rfl, hIσ7_4, hfσ7_4, (show 0 ≤ x8_4.toInt by omega), (show x8_4.toInt ≤ 1600 by omega)⟩ (by unfold K9; omega)
          obtain ⟨a3_5, σ1_5⟩ := s_5
          obtain ⟨hn_5, hIσ1_5, hfσ1_5, b0a3_5, b1a3_5⟩ := hs_5
          dsimp only at hn_5 hIσ1_5 hfσ1_5 b0a3_5 b1a3_5
          unfold bX3_readNumber_60
          try dsimp only
          refine ok_ite.mpr ⟨fun h_45 => ?_, fun h_45 => ?_⟩
          · have f46 : 0 ≤ (σ1_5.1 46 7).toInt ∧ (σ1_5.1 46 7).toInt ≤ 1600 := hIσ1_5 46 7
            have g47 : (σ1_5.1 46 7).toInt ≤ a3_5.toInt := Int32.le_iff_toInt_le.mp h_45
            refine ok_bd.mpr ((o_fX3_passRun hIσ1_5  ).mono (fun σ11_6 ho_49 => ?_))
            obtain ⟨hIσ11_6, hcσ11_6⟩ := ho_49
            have hfσ11_6 : Fr fr_fX3_readNumber σ σ11_6 := Fr_c hfσ1_5 hcσ11_6 (by decide)
            have sσ11_6_46_6 : (σ11_6.1 46 6).toInt = (σ1_5.1 46 6).toInt := by rw [(hcσ11_6 46 6 (by decide) (by decide)).1]
            have sσ11_6_46_7 : (σ11_6.1 46 7).toInt = (σ1_5.1 46 7).toInt := by rw [(hcσ11_6 46 7 (by decide) (by decide)).1]
            have sσ11_6_46_11 : (σ11_6.1 46 11).toInt = (σ1_5.1 46 11).toInt := by rw [(hcσ11_6 46 11 (by decide) (by decide)).1]
            refine ok_ite.mpr ⟨fun h_50 => ?_, fun h_50 => ?_⟩
            · have g51 : (σ11_6.1 46 11).toInt < p1.toInt := Int32.lt_iff_toInt_lt.mp h_50
              have f52 : (2 : Int32).toInt = 2 := by decide
              have f53 : 0 ≤ (σ11_6.1 46 6).toInt ∧ (σ11_6.1 46 6).toInt ≤ 1600 := hIσ11_6 46 6
              refine ok_bd2.mpr ((o_fX3_fail hIσ11_6 (p1 := (2 : Int32)) (p2 := (σ11_6.1 46 6)) ).mono (fun o_54 ho_55 => ?_))
              obtain ⟨r14_6, σ15_6⟩ := o_54
              obtain ⟨hIσ15_6, hcσ15_6, r0r14_6, r1r14_6⟩ := ho_55
              dsimp only at hIσ15_6 hcσ15_6 r0r14_6 r1r14_6 ⊢
              have hfσ15_6 : Fr fr_fX3_readNumber σ σ15_6 := Fr_c hfσ11_6 hcσ15_6 (by decide)
              have sσ15_6_46_6 : (σ15_6.1 46 6).toInt = (σ11_6.1 46 6).toInt := by rw [(hcσ15_6 46 6 (by decide) (by decide)).1]
              have sσ15_6_46_7 : (σ15_6.1 46 7).toInt = (σ11_6.1 46 7).toInt := by rw [(hcσ15_6 46 7 (by decide) (by decide)).1]
              have sσ15_6_46_11 : (σ15_6.1 46 11).toInt = (σ11_6.1 46 11).toInt := by rw [(hcσ15_6 46 11 (by decide) (by decide)).1]
              refine ok_some.mpr ?_
              have f56 : (vp_nar .boolean r14_6).toInt = r14_6.toInt := nar_bool2 (by omega) (by omega)
              exact ⟨hIσ15_6, hfσ15_6, (show 0 ≤ (vp_nar .boolean r14_6).toInt by omega), (show (vp_nar .boolean r14_6).toInt ≤ 1 by omega)⟩
            · have g57 : ¬ (σ11_6.1 46 11).toInt < p1.toInt := fun z => h_50 (Int32.lt_iff_toInt_lt.mpr z)
              refine ok_ite.mpr ⟨fun h_58 => ?_, fun h_58 => ?_⟩
              · have g59 : (σ11_6.1 46 11).toInt ≤ p2.toInt := Int32.le_iff_toInt_le.mp h_58
                refine ok_some.mpr ?_
                have f60 : (1 : Int32).toInt = 1 := by decide
                exact ⟨hIσ11_6, hfσ11_6, (show 0 ≤ (1 : Int32).toInt by omega), (show (1 : Int32).toInt ≤ 1 by omega)⟩
              · have g61 : ¬ (σ11_6.1 46 11).toInt ≤ p2.toInt := fun z => h_58 (Int32.le_iff_toInt_le.mpr z)
                have f62 : (2 : Int32).toInt = 2 := by decide
                have f63 : 0 ≤ (σ11_6.1 46 6).toInt ∧ (σ11_6.1 46 6).toInt ≤ 1600 := hIσ11_6 46 6
                refine ok_bd2.mpr ((o_fX3_fail hIσ11_6 (p1 := (2 : Int32)) (p2 := (σ11_6.1 46 6)) ).mono (fun o_64 ho_65 => ?_))
                obtain ⟨r18_6, σ19_6⟩ := o_64
                obtain ⟨hIσ19_6, hcσ19_6, r0r18_6, r1r18_6⟩ := ho_65
                dsimp only at hIσ19_6 hcσ19_6 r0r18_6 r1r18_6 ⊢
                have hfσ19_6 : Fr fr_fX3_readNumber σ σ19_6 := Fr_c hfσ11_6 hcσ19_6 (by decide)
                have sσ19_6_46_6 : (σ19_6.1 46 6).toInt = (σ11_6.1 46 6).toInt := by rw [(hcσ19_6 46 6 (by decide) (by decide)).1]
                have sσ19_6_46_7 : (σ19_6.1 46 7).toInt = (σ11_6.1 46 7).toInt := by rw [(hcσ19_6 46 7 (by decide) (by decide)).1]
                have sσ19_6_46_11 : (σ19_6.1 46 11).toInt = (σ11_6.1 46 11).toInt := by rw [(hcσ19_6 46 11 (by decide) (by decide)).1]
                refine ok_some.mpr ?_
                have f66 : (vp_nar .boolean r18_6).toInt = r18_6.toInt := nar_bool2 (by omega) (by omega)
                exact ⟨hIσ19_6, hfσ19_6, (show 0 ≤ (vp_nar .boolean r18_6).toInt by omega), (show (vp_nar .boolean r18_6).toInt ≤ 1 by omega)⟩
          · have f67 : 0 ≤ (σ1_5.1 46 7).toInt ∧ (σ1_5.1 46 7).toInt ≤ 1600 := hIσ1_5 46 7
            have g68 : ¬ (σ1_5.1 46 7).toInt ≤ a3_5.toInt := fun z => h_45 (Int32.le_iff_toInt_le.mpr z)
            refine ok_gd.mpr ⟨gb_of (by omega) (by omega), ?_⟩
            refine ok_nm2 (fun v20_6 ev20_6 => ?_)
            have qv20_6 : v20_6.toInt = (σ1_5.1 1 a3_5.toNatClampNeg).toInt := congrArg Int32.toInt ev20_6
            refine ok_nm2 (fun σ21_6 eσ21_6 => ?_)
            have f69 : (10 : Int32).toInt = 10 := by decide
            have hIσ21_6 : JC σ21_6 := by rw [eσ21_6]; exact JC_w hIσ1_5 (Int32.le_toInt _) (Int32.toInt_le _)
            have hfσ21_6 : Fr fr_fX3_readNumber σ σ21_6 := by rw [eσ21_6]; exact Fr_w hfσ1_5 (by decide)
            have sσ21_6_46_6 : (σ21_6.1 46 6).toInt = (σ1_5.1 46 6).toInt := by rw [eσ21_6]; rfl
            have sσ21_6_46_7 : (σ21_6.1 46 7).toInt = (σ1_5.1 46 7).toInt := by rw [eσ21_6]; rfl
            have sσ21_6_46_11 : (σ21_6.1 46 11).toInt = (((10 * (σ1_5.1 46 11)) + v20_6) - 48).toInt := by rw [eσ21_6]; rfl
            refine ok_nm2 (fun x22_6 ex22_6 => ?_)
            have f70 : (1 : Int32).toInt = 1 := by decide
            have f71 : (a3_5 + (1 : Int32)).toInt = a3_5.toInt + (1 : Int32).toInt := iadd_toInt (by omega) (by omega)
            have qx22_6 : x22_6.toInt = (a3_5 + 1).toInt := congrArg Int32.toInt ex22_6
            exact hrec_5 _ (x22_6, σ21_6) (show (1600 + 1 - x22_6.toInt).toNat < n_5 by omega) ⟨rfl, hIσ21_6, hfσ21_6, (show 0 ≤ x22_6.toInt by omega), (show x22_6.toInt ≤ 1600 by omega)⟩
        · have f72 : ((σ2.1 46 7) - (σ2.1 46 6)).toInt = (σ2.1 46 7).toInt - (σ2.1 46 6).toInt := isub_toInt (by omega) (by omega)
          have f73 : (4 : Int32).toInt = 4 := by decide
          have g74 : ¬ ((σ2.1 46 7) - (σ2.1 46 6)).toInt ≤ (4 : Int32).toInt := fun z => h_40 (Int32.le_iff_toInt_le.mpr z)
          have f75 : (1 : Int32).toInt = 1 := by decide
          have f76 : ((σ2.1 46 6) + (4 : Int32)).toInt = (σ2.1 46 6).toInt + (4 : Int32).toInt := iadd_toInt (by omega) (by omega)
          refine ok_bd2.mpr ((o_fX3_fail hIσ2 (p1 := (1 : Int32)) (p2 := ((σ2.1 46 6) + 4)) ).mono (fun o_77 ho_78 => ?_))
          obtain ⟨r24_4, σ25_4⟩ := o_77
          obtain ⟨hIσ25_4, hcσ25_4, r0r24_4, r1r24_4⟩ := ho_78
          dsimp only at hIσ25_4 hcσ25_4 r0r24_4 r1r24_4 ⊢
          have hfσ25_4 : Fr fr_fX3_readNumber σ σ25_4 := Fr_c hfσ2 hcσ25_4 (by decide)
          have sσ25_4_46_6 : (σ25_4.1 46 6).toInt = (σ2.1 46 6).toInt := by rw [(hcσ25_4 46 6 (by decide) (by decide)).1]
          have sσ25_4_46_7 : (σ25_4.1 46 7).toInt = (σ2.1 46 7).toInt := by rw [(hcσ25_4 46 7 (by decide) (by decide)).1]
          have sσ25_4_46_11 : (σ25_4.1 46 11).toInt = (σ2.1 46 11).toInt := by rw [(hcσ25_4 46 11 (by decide) (by decide)).1]
          refine ok_some.mpr ?_
          have f79 : (vp_nar .boolean r24_4).toInt = r24_4.toInt := nar_bool2 (by omega) (by omega)
          exact ⟨hIσ25_4, hfσ25_4, (show 0 ≤ (vp_nar .boolean r24_4).toInt by omega), (show (vp_nar .boolean r24_4).toInt ≤ 1 by omega)⟩
      · have f80 : (0 : Int32).toInt = 0 := by decide
        have g81 : (0 : Int32).toInt ≠ (0 : Int32).toInt := fun z => h_37 (Int32.toInt_inj.mp z)
        exfalso
        omega
set_option maxRecDepth 20000 in
set_option maxHeartbeats 2000000 in
theorem o_fX3_readTurn {σ : gS} (hIσ : JC σ)   : Ok (fX3_readTurn σ ) (fun out => JC out.2 ∧ Fr fr_fX3_readTurn σ out.2 ∧ 0 ≤ out.1.toInt ∧ out.1.toInt ≤ 1) := by
  unfold fX3_readTurn
  have hfσ : Fr fr_fX3_readTurn σ σ := Fr_r
  have f1 : 0 ≤ (σ.1 46 6).toInt ∧ (σ.1 46 6).toInt ≤ 1600 := hIσ 46 6
  have f2 : (97 : Int32).toInt = 97 := by decide
  have f3 : (122 : Int32).toInt = 122 := by decide
  refine ok_bd.mpr ((o_fX3_markRun hIσ (p1 := (97 : Int32)) (p2 := (122 : Int32)) ).mono (fun σ2 ho_5 => ?_))
  obtain ⟨hIσ2, hcσ2⟩ := ho_5
  have hfσ2 : Fr fr_fX3_readTurn σ σ2 := Fr_c hfσ hcσ2 (by decide)
  have sσ2_46_8 : (σ2.1 46 8).toInt = (σ.1 46 8).toInt := by rw [(hcσ2 46 8 (by decide) (by decide)).1]
  refine ok_ite.mpr ⟨fun h_6 => ?_, fun h_6 => ?_⟩
  · have f7 : 0 ≤ (σ2.1 46 6).toInt ∧ (σ2.1 46 6).toInt ≤ 1600 := hIσ2 46 6
    have g8 : (σ2.1 46 6).toInt = (σ2.1 46 8).toInt := by rw [h_6]
    have f9 : (0 : Int32).toInt = 0 := by decide
    have f10 : (3 : Int32).toInt = 3 := by decide
    refine ok_bd2.mpr ((o_fX3_readNumber hIσ2 (p1 := (0 : Int32)) (p2 := (3 : Int32)) ).mono (fun o_11 ho_12 => ?_))
    obtain ⟨r5, σ6⟩ := o_11
    obtain ⟨hIσ6, hcσ6, r0r5, r1r5⟩ := ho_12
    dsimp only at hIσ6 hcσ6 r0r5 r1r5 ⊢
    have hfσ6 : Fr fr_fX3_readTurn σ σ6 := Fr_c hfσ2 hcσ6 (by decide)
    refine ok_some.mpr ?_
    have f13 : (vp_nar .boolean r5).toInt = r5.toInt := nar_bool2 (by omega) (by omega)
    exact ⟨hIσ6, hfσ6, (show 0 ≤ (vp_nar .boolean r5).toInt by omega), (show (vp_nar .boolean r5).toInt ≤ 1 by omega)⟩
  · have f14 : 0 ≤ (σ2.1 46 6).toInt ∧ (σ2.1 46 6).toInt ≤ 1600 := hIσ2 46 6
    have g15 : (σ2.1 46 6).toInt ≠ (σ2.1 46 8).toInt := fun z => h_6 (Int32.toInt_inj.mp z)
    refine ok_bd.mpr ((o_fX3_isWord_K8 hIσ2  ).mono (fun r8 ho_17 => ?_))
    obtain ⟨r0r8, r1r8⟩ := ho_17
    refine ok_ite.mpr ⟨fun h_18 => ?_, fun h_18 => ?_⟩
    · have f19 : (0 : Int32).toInt = 0 := by decide
      have g20 : r8.toInt = (0 : Int32).toInt := by rw [h_18]
      have f21 : (3 : Int32).toInt = 3 := by decide
      refine ok_bd2.mpr ((o_fX3_readNumber hIσ2 (p1 := (0 : Int32)) (p2 := (3 : Int32)) ).mono (fun o_22 ho_23 => ?_))
      obtain ⟨r11, σ12⟩ := o_22
      obtain ⟨hIσ12, hcσ12, r0r11, r1r11⟩ := ho_23
      dsimp only at hIσ12 hcσ12 r0r11 r1r11 ⊢
      have hfσ12 : Fr fr_fX3_readTurn σ σ12 := Fr_c hfσ2 hcσ12 (by decide)
      refine ok_some.mpr ?_
      have f24 : (vp_nar .boolean r11).toInt = r11.toInt := nar_bool2 (by omega) (by omega)
      exact ⟨hIσ12, hfσ12, (show 0 ≤ (vp_nar .boolean r11).toInt by omega), (show (vp_nar .boolean r11).toInt ≤ 1 by omega)⟩
    · have f25 : (0 : Int32).toInt = 0 := by decide
      have g26 : r8.toInt ≠ (0 : Int32).toInt := fun z => h_18 (Int32.toInt_inj.mp z)
      refine ok_bd.mpr ((o_fX3_passRun hIσ2  ).mono (fun σ14 ho_28 => ?_))
      obtain ⟨hIσ14, hcσ14⟩ := ho_28
      have hfσ14 : Fr fr_fX3_readTurn σ σ14 := Fr_c hfσ2 hcσ14 (by decide)
      have sσ14_46_6 : (σ14.1 46 6).toInt = (σ2.1 46 6).toInt := by rw [(hcσ14 46 6 (by decide) (by decide)).1]
      refine ok_nm2 (fun σ15 eσ15 => ?_)
      have hIσ15 : JC σ15 := by rw [eσ15]; exact JC_w hIσ14 (Int32.le_toInt _) (Int32.toInt_le _)
      have hfσ15 : Fr fr_fX3_readTurn σ σ15 := by rw [eσ15]; exact Fr_w hfσ14 (by decide)
      have sσ15_46_6 : (σ15.1 46 6).toInt = (σ14.1 46 6).toInt := by rw [eσ15]; rfl
      have sσ15_46_8 : (σ15.1 46 8).toInt = (σ14.1 46 8).toInt := by rw [eσ15]; rfl
      refine ok_some.mpr ?_
      have f29 : (1 : Int32).toInt = 1 := by decide
      exact ⟨hIσ15, hfσ15, (show 0 ≤ (1 : Int32).toInt by omega), (show (1 : Int32).toInt ≤ 1 by omega)⟩
theorem o_fX8_addNamed_24 {σ : gS} (hIσ : JC σ) {p1 : Int32} {p2 : Int32} (h0p1 : 0 ≤ p1.toInt) (h1p1 : p1.toInt ≤ 2) : Ok (fX8_addNamed_24 σ p1 p2) (fun out => JC out ∧ Fr fr_fX8_addNamed_24 σ out) := by
  unfold fX8_addNamed_24
  refine ok_bd.mpr ((o_fX8_isFull_24 hIσ (p1 := p1) h0p1 (by omega)).mono (fun r hr => ok_ite.mpr ⟨fun h => ?_, fun _ => ok_some.mpr ⟨hIσ, Fr_r⟩⟩))
  have hr0 : r.toInt = 0 := by rw [h]; decide
  have hf := hr.2.2 hr0
  have fin : ∀ (K : Nat) (cap : Int), p1.toInt = (K : Int) → K ≤ 2 → kbC 25 K = (0, cap) → cap ≤ 20 → (σ.1 25 K).toInt + 1 ≤ cap → Ok (gd (gb p1 3) <| gd (gb p1 6) <| nm (σ.1 25 p1.toNatClampNeg) fun v5 => gd (gb v5 20) <| nm (gsI σ (27 + p1.toNatClampNeg) v5.toNatClampNeg p2) fun σ6 => gd (gb p1 6) <| nm (σ6.1 25 p1.toNatClampNeg) fun v7 => gd (gb p1 6) <| nm (gsI σ6 25 p1.toNatClampNeg (v7 + 1)) fun σ8 => some σ8) (fun out => JC out ∧ Fr fr_fX8_addNamed_24 σ out) := fun K cap hk hK hkb hcap hc => by
    have hn : p1.toNatClampNeg = K := by rw [n_toInt]; omega
    have hb := hIσ 25 K
    rw [hkb] at hb
    dsimp only at hb
    rw [hn]
    refine ok_gd.mpr ⟨gb_of h0p1 (by omega), ok_gd.mpr ⟨gb_of h0p1 (by omega), ok_nm.mpr (ok_gd.mpr ⟨gb_of hb.1 (by omega), ok_nm.mpr (ok_gd.mpr ⟨gb_of h0p1 (by omega), ok_nm.mpr (ok_gd.mpr ⟨gb_of h0p1 (by omega), ok_nm.mpr (ok_some.mpr ?_)⟩)⟩)⟩)⟩⟩
    have e : (gsI σ (27 + K) (σ.1 25 K).toNatClampNeg p2).1 25 K = σ.1 25 K := by rw [gsI_1, if_neg (fun z => by have := z.1; omega)]
    rw [e]
    have e1 : (σ.1 25 K + 1).toInt = (σ.1 25 K).toInt + 1 := i_inc (c := 20) (by omega) (by omega) (by decide)
    refine ⟨JC_w (JC_w27 hIσ (by omega) (by omega) (Int32.le_toInt _) (Int32.toInt_le _)) ?_ ?_, Fr_w0 (Fr_w0 Fr_r ?_) (by decide)⟩
    · rw [hkb]; show 0 ≤ (σ.1 25 K + 1).toInt; omega
    · rw [hkb]; show (σ.1 25 K + 1).toInt ≤ cap; omega
    · have hj : K = 0 ∨ K = 1 ∨ K = 2 := by omega
      rcases hj with rfl | rfl | rfl <;> decide
  have hj : p1.toInt = 0 ∨ p1.toInt = 1 ∨ p1.toInt = 2 := by omega
  rcases hj with hj | hj | hj
  · exact fin 0 6 hj (by decide) rfl (by decide) (by have := hf.1 hj; omega)
  · exact fin 1 12 hj (by decide) rfl (by decide) (by have := hf.2.1 hj; omega)
  · exact fin 2 20 hj (by decide) rfl (by decide) (by have := hf.2.2.1 hj; omega)
set_option maxRecDepth 20000 in
set_option maxHeartbeats 2000000 in
theorem o_fX8_addPicture_24 {σ : gS} (hIσ : JC σ) {p1 : Int32} {p2 : Int32} {p3 : Int32} (h0p2 : 0 ≤ p2.toInt) (h1p2 : p2.toInt ≤ 5) : Ok (fX8_addPicture_24 σ p1 p2 p3) (fun out => JC out ∧ Fr fr_fX8_addPicture_24 σ out) := by
  unfold fX8_addPicture_24
  have hfσ : Fr fr_fX8_addPicture_24 σ σ := Fr_r
  have f1 : 0 ≤ (σ.1 25 0).toInt ∧ (σ.1 25 0).toInt ≤ 6 := hIσ 25 0
  have f2 : 0 ≤ (σ.1 25 1).toInt ∧ (σ.1 25 1).toInt ≤ 12 := hIσ 25 1
  have f3 : 0 ≤ (σ.1 25 2).toInt ∧ (σ.1 25 2).toInt ≤ 20 := hIσ 25 2
  have f4 : 0 ≤ (σ.1 25 3).toInt ∧ (σ.1 25 3).toInt ≤ 60 := hIσ 25 3
  have f5 : (1 : Int32).toInt = 1 := by decide
  refine ok_bd.mpr ((o_fX8_isFull_24 hIσ (p1 := (1 : Int32)) (by omega) (by omega)).mono (fun r2 ho_7 => ?_))
  obtain ⟨r0r2, r1r2, hp_8⟩ := ho_7
  refine ok_ite.mpr ⟨fun h_9 => ?_, fun h_9 => ?_⟩
  · have f10 : (0 : Int32).toInt = 0 := by decide
    have g11 : r2.toInt = (0 : Int32).toInt := by rw [h_9]
    refine ok_gd.mpr ⟨gb_of (by omega) (by omega), ?_⟩
    refine ok_nm2 (fun v4 ev4 => ?_)
    have qv4 : v4.toInt = (σ.1 25 1).toInt := congrArg Int32.toInt ev4
    refine ok_gd.mpr ⟨gb_of (by omega) (by omega), ?_⟩
    refine ok_nm2 (fun σ5 eσ5 => ?_)
    have hIσ5 : JC σ5 := by
      have hz : v4.toNatClampNeg = v4.toInt.toNat := rfl
      have hj : v4.toNatClampNeg = 0 ∨ v4.toNatClampNeg = 1 ∨ v4.toNatClampNeg = 2 ∨ v4.toNatClampNeg = 3 ∨ v4.toNatClampNeg = 4 ∨ v4.toNatClampNeg = 5 ∨ v4.toNatClampNeg = 6 ∨ v4.toNatClampNeg = 7 ∨ v4.toNatClampNeg = 8 ∨ v4.toNatClampNeg = 9 ∨ v4.toNatClampNeg = 10 ∨ v4.toNatClampNeg = 11 := by omega
      rw [eσ5]
      refine JC_w hIσ ?_ ?_
      · rcases hj with hj | hj | hj | hj | hj | hj | hj | hj | hj | hj | hj | hj <;> rw [hj]
        · show 0 ≤ _; omega
        · show 0 ≤ _; omega
        · show 0 ≤ _; omega
        · show 0 ≤ _; omega
        · show 0 ≤ _; omega
        · show 0 ≤ _; omega
        · show 0 ≤ _; omega
        · show 0 ≤ _; omega
        · show 0 ≤ _; omega
        · show 0 ≤ _; omega
        · show 0 ≤ _; omega
        · show 0 ≤ _; omega
      · rcases hj with hj | hj | hj | hj | hj | hj | hj | hj | hj | hj | hj | hj <;> rw [hj]
        · show _ ≤ 5; omega
        · show _ ≤ 5; omega
        · show _ ≤ 5; omega
        · show _ ≤ 5; omega
        · show _ ≤ 5; omega
        · show _ ≤ 5; omega
        · show _ ≤ 5; omega
        · show _ ≤ 5; omega
        · show _ ≤ 5; omega
        · show _ ≤ 5; omega
        · show _ ≤ 5; omega
        · show _ ≤ 5; omega
    have hfσ5 : Fr fr_fX8_addPicture_24 σ σ5 := by rw [eσ5]; exact Fr_w0 hfσ (by decide)
    have sσ5_25_0 : (σ5.1 25 0).toInt = (σ.1 25 0).toInt := by rw [eσ5]; rfl
    have sσ5_25_1 : (σ5.1 25 1).toInt = (σ.1 25 1).toInt := by rw [eσ5]; rfl
    have sσ5_25_2 : (σ5.1 25 2).toInt = (σ.1 25 2).toInt := by rw [eσ5]; rfl
    have sσ5_25_3 : (σ5.1 25 3).toInt = (σ.1 25 3).toInt := by rw [eσ5]; rfl
    refine ok_gd.mpr ⟨gb_of (by omega) (by omega), ?_⟩
    refine ok_nm2 (fun v6 ev6 => ?_)
    have f12 : 0 ≤ (σ5.1 25 1).toInt ∧ (σ5.1 25 1).toInt ≤ 12 := hIσ5 25 1
    have qv6 : v6.toInt = (σ5.1 25 1).toInt := congrArg Int32.toInt ev6
    refine ok_gd.mpr ⟨gb_of (by omega) (by omega), ?_⟩
    refine ok_nm2 (fun σ7 eσ7 => ?_)
    have hIσ7 : JC σ7 := by rw [eσ7]; exact JC_w hIσ5 (Int32.le_toInt _) (Int32.toInt_le _)
    have hfσ7 : Fr fr_fX8_addPicture_24 σ σ7 := by rw [eσ7]; exact Fr_w0 hfσ5 (by decide)
    have sσ7_25_0 : (σ7.1 25 0).toInt = (σ5.1 25 0).toInt := by rw [eσ7]; rfl
    have sσ7_25_1 : (σ7.1 25 1).toInt = (σ5.1 25 1).toInt := by rw [eσ7]; rfl
    have sσ7_25_2 : (σ7.1 25 2).toInt = (σ5.1 25 2).toInt := by rw [eσ7]; rfl
    have sσ7_25_3 : (σ7.1 25 3).toInt = (σ5.1 25 3).toInt := by rw [eσ7]; rfl
    refine ok_bd.mpr ((o_fX8_addNamed_24 hIσ7 (p1 := (1 : Int32)) (p2 := p1) (by omega) (by omega)).mono (fun σ9 ho_14 => ?_))
    obtain ⟨hIσ9, hcσ9⟩ := ho_14
    have hfσ9 : Fr fr_fX8_addPicture_24 σ σ9 := Fr_c hfσ7 hcσ9 (by decide)
    refine ok_some.mpr ?_
    exact ⟨hIσ9, hfσ9⟩
  · have f15 : (0 : Int32).toInt = 0 := by decide
    have g16 : r2.toInt ≠ (0 : Int32).toInt := fun z => h_9 (Int32.toInt_inj.mp z)
    refine ok_some.mpr ?_
    exact ⟨hIσ, hfσ⟩
set_option maxRecDepth 20000 in
set_option maxHeartbeats 2000000 in
theorem o_fX3_readPicture {σ : gS} (hIσ : JC σ)   : Ok (fX3_readPicture σ ) (fun out => JC out.2 ∧ Fr fr_fX3_readPicture σ out.2 ∧ 0 ≤ out.1.toInt ∧ out.1.toInt ≤ 1) := by
  unfold fX3_readPicture
  have hfσ : Fr fr_fX3_readPicture σ σ := Fr_r
  have f1 : -1 ≤ (σ.1 46 10).toInt ∧ (σ.1 46 10).toInt ≤ 19 := hIσ 46 10
  have f2 : (-1 : Int32).toInt = -1 := by decide
  refine ok_bd2.mpr ((o_fX3_readName hIσ (p1 := (-1 : Int32)) (by omega) (by omega)).mono (fun o_3 ho_4 => ?_))
  obtain ⟨r2, σ3⟩ := o_3
  obtain ⟨hIσ3, hcσ3, r0r2, r1r2, hp_5⟩ := ho_4
  dsimp only at hIσ3 hcσ3 r0r2 r1r2 hp_5 ⊢
  have hfσ3 : Fr fr_fX3_readPicture σ σ3 := Fr_c hfσ hcσ3 (by decide)
  have sσ3_46_11 : (σ3.1 46 11).toInt = (σ.1 46 11).toInt := by rw [(hcσ3 46 11 (by decide) (by decide)).1]
  refine ok_ite.mpr ⟨fun h_6 => ?_, fun h_6 => ?_⟩
  · have f7 : (0 : Int32).toInt = 0 := by decide
    have g8 : r2.toInt = (0 : Int32).toInt := by rw [h_6]
    refine ok_some.mpr ?_
    exact ⟨hIσ3, hfσ3, (show 0 ≤ (0 : Int32).toInt by omega), (show (0 : Int32).toInt ≤ 1 by omega)⟩
  · have f9 : (0 : Int32).toInt = 0 := by decide
    have g10 : r2.toInt ≠ (0 : Int32).toInt := fun z => h_6 (Int32.toInt_inj.mp z)
    refine ok_nm2 (fun x5 ex5 => ?_)
    have qx5 : x5.toInt = (σ3.1 46 9).toInt := congrArg Int32.toInt ex5
    refine ok_bd2.mpr ((o_fX3_readWord_K6 hIσ3  ).mono (fun o_11 ho_12 => ?_))
    obtain ⟨r7, σ8⟩ := o_11
    obtain ⟨hIσ8, hcσ8, r0r7, r1r7⟩ := ho_12
    dsimp only at hIσ8 hcσ8 r0r7 r1r7 ⊢
    have hfσ8 : Fr fr_fX3_readPicture σ σ8 := Fr_c hfσ3 hcσ8 (by decide)
    have sσ8_46_9 : (σ8.1 46 9).toInt = (σ3.1 46 9).toInt := by rw [(hcσ8 46 9 (by decide) (by decide)).1]
    have sσ8_46_10 : (σ8.1 46 10).toInt = (σ3.1 46 10).toInt := by rw [(hcσ8 46 10 (by decide) (by decide)).1]
    have sσ8_46_11 : (σ8.1 46 11).toInt = (σ3.1 46 11).toInt := by rw [(hcσ8 46 11 (by decide) (by decide)).1]
    refine ok_ite.mpr ⟨fun h_13 => ?_, fun h_13 => ?_⟩
    · have g14 : r7.toInt = (0 : Int32).toInt := by rw [h_13]
      refine ok_some.mpr ?_
      exact ⟨hIσ8, hfσ8, (show 0 ≤ (0 : Int32).toInt by omega), (show (0 : Int32).toInt ≤ 1 by omega)⟩
    · have g15 : r7.toInt ≠ (0 : Int32).toInt := fun z => h_13 (Int32.toInt_inj.mp z)
      refine ok_bd2.mpr ((o_fX3_readName hIσ8 (p1 := (0 : Int32)) (by omega) (by omega)).mono (fun o_16 ho_17 => ?_))
      obtain ⟨r11, σ12⟩ := o_16
      obtain ⟨hIσ12, hcσ12, r0r11, r1r11, hp_18⟩ := ho_17
      dsimp only at hIσ12 hcσ12 r0r11 r1r11 hp_18 ⊢
      have hfσ12 : Fr fr_fX3_readPicture σ σ12 := Fr_c hfσ8 hcσ12 (by decide)
      have sσ12_46_11 : (σ12.1 46 11).toInt = (σ8.1 46 11).toInt := by rw [(hcσ12 46 11 (by decide) (by decide)).1]
      refine ok_ite.mpr ⟨fun h_19 => ?_, fun h_19 => ?_⟩
      · have g20 : r11.toInt = (0 : Int32).toInt := by rw [h_19]
        refine ok_some.mpr ?_
        exact ⟨hIσ12, hfσ12, (show 0 ≤ (0 : Int32).toInt by omega), (show (0 : Int32).toInt ≤ 1 by omega)⟩
      · have g21 : r11.toInt ≠ (0 : Int32).toInt := fun z => h_19 (Int32.toInt_inj.mp z)
        refine ok_bd2.mpr ((o_fX3_readWord_K7 hIσ12  ).mono (fun o_22 ho_23 => ?_))
        obtain ⟨r15, σ16⟩ := o_22
        obtain ⟨hIσ16, hcσ16, r0r15, r1r15⟩ := ho_23
        dsimp only at hIσ16 hcσ16 r0r15 r1r15 ⊢
        have hfσ16 : Fr fr_fX3_readPicture σ σ16 := Fr_c hfσ12 hcσ16 (by decide)
        have sσ16_46_9 : (σ16.1 46 9).toInt = (σ12.1 46 9).toInt := by rw [(hcσ16 46 9 (by decide) (by decide)).1]
        have sσ16_46_10 : (σ16.1 46 10).toInt = (σ12.1 46 10).toInt := by rw [(hcσ16 46 10 (by decide) (by decide)).1]
        have sσ16_46_11 : (σ16.1 46 11).toInt = (σ12.1 46 11).toInt := by rw [(hcσ16 46 11 (by decide) (by decide)).1]
        refine ok_ite.mpr ⟨fun h_24 => ?_, fun h_24 => ?_⟩
        · have g25 : r15.toInt = (0 : Int32).toInt := by rw [h_24]
          refine ok_some.mpr ?_
          exact ⟨hIσ16, hfσ16, (show 0 ≤ (0 : Int32).toInt by omega), (show (0 : Int32).toInt ≤ 1 by omega)⟩
        · have g26 : r15.toInt ≠ (0 : Int32).toInt := fun z => h_24 (Int32.toInt_inj.mp z)
          refine ok_bd2.mpr ((o_fX3_readTurn hIσ16  ).mono (fun o_27 ho_28 => ?_))
          obtain ⟨r19, σ20⟩ := o_27
          obtain ⟨hIσ20, hcσ20, r0r19, r1r19⟩ := ho_28
          dsimp only at hIσ20 hcσ20 r0r19 r1r19 ⊢
          have hfσ20 : Fr fr_fX3_readPicture σ σ20 := Fr_c hfσ16 hcσ20 (by decide)
          have sσ20_46_9 : (σ20.1 46 9).toInt = (σ16.1 46 9).toInt := by rw [(hcσ20 46 9 (by decide) (by decide)).1]
          have sσ20_46_10 : (σ20.1 46 10).toInt = (σ16.1 46 10).toInt := by rw [(hcσ20 46 10 (by decide) (by decide)).1]
          refine ok_ite.mpr ⟨fun h_29 => ?_, fun h_29 => ?_⟩
          · have g30 : r19.toInt = (0 : Int32).toInt := by rw [h_29]
            refine ok_some.mpr ?_
            exact ⟨hIσ20, hfσ20, (show 0 ≤ (0 : Int32).toInt by omega), (show (0 : Int32).toInt ≤ 1 by omega)⟩
          · have g31 : r19.toInt ≠ (0 : Int32).toInt := fun z => h_29 (Int32.toInt_inj.mp z)
            have f32 : -1 ≤ (σ20.1 46 10).toInt ∧ (σ20.1 46 10).toInt ≤ 19 := hIσ20 46 10
            refine ok_bd.mpr ((o_fX8_addPicture_24 hIσ20 (p1 := x5) (p2 := (σ20.1 46 10)) (p3 := (σ20.1 46 11)) (by omega) (by omega)).mono (fun σ23 ho_34 => ?_))
            obtain ⟨hIσ23, hcσ23⟩ := ho_34
            have hfσ23 : Fr fr_fX3_readPicture σ σ23 := Fr_c hfσ20 hcσ23 (by decide)
            have sσ23_46_9 : (σ23.1 46 9).toInt = (σ20.1 46 9).toInt := by rw [(hcσ23 46 9 (by decide) (by decide)).1]
            have sσ23_46_10 : (σ23.1 46 10).toInt = (σ20.1 46 10).toInt := by rw [(hcσ23 46 10 (by decide) (by decide)).1]
            have sσ23_46_11 : (σ23.1 46 11).toInt = (σ20.1 46 11).toInt := by rw [(hcσ23 46 11 (by decide) (by decide)).1]
            refine ok_some.mpr ?_
            have f35 : (1 : Int32).toInt = 1 := by decide
            exact ⟨hIσ23, hfσ23, (show 0 ≤ (1 : Int32).toInt by omega), (show (1 : Int32).toInt ≤ 1 by omega)⟩
set_option maxRecDepth 20000 in
set_option maxHeartbeats 2000000 in
theorem o_fX3_readSemicolon {σ : gS} (hIσ : JC σ)   : Ok (fX3_readSemicolon σ ) (fun out => JC out.2 ∧ Fr fr_fX3_readSemicolon σ out.2 ∧ 0 ≤ out.1.toInt ∧ out.1.toInt ≤ 1) := by
  unfold fX3_readSemicolon
  have hfσ : Fr fr_fX3_readSemicolon σ σ := Fr_r
  have f1 : 0 ≤ (σ.1 46 4).toInt ∧ (σ.1 46 4).toInt ≤ 1600 := hIσ 46 4
  have f2 : 0 ≤ (σ.1 46 5).toInt ∧ (σ.1 46 5).toInt ≤ 1600 := hIσ 46 5
  refine ok_bd.mpr ((o_fX3_skipBlanks hIσ  ).mono (fun σ2 ho_4 => ?_))
  obtain ⟨hIσ2, hcσ2⟩ := ho_4
  have hfσ2 : Fr fr_fX3_readSemicolon σ σ2 := Fr_c hfσ hcσ2 (by decide)
  have sσ2_46_4 : (σ2.1 46 4).toInt = (σ.1 46 4).toInt := by rw [(hcσ2 46 4 (by decide) (by decide)).1]
  refine ok_ite.mpr ⟨fun h_5 => ?_, fun h_5 => ?_⟩
  · have f6 : 0 ≤ (σ2.1 46 4).toInt ∧ (σ2.1 46 4).toInt ≤ 1600 := hIσ2 46 4
    have f7 : 0 ≤ (σ2.1 46 5).toInt ∧ (σ2.1 46 5).toInt ≤ 1600 := hIσ2 46 5
    have g8 : (σ2.1 46 4).toInt ≤ (σ2.1 46 5).toInt := Int32.le_iff_toInt_le.mp h_5
    have f9 : (1 : Int32).toInt = 1 := by decide
    refine ok_bd2.mpr ((o_fX3_fail hIσ2 (p1 := (1 : Int32)) (p2 := (σ2.1 46 5)) ).mono (fun o_10 ho_11 => ?_))
    obtain ⟨r5, σ6⟩ := o_10
    obtain ⟨hIσ6, hcσ6, r0r5, r1r5⟩ := ho_11
    dsimp only at hIσ6 hcσ6 r0r5 r1r5 ⊢
    have hfσ6 : Fr fr_fX3_readSemicolon σ σ6 := Fr_c hfσ2 hcσ6 (by decide)
    have sσ6_46_4 : (σ6.1 46 4).toInt = (σ2.1 46 4).toInt := by rw [(hcσ6 46 4 (by decide) (by decide)).1]
    have sσ6_46_5 : (σ6.1 46 5).toInt = (σ2.1 46 5).toInt := by rw [(hcσ6 46 5 (by decide) (by decide)).1]
    refine ok_some.mpr ?_
    have f12 : (vp_nar .boolean r5).toInt = r5.toInt := nar_bool2 (by omega) (by omega)
    exact ⟨hIσ6, hfσ6, (show 0 ≤ (vp_nar .boolean r5).toInt by omega), (show (vp_nar .boolean r5).toInt ≤ 1 by omega)⟩
  · have f13 : 0 ≤ (σ2.1 46 4).toInt ∧ (σ2.1 46 4).toInt ≤ 1600 := hIσ2 46 4
    have f14 : 0 ≤ (σ2.1 46 5).toInt ∧ (σ2.1 46 5).toInt ≤ 1600 := hIσ2 46 5
    have g15 : ¬ (σ2.1 46 4).toInt ≤ (σ2.1 46 5).toInt := fun z => h_5 (Int32.le_iff_toInt_le.mpr z)
    refine ok_gd.mpr ⟨gb_of (by omega) (by omega), ?_⟩
    refine ok_nm2 (fun v7 ev7 => ?_)
    have qv7 : v7.toInt = (σ2.1 1 (σ2.1 46 5).toNatClampNeg).toInt := congrArg Int32.toInt ev7
    refine ok_ite.mpr ⟨fun h_16 => ?_, fun h_16 => ?_⟩
    · have f17 : (59 : Int32).toInt = 59 := by decide
      have g18 : v7.toInt = (59 : Int32).toInt := by rw [h_16]
      refine ok_nm2 (fun σ9 eσ9 => ?_)
      have f19 : (1 : Int32).toInt = 1 := by decide
      have f20 : ((σ2.1 46 5) + (1 : Int32)).toInt = (σ2.1 46 5).toInt + (1 : Int32).toInt := iadd_toInt (by omega) (by omega)
      have hIσ9 : JC σ9 := by rw [eσ9]; exact JC_w hIσ2 (show 0 ≤ _ by omega) (show _ ≤ 1600 by omega)
      have hfσ9 : Fr fr_fX3_readSemicolon σ σ9 := by rw [eσ9]; exact Fr_w hfσ2 (by decide)
      have sσ9_46_4 : (σ9.1 46 4).toInt = (σ2.1 46 4).toInt := by rw [eσ9]; rfl
      have sσ9_46_5 : (σ9.1 46 5).toInt = ((σ2.1 46 5) + 1).toInt := by rw [eσ9]; rfl
      refine ok_some.mpr ?_
      exact ⟨hIσ9, hfσ9, (show 0 ≤ (1 : Int32).toInt by omega), (show (1 : Int32).toInt ≤ 1 by omega)⟩
    · have f21 : (59 : Int32).toInt = 59 := by decide
      have g22 : v7.toInt ≠ (59 : Int32).toInt := fun z => h_16 (Int32.toInt_inj.mp z)
      have f23 : (1 : Int32).toInt = 1 := by decide
      refine ok_bd2.mpr ((o_fX3_fail hIσ2 (p1 := (1 : Int32)) (p2 := (σ2.1 46 5)) ).mono (fun o_24 ho_25 => ?_))
      obtain ⟨r11, σ12⟩ := o_24
      obtain ⟨hIσ12, hcσ12, r0r11, r1r11⟩ := ho_25
      dsimp only at hIσ12 hcσ12 r0r11 r1r11 ⊢
      have hfσ12 : Fr fr_fX3_readSemicolon σ σ12 := Fr_c hfσ2 hcσ12 (by decide)
      have sσ12_46_4 : (σ12.1 46 4).toInt = (σ2.1 46 4).toInt := by rw [(hcσ12 46 4 (by decide) (by decide)).1]
      have sσ12_46_5 : (σ12.1 46 5).toInt = (σ2.1 46 5).toInt := by rw [(hcσ12 46 5 (by decide) (by decide)).1]
      refine ok_some.mpr ?_
      have f26 : (vp_nar .boolean r11).toInt = r11.toInt := nar_bool2 (by omega) (by omega)
      exact ⟨hIσ12, hfσ12, (show 0 ≤ (vp_nar .boolean r11).toInt by omega), (show (vp_nar .boolean r11).toInt ≤ 1 by omega)⟩
