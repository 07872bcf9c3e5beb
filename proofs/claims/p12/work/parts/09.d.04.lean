/-! comes through, c 4 -/
set_option maxRecDepth 20000 in
set_option maxHeartbeats 2000000 in
theorem o_fX5_placeFixed_47 {σ : gS} (hIσ : JC σ)   : Ok (fX5_placeFixed_47 σ ) (fun out => JC out ∧ Fr fr_fX5_placeFixed_47 σ out) := by
  unfold fX5_placeFixed_47
  have hfσ : Fr fr_fX5_placeFixed_47 σ σ := Fr_r
  refine ok_nm2 (fun x1 ex1 => ?_)
  have f1 : (0 : Int32).toInt = 0 := by decide
  have qx1 : x1.toInt = 0 := by rw [ex1]; decide
  refine ok_lpc (I := fun n s => n = (20 + 1 - s.1.toInt).toNat ∧ JC s.2 ∧ Fr fr_fX5_placeFixed_47 σ s.2 ∧ 0 ≤ s.1.toInt ∧ s.1.toInt ≤ 20) (fun rec2_1r n_1 s_1 hs_1 hrec_1 => ?_) K9 ((20 + 1 - x1.toInt).toNat) (x1, σ) ⟨rfl, hIσ, hfσ, (show 0 ≤ x1.toInt by omega), (show x1.toInt ≤ 20 by omega)⟩ (by unfold K9; omega)
  obtain ⟨a1_1, σ1_1⟩ := s_1
  obtain ⟨hn_1, hIσ1_1, hfσ1_1, b0a1_1, b1a1_1⟩ := hs_1
  dsimp only at hn_1 hIσ1_1 hfσ1_1 b0a1_1 b1a1_1
  unfold bX5_placeFixed_47_2
  try dsimp only
  have f2 : (2 : Int32).toInt = 2 := by decide
  refine ok_gd.mpr ⟨gb_of (by omega) (by omega), ?_⟩
  refine ok_nm2 (fun v2_35 ev2_35 => ?_)
  have f3 : 0 ≤ (σ1_1.1 3 2).toInt ∧ (σ1_1.1 3 2).toInt ≤ 20 := hIσ1_1 3 2
  have qv2_35 : v2_35.toInt = (σ1_1.1 3 2).toInt := congrArg Int32.toInt ev2_35
  refine ok_ite.mpr ⟨fun h_4 => ?_, fun h_4 => ?_⟩
  · have g5 : v2_35.toInt ≤ a1_1.toInt := Int32.le_iff_toInt_le.mp h_4
    refine ok_some.mpr ?_
    exact ⟨hIσ1_1, hfσ1_1⟩
  · have g6 : ¬ v2_35.toInt ≤ a1_1.toInt := fun z => h_4 (Int32.le_iff_toInt_le.mpr z)
    refine ok_bd.mpr ?_
    try unfold fX5_isFixed_47
    refine ok_gd.mpr ⟨gb_of (by omega) (by omega), ?_⟩
    refine ok_nm2 (fun v1_36 ev1_36 => ?_)
    have qv1_36 : v1_36.toInt = (σ1_1.1 16 a1_1.toNatClampNeg).toInt := congrArg Int32.toInt ev1_36
    refine ok_ite.mpr ⟨fun h_7 => ?_, fun h_7 => ?_⟩
    · have g8 : (v1_36 &&& (σ1_1.1 47 1)).toInt = (0 : Int32).toInt := by rw [h_7]
      refine ok_some.mpr ?_
      refine ok_ite.mpr ⟨fun h_9 => ?_, fun h_9 => ?_⟩
      · have g10 : (0 : Int32).toInt = (0 : Int32).toInt := by rw [h_9]
        refine ok_nm2 (fun x16_35_37 ex16_35_37 => ?_)
        have f11 : (1 : Int32).toInt = 1 := by decide
        have f12 : (a1_1 + (1 : Int32)).toInt = a1_1.toInt + (1 : Int32).toInt := iadd_toInt (by omega) (by omega)
        have qx16_35_37 : x16_35_37.toInt = (a1_1 + 1).toInt := congrArg Int32.toInt ex16_35_37
        exact hrec_1 _ (x16_35_37, σ1_1) (show (20 + 1 - x16_35_37.toInt).toNat < n_1 by omega) ⟨rfl, hIσ1_1, hfσ1_1, (show 0 ≤ x16_35_37.toInt by omega), (show x16_35_37.toInt ≤ 20 by omega)⟩
      · have g13 : (0 : Int32).toInt ≠ (0 : Int32).toInt := fun z => h_9 (Int32.toInt_inj.mp z)
        exfalso
        omega
    · have g14 : (v1_36 &&& (σ1_1.1 47 1)).toInt ≠ (0 : Int32).toInt := fun z => h_7 (Int32.toInt_inj.mp z)
      refine ok_some.mpr ?_
      refine ok_ite.mpr ⟨fun h_15 => ?_, fun h_15 => ?_⟩
      · have f16 : (1 : Int32).toInt = 1 := by decide
        have g17 : (1 : Int32).toInt = (0 : Int32).toInt := by rw [h_15]
        exfalso
        omega
      · have f18 : (1 : Int32).toInt = 1 := by decide
        have g19 : (1 : Int32).toInt ≠ (0 : Int32).toInt := fun z => h_15 (Int32.toInt_inj.mp z)
        refine ok_gd.mpr ⟨gb_of (by omega) (by omega), ?_⟩
        refine ok_bd.mpr ?_
        try unfold fX5_fixedAt_47
        refine ok_gd.mpr ⟨gb_of (by omega) (by omega), ?_⟩
        refine ok_gd.mpr ⟨gb_of (by omega) (by omega), ?_⟩
        refine ok_nm2 (fun v2_39 ev2_39 => ?_)
        have qv2_39 : v2_39.toInt = (σ1_1.1 (18 + (0 : Int32).toNatClampNeg) a1_1.toNatClampNeg).toInt := congrArg Int32.toInt ev2_39
        refine ok_some.mpr ?_
        refine ok_gd.mpr ⟨gb_of (by omega) (by omega), ?_⟩
        refine ok_nm2 (fun σ10_35_38_40 eσ10_35_38_40 => ?_)
        have hIσ10_35_38_40 : JC σ10_35_38_40 := by rw [eσ10_35_38_40]; exact JC_w hIσ1_1 (Int32.le_toInt _) (Int32.toInt_le _)
        have hfσ10_35_38_40 : Fr fr_fX5_placeFixed_47 σ σ10_35_38_40 := by rw [eσ10_35_38_40]; exact Fr_w0 hfσ1_1 (by decide)
        refine ok_gd.mpr ⟨gb_of (by omega) (by omega), ?_⟩
        refine ok_bd.mpr ?_
        try unfold fX5_fixedAt_47
        refine ok_gd.mpr ⟨gb_of (by omega) (by omega), ?_⟩
        refine ok_gd.mpr ⟨gb_of (by omega) (by omega), ?_⟩
        refine ok_nm2 (fun v2_41 ev2_41 => ?_)
        have qv2_41 : v2_41.toInt = (σ10_35_38_40.1 (18 + (1 : Int32).toNatClampNeg) a1_1.toNatClampNeg).toInt := congrArg Int32.toInt ev2_41
        refine ok_some.mpr ?_
        refine ok_gd.mpr ⟨gb_of (by omega) (by omega), ?_⟩
        refine ok_nm2 (fun σ14_35_38_40_42 eσ14_35_38_40_42 => ?_)
        have hIσ14_35_38_40_42 : JC σ14_35_38_40_42 := by rw [eσ14_35_38_40_42]; exact JC_w hIσ10_35_38_40 (Int32.le_toInt _) (Int32.toInt_le _)
        have hfσ14_35_38_40_42 : Fr fr_fX5_placeFixed_47 σ σ14_35_38_40_42 := by rw [eσ14_35_38_40_42]; exact Fr_w0 hfσ10_35_38_40 (by decide)
        refine ok_nm2 (fun x15_35_38_40_42 ex15_35_38_40_42 => ?_)
        have f20 : (a1_1 + (1 : Int32)).toInt = a1_1.toInt + (1 : Int32).toInt := iadd_toInt (by omega) (by omega)
        have qx15_35_38_40_42 : x15_35_38_40_42.toInt = (a1_1 + 1).toInt := congrArg Int32.toInt ex15_35_38_40_42
        exact hrec_1 _ (x15_35_38_40_42, σ14_35_38_40_42) (show (20 + 1 - x15_35_38_40_42.toInt).toNat < n_1 by omega) ⟨rfl, hIσ14_35_38_40_42, hfσ14_35_38_40_42, (show 0 ≤ x15_35_38_40_42.toInt by omega), (show x15_35_38_40_42.toInt ≤ 20 by omega)⟩
set_option maxRecDepth 20000 in
set_option maxHeartbeats 2000000 in
theorem o_fX5_uses_47 {σ : gS} (hIσ : JC σ) {p1 : Int32} (h0p1 : 0 ≤ p1.toInt) (h1p1 : p1.toInt ≤ 59) : Ok (fX5_uses_47 σ p1) (fun out => 0 ≤ out.toInt ∧ out.toInt ≤ 1) := by
  unfold fX5_uses_47
  refine ok_gd.mpr ⟨gb_of (by omega) (by omega), ?_⟩
  refine ok_nm2 (fun v1 ev1 => ?_)
  have qv1 : v1.toInt = (σ.1 58 p1.toNatClampNeg).toInt := congrArg Int32.toInt ev1
  refine ok_ite.mpr ⟨fun h_1 => ?_, fun h_1 => ?_⟩
  · have f2 : (0 : Int32).toInt = 0 := by decide
    have g3 : v1.toInt = (0 : Int32).toInt := by rw [h_1]
    refine ok_some.mpr ?_
    have f4 : (1 : Int32).toInt = 1 := by decide
    exact ⟨(show 0 ≤ (1 : Int32).toInt by omega), (show (1 : Int32).toInt ≤ 1 by omega)⟩
  · have f5 : (0 : Int32).toInt = 0 := by decide
    have g6 : v1.toInt ≠ (0 : Int32).toInt := fun z => h_1 (Int32.toInt_inj.mp z)
    refine ok_some.mpr ?_
    exact ⟨(show 0 ≤ (0 : Int32).toInt by omega), (show (0 : Int32).toInt ≤ 1 by omega)⟩
set_option maxRecDepth 20000 in
set_option maxHeartbeats 2000000 in
theorem o_fX8_turnedBy_2 {σ : gS} (hIσ : JC σ) {p1 : Int32} {p2 : Int32} {p3 : Int32} (h0p2 : 0 ≤ p2.toInt) (h1p2 : p2.toInt ≤ 59) : Ok (fX8_turnedBy_2 σ p1 p2 p3) (fun _ => True) := by
  unfold fX8_turnedBy_2
  refine ok_ite.mpr ⟨fun h_1 => ?_, fun h_1 => ?_⟩
  · have f2 : (0 : Int32).toInt = 0 := by decide
    have g3 : p3.toInt = (0 : Int32).toInt := by rw [h_1]
    try unfold jX8_turnedBy_2_15
    refine ok_nm2 (fun x2_1 ex2_1 => ?_)
    have f4 : 0 ≤ (p1 &&& 3).toInt ∧ (p1 &&& 3).toInt ≤ 3 := iand_toInt (by decide) (by decide)
    have qx2_1 : x2_1.toInt = (p1 &&& 3).toInt := congrArg Int32.toInt ex2_1
    refine ok_gd.mpr ⟨gb_of (by omega) (by omega), ?_⟩
    refine ok_gd.mpr ⟨gb_of (by omega) (by omega), ?_⟩
    refine ok_nm2 (fun v4_1 ev4_1 => ?_)
    have qv4_1 : v4_1.toInt = (σ.1 13 p2.toNatClampNeg).toInt := congrArg Int32.toInt ev4_1
    refine ok_nm2 (fun x5_1 ex5_1 => ?_)
    have f5 : (100 : Int32).toInt = 100 := by decide
    have qx5_1 : x5_1.toInt = (100 * v4_1).toInt := congrArg Int32.toInt ex5_1
    have f6 : (1 : Int32).toInt = 1 := by decide
    refine ok_gd.mpr ⟨gb_of (by omega) (by omega), ?_⟩
    refine ok_gd.mpr ⟨gb_of (by omega) (by omega), ?_⟩
    refine ok_nm2 (fun v7_1 ev7_1 => ?_)
    have qv7_1 : v7_1.toInt = (σ.1 14 p2.toNatClampNeg).toInt := congrArg Int32.toInt ev7_1
    refine ok_nm2 (fun x8_1 ex8_1 => ?_)
    have qx8_1 : x8_1.toInt = (100 * v7_1).toInt := congrArg Int32.toInt ex8_1
    refine ok_ite.mpr ⟨fun h_7 => ?_, fun h_7 => ?_⟩
    · have g8 : x2_1.toInt = (0 : Int32).toInt := by rw [h_7]
      refine ok_some.mpr ?_
      exact trivial
    · have g9 : x2_1.toInt ≠ (0 : Int32).toInt := fun z => h_7 (Int32.toInt_inj.mp z)
      refine ok_ite.mpr ⟨fun h_10 => ?_, fun h_10 => ?_⟩
      · have g11 : x2_1.toInt = (1 : Int32).toInt := by rw [h_10]
        refine ok_some.mpr ?_
        exact trivial
      · have g12 : x2_1.toInt ≠ (1 : Int32).toInt := fun z => h_10 (Int32.toInt_inj.mp z)
        refine ok_ite.mpr ⟨fun h_13 => ?_, fun h_13 => ?_⟩
        · have f14 : (2 : Int32).toInt = 2 := by decide
          have g15 : x2_1.toInt = (2 : Int32).toInt := by rw [h_13]
          refine ok_some.mpr ?_
          exact trivial
        · have f16 : (2 : Int32).toInt = 2 := by decide
          have g17 : x2_1.toInt ≠ (2 : Int32).toInt := fun z => h_13 (Int32.toInt_inj.mp z)
          refine ok_some.mpr ?_
          exact trivial
  · have f18 : (0 : Int32).toInt = 0 := by decide
    have g19 : p3.toInt ≠ (0 : Int32).toInt := fun z => h_1 (Int32.toInt_inj.mp z)
    try unfold jX8_turnedBy_2_15
    refine ok_nm2 (fun x2_2 ex2_2 => ?_)
    have f20 : 0 ≤ ((p1 + 3) &&& 3).toInt ∧ ((p1 + 3) &&& 3).toInt ≤ 3 := iand_toInt (by decide) (by decide)
    have qx2_2 : x2_2.toInt = ((p1 + 3) &&& 3).toInt := congrArg Int32.toInt ex2_2
    refine ok_gd.mpr ⟨gb_of (by omega) (by omega), ?_⟩
    refine ok_gd.mpr ⟨gb_of (by omega) (by omega), ?_⟩
    refine ok_nm2 (fun v4_2 ev4_2 => ?_)
    have qv4_2 : v4_2.toInt = (σ.1 13 p2.toNatClampNeg).toInt := congrArg Int32.toInt ev4_2
    refine ok_nm2 (fun x5_2 ex5_2 => ?_)
    have f21 : (100 : Int32).toInt = 100 := by decide
    have qx5_2 : x5_2.toInt = (100 * v4_2).toInt := congrArg Int32.toInt ex5_2
    have f22 : (1 : Int32).toInt = 1 := by decide
    refine ok_gd.mpr ⟨gb_of (by omega) (by omega), ?_⟩
    refine ok_gd.mpr ⟨gb_of (by omega) (by omega), ?_⟩
    refine ok_nm2 (fun v7_2 ev7_2 => ?_)
    have qv7_2 : v7_2.toInt = (σ.1 14 p2.toNatClampNeg).toInt := congrArg Int32.toInt ev7_2
    refine ok_nm2 (fun x8_2 ex8_2 => ?_)
    have qx8_2 : x8_2.toInt = (100 * v7_2).toInt := congrArg Int32.toInt ex8_2
    refine ok_ite.mpr ⟨fun h_23 => ?_, fun h_23 => ?_⟩
    · have g24 : x2_2.toInt = (0 : Int32).toInt := by rw [h_23]
      refine ok_some.mpr ?_
      exact trivial
    · have g25 : x2_2.toInt ≠ (0 : Int32).toInt := fun z => h_23 (Int32.toInt_inj.mp z)
      refine ok_ite.mpr ⟨fun h_26 => ?_, fun h_26 => ?_⟩
      · have g27 : x2_2.toInt = (1 : Int32).toInt := by rw [h_26]
        refine ok_some.mpr ?_
        exact trivial
      · have g28 : x2_2.toInt ≠ (1 : Int32).toInt := fun z => h_26 (Int32.toInt_inj.mp z)
        refine ok_ite.mpr ⟨fun h_29 => ?_, fun h_29 => ?_⟩
        · have f30 : (2 : Int32).toInt = 2 := by decide
          have g31 : x2_2.toInt = (2 : Int32).toInt := by rw [h_29]
          refine ok_some.mpr ?_
          exact trivial
        · have f32 : (2 : Int32).toInt = 2 := by decide
          have g33 : x2_2.toInt ≠ (2 : Int32).toInt := fun z => h_29 (Int32.toInt_inj.mp z)
          refine ok_some.mpr ?_
          exact trivial
set_option maxRecDepth 20000 in
set_option maxHeartbeats 2000000 in
theorem o_fX5_putAt_47 {σ : gS} (hIσ : JC σ) {p1 : Int32} {p2 : Int32} (h0p1 : 0 ≤ p1.toInt) (h1p1 : p1.toInt ≤ 59) (h0p2 : 0 ≤ p2.toInt) (h1p2 : p2.toInt ≤ 1) : Ok (fX5_putAt_47 σ p1 p2) (fun _ => True) := by
  unfold fX5_putAt_47
  refine ok_gd.mpr ⟨gb_of (by omega) (by omega), ?_⟩
  refine ok_nm2 (fun v1 ev1 => ?_)
  have f1 : 0 ≤ (σ.1 10 p1.toNatClampNeg).toInt ∧ (σ.1 10 p1.toNatClampNeg).toInt ≤ 11 := hIσ 10 _
  have qv1 : v1.toInt = (σ.1 10 p1.toNatClampNeg).toInt := congrArg Int32.toInt ev1
  refine ok_nm.mpr ?_
  refine ok_gd.mpr ⟨gb_of (by omega) (by omega), ?_⟩
  refine ok_gd.mpr ⟨gb_of (by omega) (by omega), ?_⟩
  refine ok_nm2 (fun v4_1 ev4_1 => ?_)
  have qv4_1 : v4_1.toInt = (σ.1 (50 + p2.toNatClampNeg) v1.toNatClampNeg).toInt := congrArg Int32.toInt ev4_1
  refine ok_gd.mpr ⟨gb_of (by omega) (by omega), ?_⟩
  refine ok_nm2 (fun v5_1 ev5_1 => ?_)
  have qv5_1 : v5_1.toInt = (σ.1 48 v1.toNatClampNeg).toInt := congrArg Int32.toInt ev5_1
  refine ok_bd.mpr ((o_fX8_turnedBy_2 hIσ (p1 := v5_1) (p2 := p1) (p3 := p2) (by omega) (by omega)).mono (fun r7_1 ho_3 => ?_))
  refine ok_some.mpr ?_
  exact trivial
set_option maxRecDepth 20000 in
set_option maxHeartbeats 2000000 in
theorem o_fX6_putPoints {σ : gS} (hIσ : JC σ)   : Ok (fX6_putPoints σ ) (fun out => JC out ∧ Fr fr_fX6_putPoints σ out) := by
  unfold fX6_putPoints
  have hfσ : Fr fr_fX6_putPoints σ σ := Fr_r
  have f1 : (3 : Int32).toInt = 3 := by decide
  refine ok_gd.mpr ⟨gb_of (by omega) (by omega), ?_⟩
  refine ok_nm2 (fun v1 ev1 => ?_)
  have f2 : 0 ≤ (σ.1 3 3).toInt ∧ (σ.1 3 3).toInt ≤ 60 := hIσ 3 3
  have qv1 : v1.toInt = (σ.1 3 3).toInt := congrArg Int32.toInt ev1
  refine ok_nm2 (fun x2 ex2 => ?_)
  have f3 : (1 : Int32).toInt = 1 := by decide
  have f4 : (v1 - (1 : Int32)).toInt = v1.toInt - (1 : Int32).toInt := isub_toInt (by omega) (by omega)
  have qx2 : x2.toInt = (v1 - 1).toInt := congrArg Int32.toInt ex2
  have kb6 : -1 ≤ x2.toInt ∧ x2.toInt ≤ 59 := by omega
  have kb5 : 0 ≤ v1.toInt ∧ v1.toInt ≤ 60 := by omega
  refine ok_lpc (I := fun n s => n = (s.1.toInt - (-1) + 1).toNat ∧ JC s.2 ∧ Fr fr_fX6_putPoints σ s.2 ∧ -1 ≤ s.1.toInt ∧ s.1.toInt ≤ 59) (fun rec12_1r n_1 s_1 hs_1 hrec_1 => ?_) K9 ((x2.toInt - (-1) + 1).toNat) (x2, σ) ⟨rfl, hIσ, hfσ, (show -1 ≤ x2.toInt by omega), (show x2.toInt ≤ 59 by omega)⟩ (by unfold K9; omega)
  obtain ⟨a1_1, σ1_1⟩ := s_1
  obtain ⟨hn_1, hIσ1_1, hfσ1_1, b0a1_1, b1a1_1⟩ := hs_1
  dsimp only at hn_1 hIσ1_1 hfσ1_1 b0a1_1 b1a1_1
  unfold bX6_putPoints_12
  try dsimp only
  clear qx2 f4 qv1 f2
  refine ok_ite.mpr ⟨fun h_7 => ?_, fun h_7 => ?_⟩
  · have f8 : (0 : Int32).toInt = 0 := by decide
    have g9 : a1_1.toInt < (0 : Int32).toInt := Int32.lt_iff_toInt_lt.mp h_7
    refine ok_bd.mpr ((o_fX5_placeFixed_47 hIσ1_1  ).mono (fun σ5_4 ho_11 => ?_))
    obtain ⟨hIσ5_4, hcσ5_4⟩ := ho_11
    have hfσ5_4 : Fr fr_fX6_putPoints σ σ5_4 := Fr_c hfσ1_1 hcσ5_4 (by decide)
    refine ok_some.mpr ?_
    exact ⟨hIσ5_4, hfσ5_4⟩
  · have f12 : (0 : Int32).toInt = 0 := by decide
    have g13 : ¬ a1_1.toInt < (0 : Int32).toInt := fun z => h_7 (Int32.lt_iff_toInt_lt.mpr z)
    refine ok_bd.mpr ?_
    try unfold fX5_uses_47
    refine ok_gd.mpr ⟨gb_of (by omega) (by omega), ?_⟩
    refine ok_nm2 (fun v1_5 ev1_5 => ?_)
    have qv1_5 : v1_5.toInt = (σ1_1.1 58 a1_1.toNatClampNeg).toInt := congrArg Int32.toInt ev1_5
    refine ok_ite.mpr ⟨fun h_14 => ?_, fun h_14 => ?_⟩
    · have g15 : v1_5.toInt = (0 : Int32).toInt := by rw [h_14]
      refine ok_some.mpr ?_
      refine ok_ite.mpr ⟨fun h_16 => ?_, fun h_16 => ?_⟩
      · have g17 : (1 : Int32).toInt = (0 : Int32).toInt := by rw [h_16]
        exfalso
        omega
      · have g18 : (1 : Int32).toInt ≠ (0 : Int32).toInt := fun z => h_16 (Int32.toInt_inj.mp z)
        refine ok_gd.mpr ⟨gb_of (by omega) (by omega), ?_⟩
        refine ok_gd.mpr ⟨gb_of (by omega) (by omega), ?_⟩
        refine ok_nm2 (fun v10_4_6 ev10_4_6 => ?_)
        have f19 : 0 ≤ (σ1_1.1 11 a1_1.toNatClampNeg).toInt ∧ (σ1_1.1 11 a1_1.toNatClampNeg).toInt ≤ 19 := hIσ1_1 11 _
        have qv10_4_6 : v10_4_6.toInt = (σ1_1.1 11 a1_1.toNatClampNeg).toInt := congrArg Int32.toInt ev10_4_6
        refine ok_bd.mpr ((o_fX5_putAt_47 hIσ1_1 (p1 := a1_1) (p2 := (0 : Int32)) (by omega) (by omega) (by omega) (by omega)).mono (fun r12_4_6 ho_21 => ?_))
        refine ok_gd.mpr ⟨gb_of (by omega) (by omega), ?_⟩
        refine ok_nm2 (fun σ13_4_6 eσ13_4_6 => ?_)
        have hIσ13_4_6 : JC σ13_4_6 := by rw [eσ13_4_6]; exact JC_w hIσ1_1 (Int32.le_toInt _) (Int32.toInt_le _)
        have hfσ13_4_6 : Fr fr_fX6_putPoints σ σ13_4_6 := by rw [eσ13_4_6]; exact Fr_w0 hfσ1_1 (by decide)
        refine ok_gd.mpr ⟨gb_of (by omega) (by omega), ?_⟩
        refine ok_gd.mpr ⟨gb_of (by omega) (by omega), ?_⟩
        refine ok_nm2 (fun v15_4_6 ev15_4_6 => ?_)
        have f22 : 0 ≤ (σ13_4_6.1 11 a1_1.toNatClampNeg).toInt ∧ (σ13_4_6.1 11 a1_1.toNatClampNeg).toInt ≤ 19 := hIσ13_4_6 11 _
        have qv15_4_6 : v15_4_6.toInt = (σ13_4_6.1 11 a1_1.toNatClampNeg).toInt := congrArg Int32.toInt ev15_4_6
        refine ok_bd.mpr ((o_fX5_putAt_47 hIσ13_4_6 (p1 := a1_1) (p2 := (1 : Int32)) (by omega) (by omega) (by omega) (by omega)).mono (fun r17_4_6 ho_24 => ?_))
        refine ok_gd.mpr ⟨gb_of (by omega) (by omega), ?_⟩
        refine ok_nm2 (fun σ18_4_6 eσ18_4_6 => ?_)
        have hIσ18_4_6 : JC σ18_4_6 := by rw [eσ18_4_6]; exact JC_w hIσ13_4_6 (Int32.le_toInt _) (Int32.toInt_le _)
        have hfσ18_4_6 : Fr fr_fX6_putPoints σ σ18_4_6 := by rw [eσ18_4_6]; exact Fr_w0 hfσ13_4_6 (by decide)
        refine ok_nm2 (fun x19_4_6 ex19_4_6 => ?_)
        have f25 : (a1_1 + (-1 : Int32)).toInt = a1_1.toInt - 1 := iaddn_toInt (by decide) (by omega) (by omega)
        have qx19_4_6 : x19_4_6.toInt = (a1_1 + (-1)).toInt := congrArg Int32.toInt ex19_4_6
        clear qx19_4_6 f25
        have dl26 : 0 ≤ a1_1.toInt := by omega
        have dM26 := w9_dnM ex19_4_6 hn_1 dl26 (by decide)
        have d026 : -1 ≤ x19_4_6.toInt := w9_dn0 ex19_4_6 dl26 (by decide)
        have d126 : x19_4_6.toInt ≤ 59 := w9_dn1 ex19_4_6 dl26 (by decide) b1a1_1
        exact hrec_1 _ (x19_4_6, σ18_4_6) dM26 ⟨rfl, hIσ18_4_6, hfσ18_4_6, d026, d126⟩
    · have g27 : v1_5.toInt ≠ (0 : Int32).toInt := fun z => h_14 (Int32.toInt_inj.mp z)
      refine ok_some.mpr ?_
      refine ok_ite.mpr ⟨fun h_28 => ?_, fun h_28 => ?_⟩
      · have g29 : (0 : Int32).toInt = (0 : Int32).toInt := by rw [h_28]
        refine ok_nm2 (fun x20_4_7 ex20_4_7 => ?_)
        have f30 : (a1_1 + (-1 : Int32)).toInt = a1_1.toInt - 1 := iaddn_toInt (by decide) (by omega) (by omega)
        have qx20_4_7 : x20_4_7.toInt = (a1_1 + (-1)).toInt := congrArg Int32.toInt ex20_4_7
        clear qx20_4_7 f30
        have dl31 : 0 ≤ a1_1.toInt := by omega
        have dM31 := w9_dnM ex20_4_7 hn_1 dl31 (by decide)
        have d031 : -1 ≤ x20_4_7.toInt := w9_dn0 ex20_4_7 dl31 (by decide)
        have d131 : x20_4_7.toInt ≤ 59 := w9_dn1 ex20_4_7 dl31 (by decide) b1a1_1
        exact hrec_1 _ (x20_4_7, σ1_1) dM31 ⟨rfl, hIσ1_1, hfσ1_1, d031, d131⟩
      · have g32 : (0 : Int32).toInt ≠ (0 : Int32).toInt := fun z => h_28 (Int32.toInt_inj.mp z)
        exfalso
        omega
set_option maxRecDepth 20000 in
set_option maxHeartbeats 2000000 in
theorem o_fX6_gatherStarted {σ : gS} (hIσ : JC σ)   : Ok (fX6_gatherStarted σ ) (fun out => JC out ∧ Fr fr_fX6_gatherStarted σ out) := by
  unfold fX6_gatherStarted
  have hfσ : Fr fr_fX6_gatherStarted σ σ := Fr_r
  refine ok_bd.mpr ((o_fill (c := 85) (v := (0 : Int32)) hIσ (by decide) (fun i => ⟨show -2147483648 ≤ (0 : Int32).toInt by decide, show (0 : Int32).toInt ≤ 2147483647 by decide⟩)).mono (fun σ2 ho_1 => ?_))
  obtain ⟨hIσ2, hcσ2, hvσ2⟩ := ho_1
  have hfσ2 : Fr fr_fX6_gatherStarted σ σ2 := Fr_c hfσ hcσ2 (by decide)
  have f2 : (3 : Int32).toInt = 3 := by decide
  refine ok_gd.mpr ⟨gb_of (by omega) (by omega), ?_⟩
  refine ok_nm2 (fun v3 ev3 => ?_)
  have f3 : 0 ≤ (σ2.1 3 3).toInt ∧ (σ2.1 3 3).toInt ≤ 60 := hIσ2 3 3
  have qv3 : v3.toInt = (σ2.1 3 3).toInt := congrArg Int32.toInt ev3
  refine ok_nm2 (fun x4 ex4 => ?_)
  have f4 : (1 : Int32).toInt = 1 := by decide
  have f5 : (v3 - (1 : Int32)).toInt = v3.toInt - (1 : Int32).toInt := isub_toInt (by omega) (by omega)
  have qx4 : x4.toInt = (v3 - 1).toInt := congrArg Int32.toInt ex4
  have kb7 : -1 ≤ x4.toInt ∧ x4.toInt ≤ 59 := by omega
  have kb6 : 0 ≤ v3.toInt ∧ v3.toInt ≤ 60 := by omega
  refine ok_lpc (I := fun n s => n = (s.1.toInt - (-1) + 1).toNat ∧ JC s.2 ∧ Fr fr_fX6_gatherStarted σ s.2 ∧ -1 ≤ s.1.toInt ∧ s.1.toInt ≤ 59) (fun rec20_1r n_1 s_1 hs_1 hrec_1 => ?_) K9 ((x4.toInt - (-1) + 1).toNat) (x4, σ2) ⟨rfl, hIσ2, hfσ2, (show -1 ≤ x4.toInt by omega), (show x4.toInt ≤ 59 by omega)⟩ (by unfold K9; omega)
  obtain ⟨a1_1, σ1_1⟩ := s_1
  obtain ⟨hn_1, hIσ1_1, hfσ1_1, b0a1_1, b1a1_1⟩ := hs_1
  dsimp only at hn_1 hIσ1_1 hfσ1_1 b0a1_1 b1a1_1
  unfold bX6_gatherStarted_20
  try dsimp only
  clear qx4 f5 qv3 f3
  refine ok_ite.mpr ⟨fun h_8 => ?_, fun h_8 => ?_⟩
  · have f9 : (0 : Int32).toInt = 0 := by decide
    have g10 : a1_1.toInt < (0 : Int32).toInt := Int32.lt_iff_toInt_lt.mp h_8
    refine ok_some.mpr ?_
    exact ⟨hIσ1_1, hfσ1_1⟩
  · have f11 : (0 : Int32).toInt = 0 := by decide
    have g12 : ¬ a1_1.toInt < (0 : Int32).toInt := fun z => h_8 (Int32.lt_iff_toInt_lt.mpr z)
    refine ok_bd.mpr ?_
    try unfold fX5_uses_47
    refine ok_gd.mpr ⟨gb_of (by omega) (by omega), ?_⟩
    refine ok_nm2 (fun v1_5 ev1_5 => ?_)
    have qv1_5 : v1_5.toInt = (σ1_1.1 58 a1_1.toNatClampNeg).toInt := congrArg Int32.toInt ev1_5
    refine ok_ite.mpr ⟨fun h_13 => ?_, fun h_13 => ?_⟩
    · have g14 : v1_5.toInt = (0 : Int32).toInt := by rw [h_13]
      refine ok_some.mpr ?_
      refine ok_ite.mpr ⟨fun h_15 => ?_, fun h_15 => ?_⟩
      · have g16 : (1 : Int32).toInt = (0 : Int32).toInt := by rw [h_15]
        exfalso
        omega
      · have g17 : (1 : Int32).toInt ≠ (0 : Int32).toInt := fun z => h_15 (Int32.toInt_inj.mp z)
        refine ok_gd.mpr ⟨gb_of (by omega) (by omega), ?_⟩
        refine ok_nm2 (fun v10_4_6 ev10_4_6 => ?_)
        have f18 : 0 ≤ (σ1_1.1 10 a1_1.toNatClampNeg).toInt ∧ (σ1_1.1 10 a1_1.toNatClampNeg).toInt ≤ 11 := hIσ1_1 10 _
        have qv10_4_6 : v10_4_6.toInt = (σ1_1.1 10 a1_1.toNatClampNeg).toInt := congrArg Int32.toInt ev10_4_6
        refine ok_gd.mpr ⟨gb_of (by omega) (by omega), ?_⟩
        refine ok_nm2 (fun v11_4_6 ev11_4_6 => ?_)
        have qv11_4_6 : v11_4_6.toInt = (σ1_1.1 84 v10_4_6.toNatClampNeg).toInt := congrArg Int32.toInt ev11_4_6
        refine ok_ite.mpr ⟨fun h_19 => ?_, fun h_19 => ?_⟩
        · have g20 : v11_4_6.toInt = (0 : Int32).toInt := by rw [h_19]
          refine ok_nm2 (fun x25_4_6 ex25_4_6 => ?_)
          have f21 : (a1_1 + (-1 : Int32)).toInt = a1_1.toInt - 1 := iaddn_toInt (by decide) (by omega) (by omega)
          have qx25_4_6 : x25_4_6.toInt = (a1_1 + (-1)).toInt := congrArg Int32.toInt ex25_4_6
          clear qx25_4_6 f21
          have dl22 : 0 ≤ a1_1.toInt := by omega
          have dM22 := w9_dnM ex25_4_6 hn_1 dl22 (by decide)
          have d022 : -1 ≤ x25_4_6.toInt := w9_dn0 ex25_4_6 dl22 (by decide)
          have d122 : x25_4_6.toInt ≤ 59 := w9_dn1 ex25_4_6 dl22 (by decide) b1a1_1
          exact hrec_1 _ (x25_4_6, σ1_1) dM22 ⟨rfl, hIσ1_1, hfσ1_1, d022, d122⟩
        · have g23 : v11_4_6.toInt ≠ (0 : Int32).toInt := fun z => h_19 (Int32.toInt_inj.mp z)
          refine ok_gd.mpr ⟨gb_of (by omega) (by omega), ?_⟩
          refine ok_nm2 (fun v13_4_6 ev13_4_6 => ?_)
          have f24 : 0 ≤ (σ1_1.1 11 a1_1.toNatClampNeg).toInt ∧ (σ1_1.1 11 a1_1.toNatClampNeg).toInt ≤ 19 := hIσ1_1 11 _
          have qv13_4_6 : v13_4_6.toInt = (σ1_1.1 11 a1_1.toNatClampNeg).toInt := congrArg Int32.toInt ev13_4_6
          refine ok_nm.mpr ?_
          refine ok_gd.mpr ⟨gb_of (by omega) (by omega), ?_⟩
          refine ok_nm2 (fun σ15_4_6_7 eσ15_4_6_7 => ?_)
          have hIσ15_4_6_7 : JC σ15_4_6_7 := by rw [eσ15_4_6_7]; exact JC_w hIσ1_1 (Int32.le_toInt _) (Int32.toInt_le _)
          have hfσ15_4_6_7 : Fr fr_fX6_gatherStarted σ σ15_4_6_7 := by rw [eσ15_4_6_7]; exact Fr_w0 hfσ1_1 (by decide)
          refine ok_gd.mpr ⟨gb_of (by omega) (by omega), ?_⟩
          refine ok_bd.mpr ((o_fX5_putAt_47 hIσ15_4_6_7 (p1 := a1_1) (p2 := (0 : Int32)) (by omega) (by omega) (by omega) (by omega)).mono (fun r18_4_6_7 ho_26 => ?_))
          refine ok_gd.mpr ⟨gb_of (by omega) (by omega), ?_⟩
          refine ok_nm2 (fun σ19_4_6_7 eσ19_4_6_7 => ?_)
          have hIσ19_4_6_7 : JC σ19_4_6_7 := by rw [eσ19_4_6_7]; exact JC_w hIσ15_4_6_7 (Int32.le_toInt _) (Int32.toInt_le _)
          have hfσ19_4_6_7 : Fr fr_fX6_gatherStarted σ σ19_4_6_7 := by rw [eσ19_4_6_7]; exact Fr_w0 hfσ15_4_6_7 (by decide)
          refine ok_gd.mpr ⟨gb_of (by omega) (by omega), ?_⟩
          refine ok_bd.mpr ((o_fX5_putAt_47 hIσ19_4_6_7 (p1 := a1_1) (p2 := (1 : Int32)) (by omega) (by omega) (by omega) (by omega)).mono (fun r22_4_6_7 ho_28 => ?_))
          refine ok_gd.mpr ⟨gb_of (by omega) (by omega), ?_⟩
          refine ok_nm2 (fun σ23_4_6_7 eσ23_4_6_7 => ?_)
          have hIσ23_4_6_7 : JC σ23_4_6_7 := by rw [eσ23_4_6_7]; exact JC_w hIσ19_4_6_7 (Int32.le_toInt _) (Int32.toInt_le _)
          have hfσ23_4_6_7 : Fr fr_fX6_gatherStarted σ σ23_4_6_7 := by rw [eσ23_4_6_7]; exact Fr_w0 hfσ19_4_6_7 (by decide)
          refine ok_nm2 (fun x24_4_6_7 ex24_4_6_7 => ?_)
          have f29 : (a1_1 + (-1 : Int32)).toInt = a1_1.toInt - 1 := iaddn_toInt (by decide) (by omega) (by omega)
          have qx24_4_6_7 : x24_4_6_7.toInt = (a1_1 + (-1)).toInt := congrArg Int32.toInt ex24_4_6_7
          clear qx24_4_6_7 f29
          have dl30 : 0 ≤ a1_1.toInt := by omega
          have dM30 := w9_dnM ex24_4_6_7 hn_1 dl30 (by decide)
          have d030 : -1 ≤ x24_4_6_7.toInt := w9_dn0 ex24_4_6_7 dl30 (by decide)
          have d130 : x24_4_6_7.toInt ≤ 59 := w9_dn1 ex24_4_6_7 dl30 (by decide) b1a1_1
          exact hrec_1 _ (x24_4_6_7, σ23_4_6_7) dM30 ⟨rfl, hIσ23_4_6_7, hfσ23_4_6_7, d030, d130⟩
    · have g31 : v1_5.toInt ≠ (0 : Int32).toInt := fun z => h_13 (Int32.toInt_inj.mp z)
      refine ok_some.mpr ?_
      refine ok_ite.mpr ⟨fun h_32 => ?_, fun h_32 => ?_⟩
      · have g33 : (0 : Int32).toInt = (0 : Int32).toInt := by rw [h_32]
        refine ok_nm2 (fun x9_4_8 ex9_4_8 => ?_)
        have f34 : (a1_1 + (-1 : Int32)).toInt = a1_1.toInt - 1 := iaddn_toInt (by decide) (by omega) (by omega)
        have qx9_4_8 : x9_4_8.toInt = (a1_1 + (-1)).toInt := congrArg Int32.toInt ex9_4_8
        clear qx9_4_8 f34
        have dl35 : 0 ≤ a1_1.toInt := by omega
        have dM35 := w9_dnM ex9_4_8 hn_1 dl35 (by decide)
        have d035 : -1 ≤ x9_4_8.toInt := w9_dn0 ex9_4_8 dl35 (by decide)
        have d135 : x9_4_8.toInt ≤ 59 := w9_dn1 ex9_4_8 dl35 (by decide) b1a1_1
        exact hrec_1 _ (x9_4_8, σ1_1) dM35 ⟨rfl, hIσ1_1, hfσ1_1, d035, d135⟩
      · have g36 : (0 : Int32).toInt ≠ (0 : Int32).toInt := fun z => h_32 (Int32.toInt_inj.mp z)
        exfalso
        omega
set_option maxRecDepth 20000 in
set_option maxHeartbeats 2000000 in
theorem o_fX6_gatherOwn {σ : gS} (hIσ : JC σ) {p1 : Int32}  : Ok (fX6_gatherOwn σ p1) (fun out => JC out.2 ∧ Fr fr_fX6_gatherOwn σ out.2) := by
  unfold fX6_gatherOwn
  have hfσ : Fr fr_fX6_gatherOwn σ σ := Fr_r
  refine ok_bd.mpr ((o_fill (c := 86) (v := (-1 : Int32)) hIσ (by decide) (fun i => ⟨show -1 ≤ (-1 : Int32).toInt by decide, show (-1 : Int32).toInt ≤ 59 by decide⟩)).mono (fun σ2 ho_1 => ?_))
  obtain ⟨hIσ2, hcσ2, hvσ2⟩ := ho_1
  have hfσ2 : Fr fr_fX6_gatherOwn σ σ2 := Fr_c hfσ hcσ2 (by decide)
  refine ok_nm2 (fun x3 ex3 => ?_)
  have f2 : (0 : Int32).toInt = 0 := by decide
  have qx3 : x3.toInt = 0 := by rw [ex3]; decide
  refine ok_nm2 (fun x4 ex4 => ?_)
  have qx4 : x4.toInt = 0 := by rw [ex4]; decide
  refine ok_lpc (I := fun n s => n = (60 + 1 - s.2.1.toInt).toNat ∧ JC s.2.2 ∧ Fr fr_fX6_gatherOwn σ s.2.2 ∧ 0 ≤ s.2.1.toInt ∧ s.2.1.toInt ≤ 60) (fun rec12_1r n_1 s_1 hs_1 hrec_1 => ?_) K9 ((60 + 1 - x4.toInt).toNat) (x3, x4, σ2) ⟨rfl, hIσ2, hfσ2, (show 0 ≤ x4.toInt by omega), (show x4.toInt ≤ 60 by omega)⟩ (by unfold K9; omega)
  obtain ⟨a2_1, a3_1, σ1_1⟩ := s_1
  obtain ⟨hn_1, hIσ1_1, hfσ1_1, b0a3_1, b1a3_1⟩ := hs_1
  dsimp only at hn_1 hIσ1_1 hfσ1_1 b0a3_1 b1a3_1
  unfold bX6_gatherOwn_12
  try dsimp only
  have f3 : (3 : Int32).toInt = 3 := by decide
  refine ok_gd.mpr ⟨gb_of (by omega) (by omega), ?_⟩
  refine ok_nm2 (fun v5_30 ev5_30 => ?_)
  have f4 : 0 ≤ (σ1_1.1 3 3).toInt ∧ (σ1_1.1 3 3).toInt ≤ 60 := hIσ1_1 3 3
  have qv5_30 : v5_30.toInt = (σ1_1.1 3 3).toInt := congrArg Int32.toInt ev5_30
  refine ok_ite.mpr ⟨fun h_5 => ?_, fun h_5 => ?_⟩
  · have g6 : v5_30.toInt ≤ a3_1.toInt := Int32.le_iff_toInt_le.mp h_5
    refine ok_some.mpr ?_
    exact ⟨hIσ1_1, hfσ1_1⟩
  · have g7 : ¬ v5_30.toInt ≤ a3_1.toInt := fun z => h_5 (Int32.le_iff_toInt_le.mpr z)
    refine ok_gd.mpr ⟨gb_of (by omega) (by omega), ?_⟩
    refine ok_nm2 (fun v7_30 ev7_30 => ?_)
    have f8 : 0 ≤ (σ1_1.1 11 a3_1.toNatClampNeg).toInt ∧ (σ1_1.1 11 a3_1.toNatClampNeg).toInt ≤ 19 := hIσ1_1 11 _
    have qv7_30 : v7_30.toInt = (σ1_1.1 11 a3_1.toNatClampNeg).toInt := congrArg Int32.toInt ev7_30
    refine ok_nm.mpr ?_
    refine ok_bd.mpr ?_
    try unfold fX5_uses_47
    refine ok_gd.mpr ⟨gb_of (by omega) (by omega), ?_⟩
    refine ok_nm2 (fun v1_32 ev1_32 => ?_)
    have qv1_32 : v1_32.toInt = (σ1_1.1 58 a3_1.toNatClampNeg).toInt := congrArg Int32.toInt ev1_32
    refine ok_ite.mpr ⟨fun h_9 => ?_, fun h_9 => ?_⟩
    · have g10 : v1_32.toInt = (0 : Int32).toInt := by rw [h_9]
      refine ok_some.mpr ?_
      refine ok_ite.mpr ⟨fun h_11 => ?_, fun h_11 => ?_⟩
      · have f12 : (1 : Int32).toInt = 1 := by decide
        have g13 : (1 : Int32).toInt = (0 : Int32).toInt := by rw [h_11]
        exfalso
        omega
      · have f14 : (1 : Int32).toInt = 1 := by decide
        have g15 : (1 : Int32).toInt ≠ (0 : Int32).toInt := fun z => h_11 (Int32.toInt_inj.mp z)
        refine ok_gd.mpr ⟨gb_of (by omega) (by omega), ?_⟩
        refine ok_nm2 (fun v13_30_31_33 ev13_30_31_33 => ?_)
        have f16 : 0 ≤ (σ1_1.1 10 a3_1.toNatClampNeg).toInt ∧ (σ1_1.1 10 a3_1.toNatClampNeg).toInt ≤ 11 := hIσ1_1 10 _
        have qv13_30_31_33 : v13_30_31_33.toInt = (σ1_1.1 10 a3_1.toNatClampNeg).toInt := congrArg Int32.toInt ev13_30_31_33
        refine ok_ite.mpr ⟨fun h_17 => ?_, fun h_17 => ?_⟩
        · have g18 : v13_30_31_33.toInt = p1.toInt := by rw [h_17]
          refine ok_gd.mpr ⟨gb_of (by omega) (by omega), ?_⟩
          refine ok_nm2 (fun v16_30_31_33 ev16_30_31_33 => ?_)
          have qv16_30_31_33 : v16_30_31_33.toInt = (σ1_1.1 85 v7_30.toNatClampNeg).toInt := congrArg Int32.toInt ev16_30_31_33
          refine ok_ite.mpr ⟨fun h_19 => ?_, fun h_19 => ?_⟩
          · have g20 : v16_30_31_33.toInt = (0 : Int32).toInt := by rw [h_19]
            refine ok_nm2 (fun x21_30_31_33 ex21_30_31_33 => ?_)
            have f21 : (a3_1 + (1 : Int32)).toInt = a3_1.toInt + (1 : Int32).toInt := iadd_toInt (by omega) (by omega)
            have qx21_30_31_33 : x21_30_31_33.toInt = (a3_1 + 1).toInt := congrArg Int32.toInt ex21_30_31_33
            exact hrec_1 _ (a2_1, x21_30_31_33, σ1_1) (show (60 + 1 - x21_30_31_33.toInt).toNat < n_1 by omega) ⟨rfl, hIσ1_1, hfσ1_1, (show 0 ≤ x21_30_31_33.toInt by omega), (show x21_30_31_33.toInt ≤ 60 by omega)⟩
          · have g22 : v16_30_31_33.toInt ≠ (0 : Int32).toInt := fun z => h_19 (Int32.toInt_inj.mp z)
            refine ok_gd.mpr ⟨gb_of (by omega) (by omega), ?_⟩
            refine ok_nm2 (fun σ18_30_31_33 eσ18_30_31_33 => ?_)
            have hIσ18_30_31_33 : JC σ18_30_31_33 := by rw [eσ18_30_31_33]; exact JC_w hIσ1_1 (show -1 ≤ _ by omega) (show _ ≤ 59 by omega)
            have hfσ18_30_31_33 : Fr fr_fX6_gatherOwn σ σ18_30_31_33 := by rw [eσ18_30_31_33]; exact Fr_w0 hfσ1_1 (by decide)
            refine ok_nm2 (fun x19_30_31_33 ex19_30_31_33 => ?_)
            have qx19_30_31_33 : x19_30_31_33.toInt = (a2_1 + 1).toInt := congrArg Int32.toInt ex19_30_31_33
            refine ok_nm2 (fun x20_30_31_33 ex20_30_31_33 => ?_)
            have f23 : (a3_1 + (1 : Int32)).toInt = a3_1.toInt + (1 : Int32).toInt := iadd_toInt (by omega) (by omega)
            have qx20_30_31_33 : x20_30_31_33.toInt = (a3_1 + 1).toInt := congrArg Int32.toInt ex20_30_31_33
            exact hrec_1 _ (x19_30_31_33, x20_30_31_33, σ18_30_31_33) (show (60 + 1 - x20_30_31_33.toInt).toNat < n_1 by omega) ⟨rfl, hIσ18_30_31_33, hfσ18_30_31_33, (show 0 ≤ x20_30_31_33.toInt by omega), (show x20_30_31_33.toInt ≤ 60 by omega)⟩
        · have g24 : v13_30_31_33.toInt ≠ p1.toInt := fun z => h_17 (Int32.toInt_inj.mp z)
          refine ok_nm2 (fun x15_30_31_33 ex15_30_31_33 => ?_)
          have f25 : (a3_1 + (1 : Int32)).toInt = a3_1.toInt + (1 : Int32).toInt := iadd_toInt (by omega) (by omega)
          have qx15_30_31_33 : x15_30_31_33.toInt = (a3_1 + 1).toInt := congrArg Int32.toInt ex15_30_31_33
          exact hrec_1 _ (a2_1, x15_30_31_33, σ1_1) (show (60 + 1 - x15_30_31_33.toInt).toNat < n_1 by omega) ⟨rfl, hIσ1_1, hfσ1_1, (show 0 ≤ x15_30_31_33.toInt by omega), (show x15_30_31_33.toInt ≤ 60 by omega)⟩
    · have g26 : v1_32.toInt ≠ (0 : Int32).toInt := fun z => h_9 (Int32.toInt_inj.mp z)
      refine ok_some.mpr ?_
      refine ok_ite.mpr ⟨fun h_27 => ?_, fun h_27 => ?_⟩
      · have g28 : (0 : Int32).toInt = (0 : Int32).toInt := by rw [h_27]
        refine ok_nm2 (fun x12_30_31_34 ex12_30_31_34 => ?_)
        have f29 : (1 : Int32).toInt = 1 := by decide
        have f30 : (a3_1 + (1 : Int32)).toInt = a3_1.toInt + (1 : Int32).toInt := iadd_toInt (by omega) (by omega)
        have qx12_30_31_34 : x12_30_31_34.toInt = (a3_1 + 1).toInt := congrArg Int32.toInt ex12_30_31_34
        exact hrec_1 _ (a2_1, x12_30_31_34, σ1_1) (show (60 + 1 - x12_30_31_34.toInt).toNat < n_1 by omega) ⟨rfl, hIσ1_1, hfσ1_1, (show 0 ≤ x12_30_31_34.toInt by omega), (show x12_30_31_34.toInt ≤ 60 by omega)⟩
      · have g31 : (0 : Int32).toInt ≠ (0 : Int32).toInt := fun z => h_27 (Int32.toInt_inj.mp z)
        exfalso
        omega
set_option maxRecDepth 20000 in
set_option maxHeartbeats 2000000 in
theorem o_fX6_findLinked {σ : gS} (hIσ : JC σ)   : Ok (fX6_findLinked σ ) (fun out => JC out.2 ∧ Fr fr_fX6_findLinked σ out.2 ∧ -1 ≤ out.1.toInt ∧ out.1.toInt ≤ 11) := by
  unfold fX6_findLinked
  have hfσ : Fr fr_fX6_findLinked σ σ := Fr_r
  refine ok_bd.mpr ((o_fX6_gatherStarted hIσ  ).mono (fun σ2 ho_2 => ?_))
  obtain ⟨hIσ2, hcσ2⟩ := ho_2
  have hfσ2 : Fr fr_fX6_findLinked σ σ2 := Fr_c hfσ hcσ2 (by decide)
  refine ok_nm2 (fun x3 ex3 => ?_)
  have f3 : (0 : Int32).toInt = 0 := by decide
  have qx3 : x3.toInt = 0 := by rw [ex3]; decide
  refine ok_lpc (I := fun n s => n = (12 + 1 - s.1.toInt).toNat ∧ JC s.2 ∧ Fr fr_fX6_findLinked σ s.2 ∧ 0 ≤ s.1.toInt ∧ s.1.toInt ≤ 12) (fun rec6_1r n_1 s_1 hs_1 hrec_1 => ?_) K9 ((12 + 1 - x3.toInt).toNat) (x3, σ2) ⟨rfl, hIσ2, hfσ2, (show 0 ≤ x3.toInt by omega), (show x3.toInt ≤ 12 by omega)⟩ (by unfold K9; omega)
  obtain ⟨a1_1, σ1_1⟩ := s_1
  obtain ⟨hn_1, hIσ1_1, hfσ1_1, b0a1_1, b1a1_1⟩ := hs_1
  dsimp only at hn_1 hIσ1_1 hfσ1_1 b0a1_1 b1a1_1
  unfold bX6_findLinked_6
  try dsimp only
  have f4 : (1 : Int32).toInt = 1 := by decide
  refine ok_gd.mpr ⟨gb_of (by omega) (by omega), ?_⟩
  refine ok_nm2 (fun v4_2 ev4_2 => ?_)
  have f5 : 0 ≤ (σ1_1.1 3 1).toInt ∧ (σ1_1.1 3 1).toInt ≤ 12 := hIσ1_1 3 1
  have qv4_2 : v4_2.toInt = (σ1_1.1 3 1).toInt := congrArg Int32.toInt ev4_2
  refine ok_ite.mpr ⟨fun h_6 => ?_, fun h_6 => ?_⟩
  · have g7 : v4_2.toInt ≤ a1_1.toInt := Int32.le_iff_toInt_le.mp h_6
    refine ok_some.mpr ?_
    have f8 : (-1 : Int32).toInt = -1 := by decide
    exact ⟨hIσ1_1, hfσ1_1, (show -1 ≤ (-1 : Int32).toInt by omega), (show (-1 : Int32).toInt ≤ 11 by omega)⟩
  · have g9 : ¬ v4_2.toInt ≤ a1_1.toInt := fun z => h_6 (Int32.le_iff_toInt_le.mpr z)
    refine ok_gd.mpr ⟨gb_of (by omega) (by omega), ?_⟩
    refine ok_nm2 (fun v6_2 ev6_2 => ?_)
    have qv6_2 : v6_2.toInt = (σ1_1.1 84 a1_1.toNatClampNeg).toInt := congrArg Int32.toInt ev6_2
    refine ok_ite.mpr ⟨fun h_10 => ?_, fun h_10 => ?_⟩
    · have g11 : v6_2.toInt = (1 : Int32).toInt := by rw [h_10]
      refine ok_nm2 (fun x16_2 ex16_2 => ?_)
      have f12 : (a1_1 + (1 : Int32)).toInt = a1_1.toInt + (1 : Int32).toInt := iadd_toInt (by omega) (by omega)
      have qx16_2 : x16_2.toInt = (a1_1 + 1).toInt := congrArg Int32.toInt ex16_2
      exact hrec_1 _ (x16_2, σ1_1) (show (12 + 1 - x16_2.toInt).toNat < n_1 by omega) ⟨rfl, hIσ1_1, hfσ1_1, (show 0 ≤ x16_2.toInt by omega), (show x16_2.toInt ≤ 12 by omega)⟩
    · have g13 : v6_2.toInt ≠ (1 : Int32).toInt := fun z => h_10 (Int32.toInt_inj.mp z)
      refine ok_bd2.mpr ((o_fX6_gatherOwn hIσ1_1 (p1 := a1_1) ).mono (fun o_14 ho_15 => ?_))
      obtain ⟨r9_2, σ10_2⟩ := o_14
      obtain ⟨hIσ10_2, hcσ10_2⟩ := ho_15
      dsimp only at hIσ10_2 hcσ10_2 ⊢
      have hfσ10_2 : Fr fr_fX6_findLinked σ σ10_2 := Fr_c hfσ1_1 hcσ10_2 (by decide)
      refine ok_nm.mpr ?_
      refine ok_gd.mpr ⟨gb_of (by omega) (by omega), ?_⟩
      refine ok_nm2 (fun v12_2_5 ev12_2_5 => ?_)
      have qv12_2_5 : v12_2_5.toInt = (σ10_2.1 9 a1_1.toNatClampNeg).toInt := congrArg Int32.toInt ev12_2_5
      refine ok_ite.mpr ⟨fun h_16 => ?_, fun h_16 => ?_⟩
      · have f17 : (4 : Int32).toInt = 4 := by decide
        have g18 : v12_2_5.toInt = (4 : Int32).toInt := by rw [h_16]
        try unfold jX6_findLinked_57
        refine ok_ite.mpr ⟨fun h_19 => ?_, fun h_19 => ?_⟩
        · have f20 : (2 : Int32).toInt = 2 := by decide
          have g21 : r9_2.toInt < (2 : Int32).toInt := Int32.lt_iff_toInt_lt.mp h_19
          refine ok_nm2 (fun x15_6 ex15_6 => ?_)
          have f22 : (a1_1 + (1 : Int32)).toInt = a1_1.toInt + (1 : Int32).toInt := iadd_toInt (by omega) (by omega)
          have qx15_6 : x15_6.toInt = (a1_1 + 1).toInt := congrArg Int32.toInt ex15_6
          exact hrec_1 _ (x15_6, σ10_2) (show (12 + 1 - x15_6.toInt).toNat < n_1 by omega) ⟨rfl, hIσ10_2, hfσ10_2, (show 0 ≤ x15_6.toInt by omega), (show x15_6.toInt ≤ 12 by omega)⟩
        · have f23 : (2 : Int32).toInt = 2 := by decide
          have g24 : ¬ r9_2.toInt < (2 : Int32).toInt := fun z => h_19 (Int32.lt_iff_toInt_lt.mpr z)
          refine ok_some.mpr ?_
          exact ⟨hIσ10_2, hfσ10_2, (show -1 ≤ a1_1.toInt by omega), (show a1_1.toInt ≤ 11 by omega)⟩
      · have f25 : (4 : Int32).toInt = 4 := by decide
        have g26 : v12_2_5.toInt ≠ (4 : Int32).toInt := fun z => h_16 (Int32.toInt_inj.mp z)
        try unfold jX6_findLinked_57
        refine ok_ite.mpr ⟨fun h_27 => ?_, fun h_27 => ?_⟩
        · have g28 : r9_2.toInt < (1 : Int32).toInt := Int32.lt_iff_toInt_lt.mp h_27
          refine ok_nm2 (fun x15_7 ex15_7 => ?_)
          have f29 : (a1_1 + (1 : Int32)).toInt = a1_1.toInt + (1 : Int32).toInt := iadd_toInt (by omega) (by omega)
          have qx15_7 : x15_7.toInt = (a1_1 + 1).toInt := congrArg Int32.toInt ex15_7
          exact hrec_1 _ (x15_7, σ10_2) (show (12 + 1 - x15_7.toInt).toNat < n_1 by omega) ⟨rfl, hIσ10_2, hfσ10_2, (show 0 ≤ x15_7.toInt by omega), (show x15_7.toInt ≤ 12 by omega)⟩
        · have g30 : ¬ r9_2.toInt < (1 : Int32).toInt := fun z => h_27 (Int32.lt_iff_toInt_lt.mpr z)
          refine ok_some.mpr ?_
          exact ⟨hIσ10_2, hfσ10_2, (show -1 ≤ a1_1.toInt by omega), (show a1_1.toInt ≤ 11 by omega)⟩
set_option maxRecDepth 20000 in
set_option maxHeartbeats 2000000 in
theorem o_fX6_firstLink {σ : gS} (hIσ : JC σ)   : Ok (fX6_firstLink σ ) (fun out => -1 ≤ out.toInt ∧ out.toInt ≤ 19 ∧ (out.toInt ≠ -1 → 0 ≤ (σ.1 86 out.toNatClampNeg).toInt)) := by
  unfold fX6_firstLink
  refine ok_nm2 (fun x1 ex1 => ?_)
  have f1 : (0 : Int32).toInt = 0 := by decide
  have qx1 : x1.toInt = 0 := by rw [ex1]; decide
  refine ok_lpc (I := fun n s => n = (20 + 1 - s.toInt).toNat ∧ 0 ≤ s.toInt ∧ s.toInt ≤ 20) (fun rec2_1r n_1 s_1 hs_1 hrec_1 => ?_) K9 ((20 + 1 - x1.toInt).toNat) x1 ⟨rfl, (show 0 ≤ x1.toInt by omega), (show x1.toInt ≤ 20 by omega)⟩ (by unfold K9; omega)
  obtain ⟨a1_1, hq_1⟩ : ∃ y, y = s_1 := ⟨_, rfl⟩
  subst hq_1
  obtain ⟨hn_1, b0a1_1, b1a1_1⟩ := hs_1
  skip
  unfold bX6_firstLink_2
  try dsimp only
  have f2 : (2 : Int32).toInt = 2 := by decide
  refine ok_gd.mpr ⟨gb_of (by omega) (by omega), ?_⟩
  refine ok_nm2 (fun v2_2 ev2_2 => ?_)
  have f3 : 0 ≤ (σ.1 3 2).toInt ∧ (σ.1 3 2).toInt ≤ 20 := hIσ 3 2
  have qv2_2 : v2_2.toInt = (σ.1 3 2).toInt := congrArg Int32.toInt ev2_2
  refine ok_ite.mpr ⟨fun h_4 => ?_, fun h_4 => ?_⟩
  · have g5 : v2_2.toInt ≤ a1_1.toInt := Int32.le_iff_toInt_le.mp h_4
    refine ok_some.mpr ?_
    have f6 : (-1 : Int32).toInt = -1 := by decide
    exact ⟨(show -1 ≤ (-1 : Int32).toInt by omega), (show (-1 : Int32).toInt ≤ 19 by omega), (show (-1 : Int32).toInt ≠ -1 → 0 ≤ (σ.1 86 (-1 : Int32).toNatClampNeg).toInt by omega)⟩
  · have g7 : ¬ v2_2.toInt ≤ a1_1.toInt := fun z => h_4 (Int32.le_iff_toInt_le.mpr z)
    refine ok_gd.mpr ⟨gb_of (by omega) (by omega), ?_⟩
    refine ok_nm2 (fun v4_2 ev4_2 => ?_)
    have f8 : -1 ≤ (σ.1 86 a1_1.toNatClampNeg).toInt ∧ (σ.1 86 a1_1.toNatClampNeg).toInt ≤ 59 := hIσ 86 _
    have qv4_2 : v4_2.toInt = (σ.1 86 a1_1.toNatClampNeg).toInt := congrArg Int32.toInt ev4_2
    refine ok_ite.mpr ⟨fun h_9 => ?_, fun h_9 => ?_⟩
    · have f10 : (-1 : Int32).toInt = -1 := by decide
      have g11 : v4_2.toInt = (-1 : Int32).toInt := by rw [h_9]
      refine ok_nm2 (fun x6_2 ex6_2 => ?_)
      have f12 : (1 : Int32).toInt = 1 := by decide
      have f13 : (a1_1 + (1 : Int32)).toInt = a1_1.toInt + (1 : Int32).toInt := iadd_toInt (by omega) (by omega)
      have qx6_2 : x6_2.toInt = (a1_1 + 1).toInt := congrArg Int32.toInt ex6_2
      exact hrec_1 _ x6_2 (show (20 + 1 - x6_2.toInt).toNat < n_1 by omega) ⟨rfl, (show 0 ≤ x6_2.toInt by omega), (show x6_2.toInt ≤ 20 by omega)⟩
    · have f14 : (-1 : Int32).toInt = -1 := by decide
      have g15 : v4_2.toInt ≠ (-1 : Int32).toInt := fun z => h_9 (Int32.toInt_inj.mp z)
      refine ok_some.mpr ?_
      exact ⟨(show -1 ≤ a1_1.toInt by omega), (show a1_1.toInt ≤ 19 by omega), (show a1_1.toInt ≠ -1 → 0 ≤ (σ.1 86 a1_1.toNatClampNeg).toInt by omega)⟩
set_option maxRecDepth 20000 in
set_option maxHeartbeats 2000000 in
theorem o_fX5_turned_47 {σ : gS} (hIσ : JC σ) {p1 : Int32} {p2 : Int32} (h0p1 : 0 ≤ p1.toInt) (h1p1 : p1.toInt ≤ 59) : Ok (fX5_turned_47 σ p1 p2) (fun _ => True) := by
  unfold fX5_turned_47
  refine ok_gd.mpr ⟨gb_of (by omega) (by omega), ?_⟩
  refine ok_nm2 (fun v1 ev1 => ?_)
  have f1 : 0 ≤ (σ.1 10 p1.toNatClampNeg).toInt ∧ (σ.1 10 p1.toNatClampNeg).toInt ≤ 11 := hIσ 10 _
  have qv1 : v1.toInt = (σ.1 10 p1.toNatClampNeg).toInt := congrArg Int32.toInt ev1
  refine ok_gd.mpr ⟨gb_of (by omega) (by omega), ?_⟩
  refine ok_nm2 (fun v2 ev2 => ?_)
  have qv2 : v2.toInt = (σ.1 48 v1.toNatClampNeg).toInt := congrArg Int32.toInt ev2
  refine ok_bd.mpr ((o_fX8_turnedBy_2 hIσ (p1 := v2) (p2 := p1) (p3 := p2) (by omega) (by omega)).mono (fun r4 ho_3 => ?_))
  refine ok_some.mpr ?_
  exact trivial
set_option maxRecDepth 20000 in
set_option maxHeartbeats 2000000 in
theorem o_fX6_unlikeness {σ : gS} (hIσ : JC σ) {p1 : Int32} {p2 : Int32} (h0p2 : 0 ≤ p2.toInt) (h1p2 : p2.toInt ≤ 19) (pre0 : 0 ≤ (σ.1 86 p2.toNatClampNeg).toInt) : Ok (fX6_unlikeness σ p1 p2) (fun _ => True) := by
  unfold fX6_unlikeness
  refine ok_nm2 (fun x1 ex1 => ?_)
  have f1 : (0 : Int64).toInt = 0 := by decide
  have qx1 : x1.toInt = (0 : Int64).toInt := congrArg Int64.toInt ex1
  refine ok_nm2 (fun x2 ex2 => ?_)
  have f2 : (0 : Int32).toInt = 0 := by decide
  have qx2 : x2.toInt = 0 := by rw [ex2]; decide
  refine ok_lpc (I := fun n s => n = (20 + 1 - s.2.toInt).toNat ∧ 0 ≤ s.2.toInt ∧ s.2.toInt ≤ 20) (fun rec5_1r n_1 s_1 hs_1 hrec_1 => ?_) K9 ((20 + 1 - x2.toInt).toNat) (x1, x2) ⟨rfl, (show 0 ≤ x2.toInt by omega), (show x2.toInt ≤ 20 by omega)⟩ (by unfold K9; omega)
  obtain ⟨a3_1, a5_1⟩ := s_1
  obtain ⟨hn_1, b0a5_1, b1a5_1⟩ := hs_1
  dsimp only at hn_1 b0a5_1 b1a5_1
  unfold bX6_unlikeness_5
  try dsimp only
  have f3 : (2 : Int32).toInt = 2 := by decide
  refine ok_gd.mpr ⟨gb_of (by omega) (by omega), ?_⟩
  refine ok_nm2 (fun v3_2 ev3_2 => ?_)
  have f4 : 0 ≤ (σ.1 3 2).toInt ∧ (σ.1 3 2).toInt ≤ 20 := hIσ 3 2
  have qv3_2 : v3_2.toInt = (σ.1 3 2).toInt := congrArg Int32.toInt ev3_2
  refine ok_ite.mpr ⟨fun h_5 => ?_, fun h_5 => ?_⟩
  · have g6 : v3_2.toInt ≤ a5_1.toInt := Int32.le_iff_toInt_le.mp h_5
    refine ok_some.mpr ?_
    exact trivial
  · have g7 : ¬ v3_2.toInt ≤ a5_1.toInt := fun z => h_5 (Int32.le_iff_toInt_le.mpr z)
    refine ok_gd.mpr ⟨gb_of (by omega) (by omega), ?_⟩
    refine ok_nm2 (fun v5_2 ev5_2 => ?_)
    have f8 : -1 ≤ (σ.1 86 a5_1.toNatClampNeg).toInt ∧ (σ.1 86 a5_1.toNatClampNeg).toInt ≤ 59 := hIσ 86 _
    have qv5_2 : v5_2.toInt = (σ.1 86 a5_1.toNatClampNeg).toInt := congrArg Int32.toInt ev5_2
    refine ok_ite.mpr ⟨fun h_9 => ?_, fun h_9 => ?_⟩
    · have f10 : (-1 : Int32).toInt = -1 := by decide
      have g11 : v5_2.toInt = (-1 : Int32).toInt := by rw [h_9]
      refine ok_nm2 (fun x24_2 ex24_2 => ?_)
      have f12 : (1 : Int32).toInt = 1 := by decide
      have f13 : (a5_1 + (1 : Int32)).toInt = a5_1.toInt + (1 : Int32).toInt := iadd_toInt (by omega) (by omega)
      have qx24_2 : x24_2.toInt = (a5_1 + 1).toInt := congrArg Int32.toInt ex24_2
      exact hrec_1 _ (a3_1, x24_2) (show (20 + 1 - x24_2.toInt).toNat < n_1 by omega) ⟨rfl, (show 0 ≤ x24_2.toInt by omega), (show x24_2.toInt ≤ 20 by omega)⟩
    · have f14 : (-1 : Int32).toInt = -1 := by decide
      have g15 : v5_2.toInt ≠ (-1 : Int32).toInt := fun z => h_9 (Int32.toInt_inj.mp z)
      refine ok_nm2 (fun x7_2 ex7_2 => ?_)
      have qx7_2 : x7_2.toInt = 0 := by rw [ex7_2]; decide
      refine ok_lpc (I := fun n s => n = (3 + 1 - s.2.toInt).toNat ∧ 0 ≤ s.2.toInt ∧ s.2.toInt ≤ 3) (fun rec36_5r n_5 s_5 hs_5 hrec_5 => ?_) K9 ((3 + 1 - x7_2.toInt).toNat) (a3_1, x7_2) ⟨rfl, (show 0 ≤ x7_2.toInt by omega), (show x7_2.toInt ≤ 3 by omega)⟩ (by unfold K9; omega)
      obtain ⟨a3_5, a6_5⟩ := s_5
      obtain ⟨hn_5, b0a6_5, b1a6_5⟩ := hs_5
      dsimp only at hn_5 b0a6_5 b1a6_5
      unfold bX6_unlikeness_36
      try dsimp only
      refine ok_ite.mpr ⟨fun h_16 => ?_, fun h_16 => ?_⟩
      · have g17 : (2 : Int32).toInt ≤ a6_5.toInt := Int32.le_iff_toInt_le.mp h_16
        refine ok_nm2 (fun x9_6 ex9_6 => ?_)
        have f18 : (1 : Int32).toInt = 1 := by decide
        have f19 : (a5_1 + (1 : Int32)).toInt = a5_1.toInt + (1 : Int32).toInt := iadd_toInt (by omega) (by omega)
        have qx9_6 : x9_6.toInt = (a5_1 + 1).toInt := congrArg Int32.toInt ex9_6
        exact hrec_1 _ (a3_5, x9_6) (show (20 + 1 - x9_6.toInt).toNat < n_1 by omega) ⟨rfl, (show 0 ≤ x9_6.toInt by omega), (show x9_6.toInt ≤ 20 by omega)⟩
      · have g20 : ¬ (2 : Int32).toInt ≤ a6_5.toInt := fun z => h_16 (Int32.le_iff_toInt_le.mpr z)
        refine ok_gd.mpr ⟨gb_of (by omega) (by omega), ?_⟩
        refine ok_nm2 (fun v10_6 ev10_6 => ?_)
        have qv10_6 : v10_6.toInt = (σ.1 86 a5_1.toNatClampNeg).toInt := congrArg Int32.toInt ev10_6
        refine ok_bd.mpr ((o_fX8_turnedBy_2 hIσ (p1 := p1) (p2 := v10_6) (p3 := a6_5) (by omega) (by omega)).mono (fun r12_6 ho_22 => ?_))
        refine ok_gd.mpr ⟨gb_of (by omega) (by omega), ?_⟩
        refine ok_nm2 (fun v13_6 ev13_6 => ?_)
        have f23 : -1 ≤ (σ.1 86 p2.toNatClampNeg).toInt ∧ (σ.1 86 p2.toNatClampNeg).toInt ≤ 59 := hIσ 86 _
        have qv13_6 : v13_6.toInt = (σ.1 86 p2.toNatClampNeg).toInt := congrArg Int32.toInt ev13_6
        refine ok_bd.mpr ((o_fX8_turnedBy_2 hIσ (p1 := p1) (p2 := v13_6) (p3 := a6_5) (by omega) (by omega)).mono (fun r15_6 ho_25 => ?_))
        refine ok_nm2 (fun x16_6 ex16_6 => ?_)
        have qx16_6 : x16_6.toInt = (r12_6 - r15_6).toInt := congrArg Int32.toInt ex16_6
        refine ok_gd.mpr ⟨gb_of (by omega) (by omega), ?_⟩
        refine ok_gd.mpr ⟨gb_of (by omega) (by omega), ?_⟩
        refine ok_nm2 (fun v18_6 ev18_6 => ?_)
        have qv18_6 : v18_6.toInt = (σ.1 (88 + a6_5.toNatClampNeg) a5_1.toNatClampNeg).toInt := congrArg Int32.toInt ev18_6
        refine ok_gd.mpr ⟨gb_of (by omega) (by omega), ?_⟩
        refine ok_gd.mpr ⟨gb_of (by omega) (by omega), ?_⟩
        refine ok_nm2 (fun v20_6 ev20_6 => ?_)
        have qv20_6 : v20_6.toInt = (σ.1 (88 + a6_5.toNatClampNeg) p2.toNatClampNeg).toInt := congrArg Int32.toInt ev20_6
        refine ok_nm2 (fun x21_6 ex21_6 => ?_)
        have qx21_6 : x21_6.toInt = (v18_6 - v20_6).toInt := congrArg Int32.toInt ex21_6
        refine ok_nm2 (fun x22_6 ex22_6 => ?_)
        refine ok_nm2 (fun x23_6 ex23_6 => ?_)
        have f26 : (1 : Int32).toInt = 1 := by decide
        have f27 : (a6_5 + (1 : Int32)).toInt = a6_5.toInt + (1 : Int32).toInt := iadd_toInt (by omega) (by omega)
        have qx23_6 : x23_6.toInt = (a6_5 + 1).toInt := congrArg Int32.toInt ex23_6
        exact hrec_5 _ (x22_6, x23_6) (show (3 + 1 - x23_6.toInt).toNat < n_5 by omega) ⟨rfl, (show 0 ≤ x23_6.toInt by omega), (show x23_6.toInt ≤ 3 by omega)⟩
set_option maxRecDepth 20000 in
set_option maxHeartbeats 2000000 in
theorem o_fX6_leastUnlikeTurn {σ : gS} (hIσ : JC σ) {p1 : Int32} (h0p1 : 0 ≤ p1.toInt) (h1p1 : p1.toInt ≤ 19) (pre0 : 0 ≤ (σ.1 86 p1.toNatClampNeg).toInt) : Ok (fX6_leastUnlikeTurn σ p1) (fun _ => True) := by
  unfold fX6_leastUnlikeTurn
  refine ok_nm2 (fun x1 ex1 => ?_)
  have f1 : (0 : Int32).toInt = 0 := by decide
  have qx1 : x1.toInt = 0 := by rw [ex1]; decide
  refine ok_nm2 (fun x2 ex2 => ?_)
  have f2 : (1 : Int32).toInt = 1 := by decide
  have qx2 : x2.toInt = 1 := by rw [ex2]; decide
  refine ok_lpc (I := fun n s => n = (4 + 1 - s.2.toInt).toNat ∧ 0 ≤ s.1.toInt ∧ s.1.toInt ≤ 3 ∧ 1 ≤ s.2.toInt ∧ s.2.toInt ≤ 4) (fun rec4_1r n_1 s_1 hs_1 hrec_1 => ?_) K9 ((4 + 1 - x2.toInt).toNat) (x1, x2) ⟨rfl, (show 0 ≤ x1.toInt by omega), (show x1.toInt ≤ 3 by omega), (show 1 ≤ x2.toInt by omega), (show x2.toInt ≤ 4 by omega)⟩ (by unfold K9; omega)
  obtain ⟨a2_1, a3_1⟩ := s_1
  obtain ⟨hn_1, b0a2_1, b1a2_1, b0a3_1, b1a3_1⟩ := hs_1
  dsimp only at hn_1 b0a2_1 b1a2_1 b0a3_1 b1a3_1
  unfold bX6_leastUnlikeTurn_4
  try dsimp only
  refine ok_ite.mpr ⟨fun h_3 => ?_, fun h_3 => ?_⟩
  · have f4 : (4 : Int32).toInt = 4 := by decide
    have g5 : (4 : Int32).toInt ≤ a3_1.toInt := Int32.le_iff_toInt_le.mp h_3
    refine ok_some.mpr ?_
    exact trivial
  · have f6 : (4 : Int32).toInt = 4 := by decide
    have g7 : ¬ (4 : Int32).toInt ≤ a3_1.toInt := fun z => h_3 (Int32.le_iff_toInt_le.mpr z)
    refine ok_bd.mpr ((o_fX6_unlikeness hIσ (p1 := a3_1) (p2 := p1) (by omega) (by omega) (by omega)).mono (fun r5_2 ho_9 => ?_))
    refine ok_bd.mpr ((o_fX6_unlikeness hIσ (p1 := a2_1) (p2 := p1) (by omega) (by omega) (by omega)).mono (fun r7_2 ho_11 => ?_))
    refine ok_ite.mpr ⟨fun h_12 => ?_, fun h_12 => ?_⟩
    · have g13 : r7_2.toInt ≤ r5_2.toInt := Int64.le_iff_toInt_le.mp h_12
      refine ok_nm2 (fun x9_2 ex9_2 => ?_)
      have f14 : (a3_1 + (1 : Int32)).toInt = a3_1.toInt + (1 : Int32).toInt := iadd_toInt (by omega) (by omega)
      have qx9_2 : x9_2.toInt = (a3_1 + 1).toInt := congrArg Int32.toInt ex9_2
      exact hrec_1 _ (a2_1, x9_2) (show (4 + 1 - x9_2.toInt).toNat < n_1 by omega) ⟨rfl, (show 0 ≤ a2_1.toInt by omega), (show a2_1.toInt ≤ 3 by omega), (show 1 ≤ x9_2.toInt by omega), (show x9_2.toInt ≤ 4 by omega)⟩
    · have g15 : ¬ r7_2.toInt ≤ r5_2.toInt := fun z => h_12 (Int64.le_iff_toInt_le.mpr z)
      refine ok_nm.mpr ?_
      refine ok_nm2 (fun x11_2_3 ex11_2_3 => ?_)
      have f16 : (a3_1 + (1 : Int32)).toInt = a3_1.toInt + (1 : Int32).toInt := iadd_toInt (by omega) (by omega)
      have qx11_2_3 : x11_2_3.toInt = (a3_1 + 1).toInt := congrArg Int32.toInt ex11_2_3
      exact hrec_1 _ (a3_1, x11_2_3) (show (4 + 1 - x11_2_3.toInt).toNat < n_1 by omega) ⟨rfl, (show 0 ≤ a3_1.toInt by omega), (show a3_1.toInt ≤ 3 by omega), (show 1 ≤ x11_2_3.toInt by omega), (show x11_2_3.toInt ≤ 4 by omega)⟩
theorem w9_sl40 {σ τ : gS} {p q : Int32} (hI : JC τ) (hF : Fr fr_fX6_startLinked σ τ) (p0 : 0 ≤ p.toInt) (p1 : p.toInt ≤ 11) (q0 : 0 ≤ q.toInt) (q1 : q.toInt ≤ 19) (ho : 0 ≤ (τ.1 86 q.toNatClampNeg).toInt) : Ok (lpc (S := Int32 × gS) K9 (fun rec s => bX6_startLinked_40 τ p q (fun a3 σ1 => rec (a3, σ1)) s.1 s.2) (0, τ)) (fun out => JC out ∧ Fr fr_fX6_startLinked σ out) := by
  refine ok_lpc (I := fun (n : Nat) (s : Int32 × gS) => n = (2 - s.1.toInt).toNat ∧ 0 ≤ s.1.toInt ∧ s.1.toInt ≤ 2 ∧ JC s.2 ∧ Fr fr_fX6_startLinked σ s.2 ∧ 0 ≤ (s.2.1 86 q.toNatClampNeg).toInt) (fun rec n s hs hrec => ?_) K9 2 (0, τ) ⟨show 2 = (2 - (0 : Int32).toInt).toNat by decide, show 0 ≤ (0 : Int32).toInt by decide, show (0 : Int32).toInt ≤ 2 by decide, hI, hF, ho⟩ (by unfold K9; decide)
  obtain ⟨a, ρ⟩ := s
  obtain ⟨hn, h0, h1, jI, jF, jo⟩ := hs
  dsimp only at hn h0 h1 jI jF jo ⊢
  have l2 : (2 : Int32).toInt = 2 := by decide
  unfold bX6_startLinked_40
  refine ok_ite.mpr ⟨fun _ => ok_some.mpr ⟨jI, jF⟩, fun h => ?_⟩
  have ha := q_gt h
  have e1 : (a + 1).toInt = a.toInt + 1 := i_inc (by omega) h1 (by decide)
  have hb : -1 ≤ (ρ.1 86 q.toNatClampNeg).toInt ∧ (ρ.1 86 q.toNatClampNeg).toInt ≤ 59 := jI 86 _
  have hna : a.toNatClampNeg = a.toInt.toNat := rfl
  refine ok_gd.mpr ⟨gb_of h0 (by omega), ok_gd.mpr ⟨gb_of h0 (by omega), ok_gd.mpr ⟨gb_of q0 (by omega), ok_nm.mpr (ok_gd.mpr ⟨gb_of q0 (by omega), ok_nm.mpr ?_⟩)⟩⟩⟩
  refine ok_bd.mpr ((o_fX5_turned_47 jI (p1 := ρ.1 86 q.toNatClampNeg) (p2 := a) jo hb.2).mono (fun t _ => ok_gd.mpr ⟨gb_of p0 (by omega), ok_nm.mpr (ok_nm.mpr ?_)⟩))
  refine hrec (2 - (a + 1).toInt).toNat (a + 1, _) (by omega) ⟨rfl, show 0 ≤ (a + 1).toInt by omega, show (a + 1).toInt ≤ 2 by omega, JC_w50 jI (by omega) (by omega) (Int32.le_toInt _) (Int32.toInt_le _), Fr_w0 jF ?_, ?_⟩
  · have hj : 50 + a.toNatClampNeg = 50 ∨ 50 + a.toNatClampNeg = 51 := by omega
    rcases hj with hj | hj <;> rw [hj] <;> decide
  · dsimp only
    rw [gsI_1, if_neg (fun z => by have := z.1; omega)]
    exact jo
theorem o_fX6_startLinked {σ : gS} (hIσ : JC σ) {p1 : Int32} (h0p1 : 0 ≤ p1.toInt) (h1p1 : p1.toInt ≤ 11) : Ok (fX6_startLinked σ p1) (fun out => JC out ∧ Fr fr_fX6_startLinked σ out) := by
  unfold fX6_startLinked
  refine ok_bd.mpr ((o_fX6_firstLink hIσ).mono (fun r hr => ok_nm.mpr (ok_ite.mpr ⟨fun _ => ok_some.mpr ⟨hIσ, Fr_r⟩, fun hne => ?_⟩)))
  have hr1 : r.toInt ≠ -1 := fun z => hne (q_of (-1) (z.trans (by decide)))
  have ho := hr.2.2 hr1
  refine ok_gd.mpr ⟨gb_of h0p1 (by omega), ok_nm.mpr (ok_ite.mpr ⟨fun _ => ?_, fun _ => ok_nm.mpr (w9_sl40 hIσ Fr_r h0p1 h1p1 (by omega) hr.2.1 ho)⟩)⟩
  refine ok_bd.mpr ((o_fX6_leastUnlikeTurn hIσ (p1 := r) (by omega) hr.2.1 ho).mono (fun t _ => ok_gd.mpr ⟨gb_of h0p1 (by omega), ok_nm.mpr (ok_nm.mpr ?_)⟩))
  exact w9_sl40 (JC_w (k := 48) (i := p1.toNatClampNeg) (x := t) hIσ (Int32.le_toInt _) (Int32.toInt_le _)) (Fr_w0 Fr_r (by decide)) h0p1 h1p1 (by omega) hr.2.1 ho
set_option maxRecDepth 20000 in
set_option maxHeartbeats 2000000 in
theorem o_fX6_findUnstarted {σ : gS} (hIσ : JC σ)   : Ok (fX6_findUnstarted σ ) (fun out => -1 ≤ out.toInt ∧ out.toInt ≤ 11) := by
  unfold fX6_findUnstarted
  refine ok_nm2 (fun x1 ex1 => ?_)
  have f1 : (0 : Int32).toInt = 0 := by decide
  have qx1 : x1.toInt = 0 := by rw [ex1]; decide
  refine ok_lpc (I := fun n s => n = (12 + 1 - s.toInt).toNat ∧ 0 ≤ s.toInt ∧ s.toInt ≤ 12) (fun rec2_1r n_1 s_1 hs_1 hrec_1 => ?_) K9 ((12 + 1 - x1.toInt).toNat) x1 ⟨rfl, (show 0 ≤ x1.toInt by omega), (show x1.toInt ≤ 12 by omega)⟩ (by unfold K9; omega)
  obtain ⟨a1_1, hq_1⟩ : ∃ y, y = s_1 := ⟨_, rfl⟩
  subst hq_1
  obtain ⟨hn_1, b0a1_1, b1a1_1⟩ := hs_1
  skip
  unfold bX6_findUnstarted_2
  try dsimp only
  have f2 : (1 : Int32).toInt = 1 := by decide
  refine ok_gd.mpr ⟨gb_of (by omega) (by omega), ?_⟩
  refine ok_nm2 (fun v2_2 ev2_2 => ?_)
  have f3 : 0 ≤ (σ.1 3 1).toInt ∧ (σ.1 3 1).toInt ≤ 12 := hIσ 3 1
  have qv2_2 : v2_2.toInt = (σ.1 3 1).toInt := congrArg Int32.toInt ev2_2
  refine ok_ite.mpr ⟨fun h_4 => ?_, fun h_4 => ?_⟩
  · have g5 : v2_2.toInt ≤ a1_1.toInt := Int32.le_iff_toInt_le.mp h_4
    refine ok_some.mpr ?_
    have f6 : (-1 : Int32).toInt = -1 := by decide
    exact ⟨(show -1 ≤ (-1 : Int32).toInt by omega), (show (-1 : Int32).toInt ≤ 11 by omega)⟩
  · have g7 : ¬ v2_2.toInt ≤ a1_1.toInt := fun z => h_4 (Int32.le_iff_toInt_le.mpr z)
    refine ok_gd.mpr ⟨gb_of (by omega) (by omega), ?_⟩
    refine ok_nm2 (fun v4_2 ev4_2 => ?_)
    have qv4_2 : v4_2.toInt = (σ.1 84 a1_1.toNatClampNeg).toInt := congrArg Int32.toInt ev4_2
    refine ok_ite.mpr ⟨fun h_8 => ?_, fun h_8 => ?_⟩
    · have g9 : v4_2.toInt = (0 : Int32).toInt := by rw [h_8]
      refine ok_some.mpr ?_
      exact ⟨(show -1 ≤ a1_1.toInt by omega), (show a1_1.toInt ≤ 11 by omega)⟩
    · have g10 : v4_2.toInt ≠ (0 : Int32).toInt := fun z => h_8 (Int32.toInt_inj.mp z)
      refine ok_nm2 (fun x6_2 ex6_2 => ?_)
      have f11 : (a1_1 + (1 : Int32)).toInt = a1_1.toInt + (1 : Int32).toInt := iadd_toInt (by omega) (by omega)
      have qx6_2 : x6_2.toInt = (a1_1 + 1).toInt := congrArg Int32.toInt ex6_2
      exact hrec_1 _ x6_2 (show (12 + 1 - x6_2.toInt).toNat < n_1 by omega) ⟨rfl, (show 0 ≤ x6_2.toInt by omega), (show x6_2.toInt ≤ 12 by omega)⟩
set_option maxRecDepth 20000 in
set_option maxHeartbeats 2000000 in
theorem o_fX6_begin {σ : gS} (hIσ : JC σ)   : Ok (fX6_begin σ ) (fun out => JC out.2 ∧ Fr fr_fX6_begin σ out.2) := by
  unfold fX6_begin
  have hfσ : Fr fr_fX6_begin σ σ := Fr_r
  refine ok_bd.mpr ((o_fX6_reset hIσ  ).mono (fun σ2 ho_2 => ?_))
  obtain ⟨hIσ2, hcσ2⟩ := ho_2
  have hfσ2 : Fr fr_fX6_begin σ σ2 := Fr_c hfσ hcσ2 (by decide)
  refine ok_nm2 (fun x3 ex3 => ?_)
  have f3 : (0 : Int32).toInt = 0 := by decide
  have qx3 : x3.toInt = 0 := by rw [ex3]; decide
  refine ok_nm2 (fun x4 ex4 => ?_)
  have qx4 : x4.toInt = 0 := by rw [ex4]; decide
  refine ok_lpc (I := fun n s => n = (12 + 1 - s.2.1.toInt).toNat ∧ JC s.2.2 ∧ Fr fr_fX6_begin σ s.2.2 ∧ 0 ≤ s.2.1.toInt ∧ s.2.1.toInt ≤ 12) (fun rec8_1r n_1 s_1 hs_1 hrec_1 => ?_) K9 ((12 + 1 - x4.toInt).toNat) (x3, x4, σ2) ⟨rfl, hIσ2, hfσ2, (show 0 ≤ x4.toInt by omega), (show x4.toInt ≤ 12 by omega)⟩ (by unfold K9; omega)
  obtain ⟨a1_1, a2_1, σ1_1⟩ := s_1
  obtain ⟨hn_1, hIσ1_1, hfσ1_1, b0a2_1, b1a2_1⟩ := hs_1
  dsimp only at hn_1 hIσ1_1 hfσ1_1 b0a2_1 b1a2_1
  unfold bX6_begin_8
  try dsimp only
  have f4 : (1 : Int32).toInt = 1 := by decide
  refine ok_gd.mpr ⟨gb_of (by omega) (by omega), ?_⟩
  refine ok_nm2 (fun v5_2 ev5_2 => ?_)
  have f5 : 0 ≤ (σ1_1.1 3 1).toInt ∧ (σ1_1.1 3 1).toInt ≤ 12 := hIσ1_1 3 1
  have qv5_2 : v5_2.toInt = (σ1_1.1 3 1).toInt := congrArg Int32.toInt ev5_2
  refine ok_ite.mpr ⟨fun h_6 => ?_, fun h_6 => ?_⟩
  · have g7 : v5_2.toInt ≤ a2_1.toInt := Int32.le_iff_toInt_le.mp h_6
    refine ok_bd.mpr ((o_fX6_putPoints hIσ1_1  ).mono (fun σ8_2 ho_9 => ?_))
    obtain ⟨hIσ8_2, hcσ8_2⟩ := ho_9
    have hfσ8_2 : Fr fr_fX6_begin σ σ8_2 := Fr_c hfσ1_1 hcσ8_2 (by decide)
    refine ok_some.mpr ?_
    exact ⟨hIσ8_2, hfσ8_2⟩
  · have g10 : ¬ v5_2.toInt ≤ a2_1.toInt := fun z => h_6 (Int32.le_iff_toInt_le.mpr z)
    refine ok_bd2.mpr ((o_fX6_findLinked hIσ1_1  ).mono (fun o_11 ho_12 => ?_))
    obtain ⟨r10_2, σ11_2⟩ := o_11
    obtain ⟨hIσ11_2, hcσ11_2, r0r10_2, r1r10_2⟩ := ho_12
    dsimp only at hIσ11_2 hcσ11_2 r0r10_2 r1r10_2 ⊢
    have hfσ11_2 : Fr fr_fX6_begin σ σ11_2 := Fr_c hfσ1_1 hcσ11_2 (by decide)
    refine ok_nm.mpr ?_
    refine ok_ite.mpr ⟨fun h_13 => ?_, fun h_13 => ?_⟩
    · have f14 : (-1 : Int32).toInt = -1 := by decide
      have g15 : r10_2.toInt = (-1 : Int32).toInt := by rw [h_13]
      refine ok_bd.mpr ((o_fX6_findUnstarted hIσ11_2  ).mono (fun r21_2_5 ho_17 => ?_))
      obtain ⟨r0r21_2_5, r1r21_2_5⟩ := ho_17
      refine ok_nm.mpr ?_
      refine ok_nm2 (fun x23_2_5_6 ex23_2_5_6 => ?_)
      have qx23_2_5_6 : x23_2_5_6.toInt = (a1_1 + 1).toInt := congrArg Int32.toInt ex23_2_5_6
      try unfold jX6_begin_47
      refine ok_ite.mpr ⟨fun h_18 => ?_, fun h_18 => ?_⟩
      · have g19 : r21_2_5.toInt = (-1 : Int32).toInt := by rw [h_18]
        refine ok_nm2 (fun x17_7 ex17_7 => ?_)
        have f20 : (a2_1 + (1 : Int32)).toInt = a2_1.toInt + (1 : Int32).toInt := iadd_toInt (by omega) (by omega)
        have qx17_7 : x17_7.toInt = (a2_1 + 1).toInt := congrArg Int32.toInt ex17_7
        exact hrec_1 _ (x23_2_5_6, x17_7, σ11_2) (show (12 + 1 - x17_7.toInt).toNat < n_1 by omega) ⟨rfl, hIσ11_2, hfσ11_2, (show 0 ≤ x17_7.toInt by omega), (show x17_7.toInt ≤ 12 by omega)⟩
      · have g21 : r21_2_5.toInt ≠ (-1 : Int32).toInt := fun z => h_18 (Int32.toInt_inj.mp z)
        refine ok_gd.mpr ⟨gb_of (by omega) (by omega), ?_⟩
        refine ok_nm2 (fun σ18_7 eσ18_7 => ?_)
        have hIσ18_7 : JC σ18_7 := by rw [eσ18_7]; exact JC_w hIσ11_2 (Int32.le_toInt _) (Int32.toInt_le _)
        have hfσ18_7 : Fr fr_fX6_begin σ σ18_7 := by rw [eσ18_7]; exact Fr_w0 hfσ11_2 (by decide)
        refine ok_nm2 (fun x19_7 ex19_7 => ?_)
        have f22 : (a2_1 + (1 : Int32)).toInt = a2_1.toInt + (1 : Int32).toInt := iadd_toInt (by omega) (by omega)
        have qx19_7 : x19_7.toInt = (a2_1 + 1).toInt := congrArg Int32.toInt ex19_7
        exact hrec_1 _ (x23_2_5_6, x19_7, σ18_7) (show (12 + 1 - x19_7.toInt).toNat < n_1 by omega) ⟨rfl, hIσ18_7, hfσ18_7, (show 0 ≤ x19_7.toInt by omega), (show x19_7.toInt ≤ 12 by omega)⟩
    · have f23 : (-1 : Int32).toInt = -1 := by decide
      have g24 : r10_2.toInt ≠ (-1 : Int32).toInt := fun z => h_13 (Int32.toInt_inj.mp z)
      refine ok_bd.mpr ((o_fX6_startLinked hIσ11_2 (p1 := r10_2) (by omega) (by omega)).mono (fun σ15_2_5 ho_26 => ?_))
      obtain ⟨hIσ15_2_5, hcσ15_2_5⟩ := ho_26
      have hfσ15_2_5 : Fr fr_fX6_begin σ σ15_2_5 := Fr_c hfσ11_2 hcσ15_2_5 (by decide)
      try unfold jX6_begin_47
      refine ok_ite.mpr ⟨fun h_27 => ?_, fun h_27 => ?_⟩
      · have g28 : r10_2.toInt = (-1 : Int32).toInt := by rw [h_27]
        exfalso
        omega
      · have g29 : r10_2.toInt ≠ (-1 : Int32).toInt := fun z => h_27 (Int32.toInt_inj.mp z)
        refine ok_gd.mpr ⟨gb_of (by omega) (by omega), ?_⟩
        refine ok_nm2 (fun σ18_8 eσ18_8 => ?_)
        have hIσ18_8 : JC σ18_8 := by rw [eσ18_8]; exact JC_w hIσ15_2_5 (Int32.le_toInt _) (Int32.toInt_le _)
        have hfσ18_8 : Fr fr_fX6_begin σ σ18_8 := by rw [eσ18_8]; exact Fr_w0 hfσ15_2_5 (by decide)
        refine ok_nm2 (fun x19_8 ex19_8 => ?_)
        have f30 : (a2_1 + (1 : Int32)).toInt = a2_1.toInt + (1 : Int32).toInt := iadd_toInt (by omega) (by omega)
        have qx19_8 : x19_8.toInt = (a2_1 + 1).toInt := congrArg Int32.toInt ex19_8
        exact hrec_1 _ (a1_1, x19_8, σ18_8) (show (12 + 1 - x19_8.toInt).toNat < n_1 by omega) ⟨rfl, hIσ18_8, hfσ18_8, (show 0 ≤ x19_8.toInt by omega), (show x19_8.toInt ≤ 12 by omega)⟩
set_option maxRecDepth 20000 in
set_option maxHeartbeats 2000000 in
theorem o_fX9_block {σ : gS} (hIσ : JC σ)   : Ok (fX9_block σ ) (fun out => JC out.2 ∧ Fr fr_fX9_block σ out.2 ∧ -1 ≤ out.1.toInt ∧ out.1.toInt ≤ 240 ∧ (out.2.1 0 1).toInt = 0) := by
  unfold fX9_block
  have hfσ : Fr fr_fX9_block σ σ := Fr_r
  have f1 : 0 ≤ (σ.1 0 1).toInt ∧ (σ.1 0 1).toInt ≤ 1600 := hIσ 0 1
  refine ok_bd2.mpr ((o_fX3_read hIσ (p1 := (σ.1 0 1)) (by omega) (by omega)).mono (fun o_2 ho_3 => ?_))
  obtain ⟨r2, σ3⟩ := o_2
  obtain ⟨hIσ3, hcσ3, r0r2, r1r2⟩ := ho_3
  dsimp only at hIσ3 hcσ3 r0r2 r1r2 ⊢
  have hfσ3 : Fr fr_fX9_block σ σ3 := Fr_c hfσ hcσ3 (by decide)
  have sσ3_0_1 : (σ3.1 0 1).toInt = (σ.1 0 1).toInt := by rw [(hcσ3 0 1 (by decide) (by decide)).1]
  refine ok_nm.mpr ?_
  refine ok_nm2 (fun σ5_1 eσ5_1 => ?_)
  have f4 : (0 : Int32).toInt = 0 := by decide
  have hIσ5_1 : JC σ5_1 := by rw [eσ5_1]; exact JC_w hIσ3 (show 0 ≤ _ by omega) (show _ ≤ 1600 by omega)
  have hfσ5_1 : Fr fr_fX9_block σ σ5_1 := by rw [eσ5_1]; exact Fr_w hfσ3 (by decide)
  have sσ5_1_0_1 : (σ5_1.1 0 1).toInt = (0 : Int32).toInt := by rw [eσ5_1]; rfl
  have sσ5_1_46_2 : (σ5_1.1 46 2).toInt = (σ3.1 46 2).toInt := by rw [eσ5_1]; rfl
  have sσ5_1_46_3 : (σ5_1.1 46 3).toInt = (σ3.1 46 3).toInt := by rw [eσ5_1]; rfl
  refine ok_nm2 (fun σ6_1 eσ6_1 => ?_)
  have hIσ6_1 : JC σ6_1 := by rw [eσ6_1]; exact JC_w hIσ5_1 (Int32.le_toInt _) (Int32.toInt_le _)
  have hfσ6_1 : Fr fr_fX9_block σ σ6_1 := by rw [eσ6_1]; exact Fr_w hfσ5_1 (by decide)
  have sσ6_1_0_1 : (σ6_1.1 0 1).toInt = (σ5_1.1 0 1).toInt := by rw [eσ6_1]; rfl
  have sσ6_1_46_2 : (σ6_1.1 46 2).toInt = (σ5_1.1 46 2).toInt := by rw [eσ6_1]; rfl
  have sσ6_1_46_3 : (σ6_1.1 46 3).toInt = (σ5_1.1 46 3).toInt := by rw [eσ6_1]; rfl
  refine ok_nm2 (fun σ7_1 eσ7_1 => ?_)
  have hIσ7_1 : JC σ7_1 := by rw [eσ7_1]; exact JC_w hIσ6_1 (Int32.le_toInt _) (Int32.toInt_le _)
  have hfσ7_1 : Fr fr_fX9_block σ σ7_1 := by rw [eσ7_1]; exact Fr_w hfσ6_1 (by decide)
  have sσ7_1_0_1 : (σ7_1.1 0 1).toInt = (σ6_1.1 0 1).toInt := by rw [eσ7_1]; rfl
  have sσ7_1_46_2 : (σ7_1.1 46 2).toInt = (σ6_1.1 46 2).toInt := by rw [eσ7_1]; rfl
  have sσ7_1_46_3 : (σ7_1.1 46 3).toInt = (σ6_1.1 46 3).toInt := by rw [eσ7_1]; rfl
  refine ok_ite.mpr ⟨fun h_5 => ?_, fun h_5 => ?_⟩
  · have f6 : (-1 : Int32).toInt = -1 := by decide
    have g7 : r2.toInt = (-1 : Int32).toInt := by rw [h_5]
    refine ok_some.mpr ?_
    exact ⟨hIσ7_1, hfσ7_1, (show -1 ≤ (-1 : Int32).toInt by omega), (show (-1 : Int32).toInt ≤ 240 by omega), (show (σ7_1.1 0 1).toInt = 0 by omega)⟩
  · have f8 : (-1 : Int32).toInt = -1 := by decide
    have g9 : r2.toInt ≠ (-1 : Int32).toInt := fun z => h_5 (Int32.toInt_inj.mp z)
    refine ok_bd.mpr ((o_fX8_takeFrom_2_24 hIσ7_1  ).mono (fun σ10_1 ho_11 => ?_))
    obtain ⟨hIσ10_1, hcσ10_1⟩ := ho_11
    have hfσ10_1 : Fr fr_fX9_block σ σ10_1 := Fr_c hfσ7_1 hcσ10_1 (by decide)
    have sσ10_1_0_1 : (σ10_1.1 0 1).toInt = (σ7_1.1 0 1).toInt := by rw [(hcσ10_1 0 1 (by decide) (by decide)).1]
    have sσ10_1_46_2 : (σ10_1.1 46 2).toInt = (σ7_1.1 46 2).toInt := by rw [(hcσ10_1 46 2 (by decide) (by decide)).1]
    have sσ10_1_46_3 : (σ10_1.1 46 3).toInt = (σ7_1.1 46 3).toInt := by rw [(hcσ10_1 46 3 (by decide) (by decide)).1]
    refine ok_nm2 (fun σ11_1 eσ11_1 => ?_)
    have hIσ11_1 : JC σ11_1 := by rw [eσ11_1]; exact JC_w hIσ10_1 (Int32.le_toInt _) (Int32.toInt_le _)
    have hfσ11_1 : Fr fr_fX9_block σ σ11_1 := by rw [eσ11_1]; exact Fr_w hfσ10_1 (by decide)
    have sσ11_1_0_1 : (σ11_1.1 0 1).toInt = (σ10_1.1 0 1).toInt := by rw [eσ11_1]; rfl
    have sσ11_1_46_2 : (σ11_1.1 46 2).toInt = (σ10_1.1 46 2).toInt := by rw [eσ11_1]; rfl
    have sσ11_1_46_3 : (σ11_1.1 46 3).toInt = (σ10_1.1 46 3).toInt := by rw [eσ11_1]; rfl
    refine ok_bd.mpr ((o_fill (c := 58) (v := (0 : Int32)) hIσ11_1 (by decide) (fun i => ⟨show -2147483648 ≤ (0 : Int32).toInt by decide, show (0 : Int32).toInt ≤ 2147483647 by decide⟩)).mono (fun σ13_1 ho_12 => ?_))
    obtain ⟨hIσ13_1, hcσ13_1, hvσ13_1⟩ := ho_12
    have hfσ13_1 : Fr fr_fX9_block σ σ13_1 := Fr_c hfσ11_1 hcσ13_1 (by decide)
    have sσ13_1_0_1 : (σ13_1.1 0 1).toInt = (σ11_1.1 0 1).toInt := by rw [(hcσ13_1 0 1 (by simp) (by simp)).1]
    have sσ13_1_46_2 : (σ13_1.1 46 2).toInt = (σ11_1.1 46 2).toInt := by rw [(hcσ13_1 46 2 (by simp) (by simp)).1]
    have sσ13_1_46_3 : (σ13_1.1 46 3).toInt = (σ11_1.1 46 3).toInt := by rw [(hcσ13_1 46 3 (by simp) (by simp)).1]
    refine ok_bd2.mpr ((o_fX6_begin hIσ13_1  ).mono (fun o_13 ho_14 => ?_))
    obtain ⟨r15_1, σ16_1⟩ := o_13
    obtain ⟨hIσ16_1, hcσ16_1⟩ := ho_14
    dsimp only at hIσ16_1 hcσ16_1 ⊢
    have hfσ16_1 : Fr fr_fX9_block σ σ16_1 := Fr_c hfσ13_1 hcσ16_1 (by decide)
    have sσ16_1_0_1 : (σ16_1.1 0 1).toInt = (σ13_1.1 0 1).toInt := by rw [(hcσ16_1 0 1 (by decide) (by decide)).1]
    have sσ16_1_46_2 : (σ16_1.1 46 2).toInt = (σ13_1.1 46 2).toInt := by rw [(hcσ16_1 46 2 (by decide) (by decide)).1]
    have sσ16_1_46_3 : (σ16_1.1 46 3).toInt = (σ13_1.1 46 3).toInt := by rw [(hcσ16_1 46 3 (by decide) (by decide)).1]
    refine ok_some.mpr ?_
    exact ⟨hIσ16_1, hfσ16_1, (show -1 ≤ r2.toInt by omega), (show r2.toInt ≤ 240 by omega), (show (σ16_1.1 0 1).toInt = 0 by omega)⟩
set_option maxRecDepth 20000 in
set_option maxHeartbeats 2000000 in
theorem o_fX9_fault {σ : gS} (hIσ : JC σ) {p1 : Int32}  : Ok (fX9_fault σ p1) (fun _ => True) := by
  unfold fX9_fault
  refine ok_ite.mpr ⟨fun h_1 => ?_, fun h_1 => ?_⟩
  · have f2 : (0 : Int32).toInt = 0 := by decide
    have g3 : p1.toInt = (0 : Int32).toInt := by rw [h_1]
    refine ok_some.mpr ?_
    exact trivial
  · have f4 : (0 : Int32).toInt = 0 := by decide
    have g5 : p1.toInt ≠ (0 : Int32).toInt := fun z => h_1 (Int32.toInt_inj.mp z)
    refine ok_ite.mpr ⟨fun h_6 => ?_, fun h_6 => ?_⟩
    · have f7 : (1 : Int32).toInt = 1 := by decide
      have g8 : p1.toInt = (1 : Int32).toInt := by rw [h_6]
      refine ok_some.mpr ?_
      exact trivial
    · have f9 : (1 : Int32).toInt = 1 := by decide
      have g10 : p1.toInt ≠ (1 : Int32).toInt := fun z => h_6 (Int32.toInt_inj.mp z)
      refine ok_some.mpr ?_
      have f11 : (-1 : Int32).toInt = -1 := by decide
      exact trivial
set_option maxRecDepth 20000 in
set_option maxHeartbeats 2000000 in
theorem o_fX5_countFixed_47 {σ : gS} (hIσ : JC σ)   : Ok (fX5_countFixed_47 σ ) (fun _ => True) := by
  unfold fX5_countFixed_47
  refine ok_nm2 (fun x1 ex1 => ?_)
  have f1 : (0 : Int32).toInt = 0 := by decide
  have qx1 : x1.toInt = 0 := by rw [ex1]; decide
  refine ok_nm2 (fun x2 ex2 => ?_)
  have qx2 : x2.toInt = 0 := by rw [ex2]; decide
  refine ok_lpc (I := fun n s => n = (20 + 1 - s.2.toInt).toNat ∧ 0 ≤ s.2.toInt ∧ s.2.toInt ≤ 20) (fun rec4_1r n_1 s_1 hs_1 hrec_1 => ?_) K9 ((20 + 1 - x2.toInt).toNat) (x1, x2) ⟨rfl, (show 0 ≤ x2.toInt by omega), (show x2.toInt ≤ 20 by omega)⟩ (by unfold K9; omega)
  obtain ⟨a1_1, a2_1⟩ := s_1
  obtain ⟨hn_1, b0a2_1, b1a2_1⟩ := hs_1
  dsimp only at hn_1 b0a2_1 b1a2_1
  unfold bX5_countFixed_47_4
  try dsimp only
  have f2 : (2 : Int32).toInt = 2 := by decide
  refine ok_gd.mpr ⟨gb_of (by omega) (by omega), ?_⟩
  refine ok_nm2 (fun v3_30 ev3_30 => ?_)
  have f3 : 0 ≤ (σ.1 3 2).toInt ∧ (σ.1 3 2).toInt ≤ 20 := hIσ 3 2
  have qv3_30 : v3_30.toInt = (σ.1 3 2).toInt := congrArg Int32.toInt ev3_30
  refine ok_ite.mpr ⟨fun h_4 => ?_, fun h_4 => ?_⟩
  · have g5 : v3_30.toInt ≤ a2_1.toInt := Int32.le_iff_toInt_le.mp h_4
    refine ok_some.mpr ?_
    exact trivial
  · have g6 : ¬ v3_30.toInt ≤ a2_1.toInt := fun z => h_4 (Int32.le_iff_toInt_le.mpr z)
    refine ok_bd.mpr ?_
    try unfold fX5_isFixed_47
    refine ok_gd.mpr ⟨gb_of (by omega) (by omega), ?_⟩
    refine ok_nm2 (fun v1_31 ev1_31 => ?_)
    have qv1_31 : v1_31.toInt = (σ.1 16 a2_1.toNatClampNeg).toInt := congrArg Int32.toInt ev1_31
    refine ok_ite.mpr ⟨fun h_7 => ?_, fun h_7 => ?_⟩
    · have g8 : (v1_31 &&& (σ.1 47 1)).toInt = (0 : Int32).toInt := by rw [h_7]
      refine ok_some.mpr ?_
      refine ok_ite.mpr ⟨fun h_9 => ?_, fun h_9 => ?_⟩
      · have g10 : (0 : Int32).toInt = (0 : Int32).toInt := by rw [h_9]
        refine ok_nm2 (fun x8_30_32 ex8_30_32 => ?_)
        have f11 : (1 : Int32).toInt = 1 := by decide
        have f12 : (a2_1 + (1 : Int32)).toInt = a2_1.toInt + (1 : Int32).toInt := iadd_toInt (by omega) (by omega)
        have qx8_30_32 : x8_30_32.toInt = (a2_1 + 1).toInt := congrArg Int32.toInt ex8_30_32
        exact hrec_1 _ (a1_1, x8_30_32) (show (20 + 1 - x8_30_32.toInt).toNat < n_1 by omega) ⟨rfl, (show 0 ≤ x8_30_32.toInt by omega), (show x8_30_32.toInt ≤ 20 by omega)⟩
      · have g13 : (0 : Int32).toInt ≠ (0 : Int32).toInt := fun z => h_9 (Int32.toInt_inj.mp z)
        exfalso
        omega
    · have g14 : (v1_31 &&& (σ.1 47 1)).toInt ≠ (0 : Int32).toInt := fun z => h_7 (Int32.toInt_inj.mp z)
      refine ok_some.mpr ?_
      refine ok_ite.mpr ⟨fun h_15 => ?_, fun h_15 => ?_⟩
      · have f16 : (1 : Int32).toInt = 1 := by decide
        have g17 : (1 : Int32).toInt = (0 : Int32).toInt := by rw [h_15]
        exfalso
        omega
      · have f18 : (1 : Int32).toInt = 1 := by decide
        have g19 : (1 : Int32).toInt ≠ (0 : Int32).toInt := fun z => h_15 (Int32.toInt_inj.mp z)
        refine ok_nm2 (fun x9_30_33 ex9_30_33 => ?_)
        have qx9_30_33 : x9_30_33.toInt = (a1_1 + 1).toInt := congrArg Int32.toInt ex9_30_33
        refine ok_nm2 (fun x10_30_33 ex10_30_33 => ?_)
        have f20 : (a2_1 + (1 : Int32)).toInt = a2_1.toInt + (1 : Int32).toInt := iadd_toInt (by omega) (by omega)
        have qx10_30_33 : x10_30_33.toInt = (a2_1 + 1).toInt := congrArg Int32.toInt ex10_30_33
        exact hrec_1 _ (x9_30_33, x10_30_33) (show (20 + 1 - x10_30_33.toInt).toNat < n_1 by omega) ⟨rfl, (show 0 ≤ x10_30_33.toInt by omega), (show x10_30_33.toInt ≤ 20 by omega)⟩
set_option maxRecDepth 20000 in
set_option maxHeartbeats 2000000 in
theorem o_fX9_countDropped {σ : gS} (hIσ : JC σ)   : Ok (fX9_countDropped σ ) (fun _ => True) := by
  unfold fX9_countDropped
  refine ok_nm2 (fun x1 ex1 => ?_)
  have f1 : (0 : Int32).toInt = 0 := by decide
  have qx1 : x1.toInt = 0 := by rw [ex1]; decide
  refine ok_nm2 (fun x2 ex2 => ?_)
  have qx2 : x2.toInt = 0 := by rw [ex2]; decide
  refine ok_lpc (I := fun n s => n = (60 + 1 - s.2.toInt).toNat ∧ 0 ≤ s.2.toInt ∧ s.2.toInt ≤ 60) (fun rec4_1r n_1 s_1 hs_1 hrec_1 => ?_) K9 ((60 + 1 - x2.toInt).toNat) (x1, x2) ⟨rfl, (show 0 ≤ x2.toInt by omega), (show x2.toInt ≤ 60 by omega)⟩ (by unfold K9; omega)
  obtain ⟨a1_1, a2_1⟩ := s_1
  obtain ⟨hn_1, b0a2_1, b1a2_1⟩ := hs_1
  dsimp only at hn_1 b0a2_1 b1a2_1
  unfold bX9_countDropped_4
  try dsimp only
  have f2 : (3 : Int32).toInt = 3 := by decide
  refine ok_gd.mpr ⟨gb_of (by omega) (by omega), ?_⟩
  refine ok_nm2 (fun v3_30 ev3_30 => ?_)
  have f3 : 0 ≤ (σ.1 3 3).toInt ∧ (σ.1 3 3).toInt ≤ 60 := hIσ 3 3
  have qv3_30 : v3_30.toInt = (σ.1 3 3).toInt := congrArg Int32.toInt ev3_30
  refine ok_ite.mpr ⟨fun h_4 => ?_, fun h_4 => ?_⟩
  · have g5 : v3_30.toInt ≤ a2_1.toInt := Int32.le_iff_toInt_le.mp h_4
    refine ok_some.mpr ?_
    exact trivial
  · have g6 : ¬ v3_30.toInt ≤ a2_1.toInt := fun z => h_4 (Int32.le_iff_toInt_le.mpr z)
    refine ok_bd.mpr ?_
    try unfold fX5_uses_47
    refine ok_gd.mpr ⟨gb_of (by omega) (by omega), ?_⟩
    refine ok_nm2 (fun v1_31 ev1_31 => ?_)
    have qv1_31 : v1_31.toInt = (σ.1 58 a2_1.toNatClampNeg).toInt := congrArg Int32.toInt ev1_31
    refine ok_ite.mpr ⟨fun h_7 => ?_, fun h_7 => ?_⟩
    · have g8 : v1_31.toInt = (0 : Int32).toInt := by rw [h_7]
      refine ok_some.mpr ?_
      refine ok_ite.mpr ⟨fun h_9 => ?_, fun h_9 => ?_⟩
      · have f10 : (1 : Int32).toInt = 1 := by decide
        have g11 : (1 : Int32).toInt = (0 : Int32).toInt := by rw [h_9]
        exfalso
        omega
      · have f12 : (1 : Int32).toInt = 1 := by decide
        have g13 : (1 : Int32).toInt ≠ (0 : Int32).toInt := fun z => h_9 (Int32.toInt_inj.mp z)
        refine ok_nm2 (fun x8_30_32 ex8_30_32 => ?_)
        have f14 : (a2_1 + (1 : Int32)).toInt = a2_1.toInt + (1 : Int32).toInt := iadd_toInt (by omega) (by omega)
        have qx8_30_32 : x8_30_32.toInt = (a2_1 + 1).toInt := congrArg Int32.toInt ex8_30_32
        exact hrec_1 _ (a1_1, x8_30_32) (show (60 + 1 - x8_30_32.toInt).toNat < n_1 by omega) ⟨rfl, (show 0 ≤ x8_30_32.toInt by omega), (show x8_30_32.toInt ≤ 60 by omega)⟩
    · have g15 : v1_31.toInt ≠ (0 : Int32).toInt := fun z => h_7 (Int32.toInt_inj.mp z)
      refine ok_some.mpr ?_
      refine ok_ite.mpr ⟨fun h_16 => ?_, fun h_16 => ?_⟩
      · have g17 : (0 : Int32).toInt = (0 : Int32).toInt := by rw [h_16]
        refine ok_nm2 (fun x9_30_33 ex9_30_33 => ?_)
        have f18 : (1 : Int32).toInt = 1 := by decide
        have qx9_30_33 : x9_30_33.toInt = (a1_1 + 1).toInt := congrArg Int32.toInt ex9_30_33
        refine ok_nm2 (fun x10_30_33 ex10_30_33 => ?_)
        have f19 : (a2_1 + (1 : Int32)).toInt = a2_1.toInt + (1 : Int32).toInt := iadd_toInt (by omega) (by omega)
        have qx10_30_33 : x10_30_33.toInt = (a2_1 + 1).toInt := congrArg Int32.toInt ex10_30_33
        exact hrec_1 _ (x9_30_33, x10_30_33) (show (60 + 1 - x10_30_33.toInt).toNat < n_1 by omega) ⟨rfl, (show 0 ≤ x10_30_33.toInt by omega), (show x10_30_33.toInt ≤ 60 by omega)⟩
      · have g20 : (0 : Int32).toInt ≠ (0 : Int32).toInt := fun z => h_16 (Int32.toInt_inj.mp z)
        exfalso
        omega
set_option maxRecDepth 20000 in
set_option maxHeartbeats 2000000 in
theorem o_fX9_has {σ : gS} (hIσ : JC σ) {p1 : Int32}  : Ok (fX9_has σ p1) (fun _ => True) := by
  unfold fX9_has
  refine ok_ite.mpr ⟨fun h_1 => ?_, fun h_1 => ?_⟩
  · have f2 : (0 : Int32).toInt = 0 := by decide
    have g3 : p1.toInt < (0 : Int32).toInt := Int32.lt_iff_toInt_lt.mp h_1
    try unfold jX9_has_19
    refine ok_ite.mpr ⟨fun h_4 => ?_, fun h_4 => ?_⟩
    · have f5 : (6 : Int32).toInt = 6 := by decide
      have g6 : p1.toInt = (6 : Int32).toInt := by rw [h_4]
      exfalso
      omega
    · have f7 : (6 : Int32).toInt = 6 := by decide
      have g8 : p1.toInt ≠ (6 : Int32).toInt := fun z => h_4 (Int32.toInt_inj.mp z)
      refine ok_ite.mpr ⟨fun h_9 => ?_, fun h_9 => ?_⟩
      · have f10 : (7 : Int32).toInt = 7 := by decide
        have g11 : p1.toInt = (7 : Int32).toInt := by rw [h_9]
        exfalso
        omega
      · have f12 : (7 : Int32).toInt = 7 := by decide
        have g13 : p1.toInt ≠ (7 : Int32).toInt := fun z => h_9 (Int32.toInt_inj.mp z)
        refine ok_ite.mpr ⟨fun h_14 => ?_, fun h_14 => ?_⟩
        · have f15 : (8 : Int32).toInt = 8 := by decide
          have g16 : p1.toInt = (8 : Int32).toInt := by rw [h_14]
          exfalso
          omega
        · have f17 : (8 : Int32).toInt = 8 := by decide
          have g18 : p1.toInt ≠ (8 : Int32).toInt := fun z => h_14 (Int32.toInt_inj.mp z)
          refine ok_some.mpr ?_
          have f19 : (-1 : Int32).toInt = -1 := by decide
          exact trivial
  · have f20 : (0 : Int32).toInt = 0 := by decide
    have g21 : ¬ p1.toInt < (0 : Int32).toInt := fun z => h_1 (Int32.lt_iff_toInt_lt.mpr z)
    refine ok_ite.mpr ⟨fun h_22 => ?_, fun h_22 => ?_⟩
    · have f23 : (5 : Int32).toInt = 5 := by decide
      have g24 : (5 : Int32).toInt < p1.toInt := Int32.lt_iff_toInt_lt.mp h_22
      try unfold jX9_has_19
      refine ok_ite.mpr ⟨fun h_25 => ?_, fun h_25 => ?_⟩
      · have f26 : (6 : Int32).toInt = 6 := by decide
        have g27 : p1.toInt = (6 : Int32).toInt := by rw [h_25]
        refine ok_bd.mpr ((o_fX9_countDropped hIσ  ).mono (fun r8_2 ho_29 => ?_))
        refine ok_some.mpr ?_
        exact trivial
      · have f30 : (6 : Int32).toInt = 6 := by decide
        have g31 : p1.toInt ≠ (6 : Int32).toInt := fun z => h_25 (Int32.toInt_inj.mp z)
        refine ok_ite.mpr ⟨fun h_32 => ?_, fun h_32 => ?_⟩
        · have f33 : (7 : Int32).toInt = 7 := by decide
          have g34 : p1.toInt = (7 : Int32).toInt := by rw [h_32]
          refine ok_some.mpr ?_
          exact trivial
        · have f35 : (7 : Int32).toInt = 7 := by decide
          have g36 : p1.toInt ≠ (7 : Int32).toInt := fun z => h_32 (Int32.toInt_inj.mp z)
          refine ok_ite.mpr ⟨fun h_37 => ?_, fun h_37 => ?_⟩
          · have f38 : (8 : Int32).toInt = 8 := by decide
            have g39 : p1.toInt = (8 : Int32).toInt := by rw [h_37]
            refine ok_bd.mpr ((o_fX5_countFixed_47 hIσ  ).mono (fun r6_2 ho_41 => ?_))
            refine ok_some.mpr ?_
            exact trivial
          · have f42 : (8 : Int32).toInt = 8 := by decide
            have g43 : p1.toInt ≠ (8 : Int32).toInt := fun z => h_37 (Int32.toInt_inj.mp z)
            refine ok_some.mpr ?_
            have f44 : (-1 : Int32).toInt = -1 := by decide
            exact trivial
    · have f45 : (5 : Int32).toInt = 5 := by decide
      have g46 : ¬ (5 : Int32).toInt < p1.toInt := fun z => h_22 (Int32.lt_iff_toInt_lt.mpr z)
      refine ok_gd.mpr ⟨gb_of (by omega) (by omega), ?_⟩
      refine ok_nm2 (fun v10 ev10 => ?_)
      have f48 : p1.toNatClampNeg = p1.toInt.toNat := rfl
      have f48_ : (p1.toNatClampNeg = 0 ∧ 0 ≤ (σ.1 3 p1.toNatClampNeg).toInt ∧ (σ.1 3 p1.toNatClampNeg).toInt ≤ 6) ∨ (p1.toNatClampNeg = 1 ∧ 0 ≤ (σ.1 3 p1.toNatClampNeg).toInt ∧ (σ.1 3 p1.toNatClampNeg).toInt ≤ 12) ∨ (p1.toNatClampNeg = 2 ∧ 0 ≤ (σ.1 3 p1.toNatClampNeg).toInt ∧ (σ.1 3 p1.toNatClampNeg).toInt ≤ 20) ∨ (p1.toNatClampNeg = 3 ∧ 0 ≤ (σ.1 3 p1.toNatClampNeg).toInt ∧ (σ.1 3 p1.toNatClampNeg).toInt ≤ 60) ∨ (p1.toNatClampNeg = 4 ∧ -2147483648 ≤ (σ.1 3 p1.toNatClampNeg).toInt ∧ (σ.1 3 p1.toNatClampNeg).toInt ≤ 2147483647) ∨ (p1.toNatClampNeg = 5 ∧ -2147483648 ≤ (σ.1 3 p1.toNatClampNeg).toInt ∧ (σ.1 3 p1.toNatClampNeg).toInt ≤ 2147483647) := by
        have hb := hIσ 3 p1.toNatClampNeg
        have hj : p1.toNatClampNeg = 0 ∨ p1.toNatClampNeg = 1 ∨ p1.toNatClampNeg = 2 ∨ p1.toNatClampNeg = 3 ∨ p1.toNatClampNeg = 4 ∨ p1.toNatClampNeg = 5 := by omega
        generalize p1.toNatClampNeg = j at hb hj ⊢
        rcases hj with rfl | rfl | rfl | rfl | rfl | rfl
        · exact .inl ⟨rfl, hb.1, hb.2⟩
        · exact .inr (.inl ⟨rfl, hb.1, hb.2⟩)
        · exact .inr (.inr (.inl ⟨rfl, hb.1, hb.2⟩))
        · exact .inr (.inr (.inr (.inl ⟨rfl, hb.1, hb.2⟩)))
        · exact .inr (.inr (.inr (.inr (.inl ⟨rfl, hb.1, hb.2⟩))))
        · exact .inr (.inr (.inr (.inr (.inr (⟨rfl, hb.1, hb.2⟩)))))
      have qv10 : v10.toInt = (σ.1 3 p1.toNatClampNeg).toInt := congrArg Int32.toInt ev10
      refine ok_some.mpr ?_
      exact trivial
set_option maxRecDepth 20000 in
set_option maxHeartbeats 2000000 in
theorem o_fX8_exists_2 {σ : gS} (hIσ : JC σ) {p1 : Int32} {p2 : Int32} (h0p1 : 0 ≤ p1.toInt) (h1p1 : p1.toInt ≤ 5) : Ok (fX8_exists_2 σ p1 p2) (fun out => 0 ≤ out.toInt ∧ out.toInt ≤ 1) := by
  unfold fX8_exists_2
  refine ok_ite.mpr ⟨fun h_1 => ?_, fun h_1 => ?_⟩
  · have f2 : (0 : Int32).toInt = 0 := by decide
    have g3 : p2.toInt < (0 : Int32).toInt := Int32.lt_iff_toInt_lt.mp h_1
    refine ok_some.mpr ?_
    exact ⟨(show 0 ≤ (0 : Int32).toInt by omega), (show (0 : Int32).toInt ≤ 1 by omega)⟩
  · have f4 : (0 : Int32).toInt = 0 := by decide
    have g5 : ¬ p2.toInt < (0 : Int32).toInt := fun z => h_1 (Int32.lt_iff_toInt_lt.mpr z)
    refine ok_gd.mpr ⟨gb_of (by omega) (by omega), ?_⟩
    refine ok_nm2 (fun v2 ev2 => ?_)
    have f7 : p1.toNatClampNeg = p1.toInt.toNat := rfl
    have f7_ : (p1.toNatClampNeg = 0 ∧ 0 ≤ (σ.1 3 p1.toNatClampNeg).toInt ∧ (σ.1 3 p1.toNatClampNeg).toInt ≤ 6) ∨ (p1.toNatClampNeg = 1 ∧ 0 ≤ (σ.1 3 p1.toNatClampNeg).toInt ∧ (σ.1 3 p1.toNatClampNeg).toInt ≤ 12) ∨ (p1.toNatClampNeg = 2 ∧ 0 ≤ (σ.1 3 p1.toNatClampNeg).toInt ∧ (σ.1 3 p1.toNatClampNeg).toInt ≤ 20) ∨ (p1.toNatClampNeg = 3 ∧ 0 ≤ (σ.1 3 p1.toNatClampNeg).toInt ∧ (σ.1 3 p1.toNatClampNeg).toInt ≤ 60) ∨ (p1.toNatClampNeg = 4 ∧ -2147483648 ≤ (σ.1 3 p1.toNatClampNeg).toInt ∧ (σ.1 3 p1.toNatClampNeg).toInt ≤ 2147483647) ∨ (p1.toNatClampNeg = 5 ∧ -2147483648 ≤ (σ.1 3 p1.toNatClampNeg).toInt ∧ (σ.1 3 p1.toNatClampNeg).toInt ≤ 2147483647) := by
      have hb := hIσ 3 p1.toNatClampNeg
      have hj : p1.toNatClampNeg = 0 ∨ p1.toNatClampNeg = 1 ∨ p1.toNatClampNeg = 2 ∨ p1.toNatClampNeg = 3 ∨ p1.toNatClampNeg = 4 ∨ p1.toNatClampNeg = 5 := by omega
      generalize p1.toNatClampNeg = j at hb hj ⊢
      rcases hj with rfl | rfl | rfl | rfl | rfl | rfl
      · exact .inl ⟨rfl, hb.1, hb.2⟩
      · exact .inr (.inl ⟨rfl, hb.1, hb.2⟩)
      · exact .inr (.inr (.inl ⟨rfl, hb.1, hb.2⟩))
      · exact .inr (.inr (.inr (.inl ⟨rfl, hb.1, hb.2⟩)))
      · exact .inr (.inr (.inr (.inr (.inl ⟨rfl, hb.1, hb.2⟩))))
      · exact .inr (.inr (.inr (.inr (.inr (⟨rfl, hb.1, hb.2⟩)))))
    have qv2 : v2.toInt = (σ.1 3 p1.toNatClampNeg).toInt := congrArg Int32.toInt ev2
    refine ok_ite.mpr ⟨fun h_8 => ?_, fun h_8 => ?_⟩
    · have g9 : v2.toInt ≤ p2.toInt := Int32.le_iff_toInt_le.mp h_8
      refine ok_some.mpr ?_
      exact ⟨(show 0 ≤ (0 : Int32).toInt by omega), (show (0 : Int32).toInt ≤ 1 by omega)⟩
    · have g10 : ¬ v2.toInt ≤ p2.toInt := fun z => h_8 (Int32.le_iff_toInt_le.mpr z)
      refine ok_some.mpr ?_
      have f11 : (1 : Int32).toInt = 1 := by decide
      exact ⟨(show 0 ≤ (1 : Int32).toInt by omega), (show (1 : Int32).toInt ≤ 1 by omega)⟩
set_option maxRecDepth 20000 in
set_option maxHeartbeats 2000000 in
theorem o_fX9_letter {σ : gS} (hIσ : JC σ) {p1 : Int32} {p2 : Int32} {p3 : Int32}  : Ok (fX9_letter σ p1 p2 p3) (fun _ => True) := by
  unfold fX9_letter
  refine ok_ite.mpr ⟨fun h_1 => ?_, fun h_1 => ?_⟩
  · have f2 : (0 : Int32).toInt = 0 := by decide
    have g3 : p1.toInt < (0 : Int32).toInt := Int32.lt_iff_toInt_lt.mp h_1
    refine ok_some.mpr ?_
    have f4 : (-1 : Int32).toInt = -1 := by decide
    exact trivial
  · have f5 : (0 : Int32).toInt = 0 := by decide
    have g6 : ¬ p1.toInt < (0 : Int32).toInt := fun z => h_1 (Int32.lt_iff_toInt_lt.mpr z)
    refine ok_ite.mpr ⟨fun h_7 => ?_, fun h_7 => ?_⟩
    · have f8 : (2 : Int32).toInt = 2 := by decide
      have g9 : (2 : Int32).toInt < p1.toInt := Int32.lt_iff_toInt_lt.mp h_7
      refine ok_some.mpr ?_
      have f10 : (-1 : Int32).toInt = -1 := by decide
      exact trivial
    · have f11 : (2 : Int32).toInt = 2 := by decide
      have g12 : ¬ (2 : Int32).toInt < p1.toInt := fun z => h_7 (Int32.lt_iff_toInt_lt.mpr z)
      refine ok_bd.mpr ?_
      try unfold fX8_exists_2
      refine ok_ite.mpr ⟨fun h_13 => ?_, fun h_13 => ?_⟩
      · have g14 : p2.toInt < (0 : Int32).toInt := Int32.lt_iff_toInt_lt.mp h_13
        refine ok_some.mpr ?_
        refine ok_ite.mpr ⟨fun h_15 => ?_, fun h_15 => ?_⟩
        · have g16 : (0 : Int32).toInt = (0 : Int32).toInt := by rw [h_15]
          refine ok_some.mpr ?_
          have f17 : (-1 : Int32).toInt = -1 := by decide
          exact trivial
        · have g18 : (0 : Int32).toInt ≠ (0 : Int32).toInt := fun z => h_15 (Int32.toInt_inj.mp z)
          exfalso
          omega
      · have g19 : ¬ p2.toInt < (0 : Int32).toInt := fun z => h_13 (Int32.lt_iff_toInt_lt.mpr z)
        refine ok_gd.mpr ⟨gb_of (by omega) (by omega), ?_⟩
        refine ok_nm2 (fun v2_1 ev2_1 => ?_)
        have f21 : p1.toNatClampNeg = p1.toInt.toNat := rfl
        have f21_ : (p1.toNatClampNeg = 0 ∧ 0 ≤ (σ.1 3 p1.toNatClampNeg).toInt ∧ (σ.1 3 p1.toNatClampNeg).toInt ≤ 6) ∨ (p1.toNatClampNeg = 1 ∧ 0 ≤ (σ.1 3 p1.toNatClampNeg).toInt ∧ (σ.1 3 p1.toNatClampNeg).toInt ≤ 12) ∨ (p1.toNatClampNeg = 2 ∧ 0 ≤ (σ.1 3 p1.toNatClampNeg).toInt ∧ (σ.1 3 p1.toNatClampNeg).toInt ≤ 20) := by
          have hb := hIσ 3 p1.toNatClampNeg
          have hj : p1.toNatClampNeg = 0 ∨ p1.toNatClampNeg = 1 ∨ p1.toNatClampNeg = 2 := by omega
          generalize p1.toNatClampNeg = j at hb hj ⊢
          rcases hj with rfl | rfl | rfl
          · exact .inl ⟨rfl, hb.1, hb.2⟩
          · exact .inr (.inl ⟨rfl, hb.1, hb.2⟩)
          · exact .inr (.inr (⟨rfl, hb.1, hb.2⟩))
        have qv2_1 : v2_1.toInt = (σ.1 3 p1.toNatClampNeg).toInt := congrArg Int32.toInt ev2_1
        refine ok_ite.mpr ⟨fun h_22 => ?_, fun h_22 => ?_⟩
        · have g23 : v2_1.toInt ≤ p2.toInt := Int32.le_iff_toInt_le.mp h_22
          refine ok_some.mpr ?_
          refine ok_ite.mpr ⟨fun h_24 => ?_, fun h_24 => ?_⟩
          · have g25 : (0 : Int32).toInt = (0 : Int32).toInt := by rw [h_24]
            refine ok_some.mpr ?_
            have f26 : (-1 : Int32).toInt = -1 := by decide
            exact trivial
          · have g27 : (0 : Int32).toInt ≠ (0 : Int32).toInt := fun z => h_24 (Int32.toInt_inj.mp z)
            exfalso
            omega
        · have g28 : ¬ v2_1.toInt ≤ p2.toInt := fun z => h_22 (Int32.le_iff_toInt_le.mpr z)
          refine ok_some.mpr ?_
          refine ok_ite.mpr ⟨fun h_29 => ?_, fun h_29 => ?_⟩
          · have f30 : (1 : Int32).toInt = 1 := by decide
            have g31 : (1 : Int32).toInt = (0 : Int32).toInt := by rw [h_29]
            exfalso
            omega
          · have f32 : (1 : Int32).toInt = 1 := by decide
            have g33 : (1 : Int32).toInt ≠ (0 : Int32).toInt := fun z => h_29 (Int32.toInt_inj.mp z)
            refine ok_ite.mpr ⟨fun h_34 => ?_, fun h_34 => ?_⟩
            · have g35 : p3.toInt < (0 : Int32).toInt := Int32.lt_iff_toInt_lt.mp h_34
              refine ok_some.mpr ?_
              have f36 : (-1 : Int32).toInt = -1 := by decide
              exact trivial
            · have g37 : ¬ p3.toInt < (0 : Int32).toInt := fun z => h_34 (Int32.lt_iff_toInt_lt.mpr z)
              refine ok_ite.mpr ⟨fun h_38 => ?_, fun h_38 => ?_⟩
              · have f39 : (6 : Int32).toInt = 6 := by decide
                have g40 : p3.toInt < (6 : Int32).toInt := Int32.lt_iff_toInt_lt.mp h_38
                refine ok_gd.mpr ⟨gb_of (by omega) (by omega), ?_⟩
                refine ok_gd.mpr ⟨gb_of (by omega) (by omega), ?_⟩
                refine ok_nm2 (fun v9_4 ev9_4 => ?_)
                have qv9_4 : v9_4.toInt = (σ.1 (5 + p1.toNatClampNeg) p2.toNatClampNeg).toInt := congrArg Int32.toInt ev9_4
                refine ok_nm.mpr ?_
                refine ok_nm2 (fun x11_4_5 ex11_4_5 => ?_)
                have f41 : (5 : Int32).toInt = 5 := by decide
                have qx11_4_5 : x11_4_5.toInt = 5 := by rw [ex11_4_5]; decide
                have kb43 : 5 ≤ x11_4_5.toInt ∧ x11_4_5.toInt ≤ 5 := by omega
                have kb42 : 1 ≤ v2_1.toInt ∧ v2_1.toInt ≤ 20 := by omega
                refine ok_lpc (I := fun n s => n = (s.2.toInt - (0) + 1).toNat ∧ 0 ≤ s.2.toInt ∧ s.2.toInt ≤ 5) (fun rec51_6r n_6 s_6 hs_6 hrec_6 => ?_) K9 ((x11_4_5.toInt - (0) + 1).toNat) (v9_4, x11_4_5) ⟨rfl, (show 0 ≤ x11_4_5.toInt by omega), (show x11_4_5.toInt ≤ 5 by omega)⟩ (by unfold K9; omega)
                obtain ⟨a4_6, a5_6⟩ := s_6
                obtain ⟨hn_6, b0a5_6, b1a5_6⟩ := hs_6
                dsimp only at hn_6 b0a5_6 b1a5_6
                unfold bX9_letter_51
                try dsimp only
                clear qx11_4_5 qv9_4 qv2_1 f21_ f21
                refine ok_ite.mpr ⟨fun h_44 => ?_, fun h_44 => ?_⟩
                · have g45 : a5_6.toInt ≤ p3.toInt := Int32.le_iff_toInt_le.mp h_44
                  refine ok_some.mpr ?_
                  exact trivial
                · have g46 : ¬ a5_6.toInt ≤ p3.toInt := fun z => h_44 (Int32.le_iff_toInt_le.mpr z)
                  refine ok_nm2 (fun x13_7 ex13_7 => ?_)
                  have qx13_7 : x13_7.toInt = (a4_6 / 27).toInt := congrArg Int32.toInt ex13_7
                  refine ok_nm2 (fun x14_7 ex14_7 => ?_)
                  have f47 : (a5_6 + (-1 : Int32)).toInt = a5_6.toInt - 1 := iaddn_toInt (by decide) (by omega) (by omega)
                  have qx14_7 : x14_7.toInt = (a5_6 + (-1)).toInt := congrArg Int32.toInt ex14_7
                  clear qx14_7 f47
                  have dl48 : 1 ≤ a5_6.toInt := by omega
                  have dM48 := w9_dnM ex14_7 hn_6 dl48 (by decide)
                  have d048 : 0 ≤ x14_7.toInt := w9_dn0 ex14_7 dl48 (by decide)
                  have d148 : x14_7.toInt ≤ 5 := w9_dn1 ex14_7 dl48 (by decide) b1a5_6
                  exact hrec_6 _ (x13_7, x14_7) dM48 ⟨rfl, d048, d148⟩
              · have f49 : (6 : Int32).toInt = 6 := by decide
                have g50 : ¬ p3.toInt < (6 : Int32).toInt := fun z => h_38 (Int32.lt_iff_toInt_lt.mpr z)
                refine ok_some.mpr ?_
                have f51 : (-1 : Int32).toInt = -1 := by decide
                exact trivial
set_option maxRecDepth 20000 in
set_option maxHeartbeats 2000000 in
theorem o_fX5_countRows_47 {σ : gS} (hIσ : JC σ) {p1 : Nat} {p2 : Int32} (h0p1 : 10 ≤ p1) (h1p1 : p1 ≤ 11) : Ok (fX5_countRows_47 σ p1 p2) (fun _ => True) := by
  unfold fX5_countRows_47
  refine ok_nm2 (fun x1 ex1 => ?_)
  have f1 : (0 : Int32).toInt = 0 := by decide
  have qx1 : x1.toInt = 0 := by rw [ex1]; decide
  refine ok_nm2 (fun x2 ex2 => ?_)
  have qx2 : x2.toInt = 0 := by rw [ex2]; decide
  refine ok_lpc (I := fun n s => n = (60 + 1 - s.2.toInt).toNat ∧ 0 ≤ s.2.toInt ∧ s.2.toInt ≤ 60) (fun rec5_1r n_1 s_1 hs_1 hrec_1 => ?_) K9 ((60 + 1 - x2.toInt).toNat) (x1, x2) ⟨rfl, (show 0 ≤ x2.toInt by omega), (show x2.toInt ≤ 60 by omega)⟩ (by unfold K9; omega)
  obtain ⟨a3_1, a4_1⟩ := s_1
  obtain ⟨hn_1, b0a4_1, b1a4_1⟩ := hs_1
  dsimp only at hn_1 b0a4_1 b1a4_1
  unfold bX5_countRows_47_5
  try dsimp only
  have f2 : (3 : Int32).toInt = 3 := by decide
  refine ok_gd.mpr ⟨gb_of (by omega) (by omega), ?_⟩
  refine ok_nm2 (fun v3_30 ev3_30 => ?_)
  have f3 : 0 ≤ (σ.1 3 3).toInt ∧ (σ.1 3 3).toInt ≤ 60 := hIσ 3 3
  have qv3_30 : v3_30.toInt = (σ.1 3 3).toInt := congrArg Int32.toInt ev3_30
  refine ok_ite.mpr ⟨fun h_4 => ?_, fun h_4 => ?_⟩
  · have g5 : v3_30.toInt ≤ a4_1.toInt := Int32.le_iff_toInt_le.mp h_4
    refine ok_some.mpr ?_
    exact trivial
  · have g6 : ¬ v3_30.toInt ≤ a4_1.toInt := fun z => h_4 (Int32.le_iff_toInt_le.mpr z)
    have f7 : 60 ≤ (gsz zC.1 0 0 p1) ∧ (gsz zC.1 0 0 p1) ≤ 60 := by
      have hj : p1 = 10 ∨ p1 = 11 := by omega
      rcases hj with hj | hj <;> rw [hj] <;> decide
    refine ok_gd.mpr ⟨gb_of (by omega) (by omega), ?_⟩
    refine ok_nm2 (fun v5_30 ev5_30 => ?_)
    have qv5_30 : v5_30.toInt = (σ.1 p1 a4_1.toNatClampNeg).toInt := congrArg Int32.toInt ev5_30
    refine ok_ite.mpr ⟨fun h_8 => ?_, fun h_8 => ?_⟩
    · have g9 : v5_30.toInt = p2.toInt := by rw [h_8]
      refine ok_bd.mpr ?_
      try unfold fX5_uses_47
      refine ok_gd.mpr ⟨gb_of (by omega) (by omega), ?_⟩
      refine ok_nm2 (fun v1_31 ev1_31 => ?_)
      have qv1_31 : v1_31.toInt = (σ.1 58 a4_1.toNatClampNeg).toInt := congrArg Int32.toInt ev1_31
      refine ok_ite.mpr ⟨fun h_10 => ?_, fun h_10 => ?_⟩
      · have g11 : v1_31.toInt = (0 : Int32).toInt := by rw [h_10]
        refine ok_some.mpr ?_
        refine ok_ite.mpr ⟨fun h_12 => ?_, fun h_12 => ?_⟩
        · have f13 : (1 : Int32).toInt = 1 := by decide
          have g14 : (1 : Int32).toInt = (0 : Int32).toInt := by rw [h_12]
          exfalso
          omega
        · have f15 : (1 : Int32).toInt = 1 := by decide
          have g16 : (1 : Int32).toInt ≠ (0 : Int32).toInt := fun z => h_12 (Int32.toInt_inj.mp z)
          refine ok_nm2 (fun x12_30_32 ex12_30_32 => ?_)
          have qx12_30_32 : x12_30_32.toInt = (a3_1 + 1).toInt := congrArg Int32.toInt ex12_30_32
          refine ok_nm2 (fun x13_30_32 ex13_30_32 => ?_)
          have f17 : (a4_1 + (1 : Int32)).toInt = a4_1.toInt + (1 : Int32).toInt := iadd_toInt (by omega) (by omega)
          have qx13_30_32 : x13_30_32.toInt = (a4_1 + 1).toInt := congrArg Int32.toInt ex13_30_32
          exact hrec_1 _ (x12_30_32, x13_30_32) (show (60 + 1 - x13_30_32.toInt).toNat < n_1 by omega) ⟨rfl, (show 0 ≤ x13_30_32.toInt by omega), (show x13_30_32.toInt ≤ 60 by omega)⟩
      · have g18 : v1_31.toInt ≠ (0 : Int32).toInt := fun z => h_10 (Int32.toInt_inj.mp z)
        refine ok_some.mpr ?_
        refine ok_ite.mpr ⟨fun h_19 => ?_, fun h_19 => ?_⟩
        · have g20 : (0 : Int32).toInt = (0 : Int32).toInt := by rw [h_19]
          refine ok_nm2 (fun x11_30_33 ex11_30_33 => ?_)
          have f21 : (1 : Int32).toInt = 1 := by decide
          have f22 : (a4_1 + (1 : Int32)).toInt = a4_1.toInt + (1 : Int32).toInt := iadd_toInt (by omega) (by omega)
          have qx11_30_33 : x11_30_33.toInt = (a4_1 + 1).toInt := congrArg Int32.toInt ex11_30_33
          exact hrec_1 _ (a3_1, x11_30_33) (show (60 + 1 - x11_30_33.toInt).toNat < n_1 by omega) ⟨rfl, (show 0 ≤ x11_30_33.toInt by omega), (show x11_30_33.toInt ≤ 60 by omega)⟩
        · have g23 : (0 : Int32).toInt ≠ (0 : Int32).toInt := fun z => h_19 (Int32.toInt_inj.mp z)
          exfalso
          omega
    · have g24 : v5_30.toInt ≠ p2.toInt := fun z => h_8 (Int32.toInt_inj.mp z)
      refine ok_nm2 (fun x7_30 ex7_30 => ?_)
      have f25 : (1 : Int32).toInt = 1 := by decide
      have f26 : (a4_1 + (1 : Int32)).toInt = a4_1.toInt + (1 : Int32).toInt := iadd_toInt (by omega) (by omega)
      have qx7_30 : x7_30.toInt = (a4_1 + 1).toInt := congrArg Int32.toInt ex7_30
      exact hrec_1 _ (a3_1, x7_30) (show (60 + 1 - x7_30.toInt).toNat < n_1 by omega) ⟨rfl, (show 0 ≤ x7_30.toInt by omega), (show x7_30.toInt ≤ 60 by omega)⟩
set_option maxRecDepth 20000 in
set_option maxHeartbeats 2000000 in
theorem o_fX2_firstCentre {σ : gS} (hIσ : JC σ) {p1 : Int32}  : Ok (fX2_firstCentre σ p1) (fun out => -1 ≤ out.toInt ∧ out.toInt ≤ 11) := by
  unfold fX2_firstCentre
  refine ok_nm2 (fun x1 ex1 => ?_)
  have f1 : (0 : Int32).toInt = 0 := by decide
  have qx1 : x1.toInt = 0 := by rw [ex1]; decide
  refine ok_lpc (I := fun n s => n = (12 + 1 - s.toInt).toNat ∧ 0 ≤ s.toInt ∧ s.toInt ≤ 12) (fun rec2_1r n_1 s_1 hs_1 hrec_1 => ?_) K9 ((12 + 1 - x1.toInt).toNat) x1 ⟨rfl, (show 0 ≤ x1.toInt by omega), (show x1.toInt ≤ 12 by omega)⟩ (by unfold K9; omega)
  obtain ⟨a2_1, hq_1⟩ : ∃ y, y = s_1 := ⟨_, rfl⟩
  subst hq_1
  obtain ⟨hn_1, b0a2_1, b1a2_1⟩ := hs_1
  skip
  unfold bX2_firstCentre_2
  try dsimp only
  have f2 : (1 : Int32).toInt = 1 := by decide
  refine ok_gd.mpr ⟨gb_of (by omega) (by omega), ?_⟩
  refine ok_nm2 (fun v2_2 ev2_2 => ?_)
  have f3 : 0 ≤ (σ.1 3 1).toInt ∧ (σ.1 3 1).toInt ≤ 12 := hIσ 3 1
  have qv2_2 : v2_2.toInt = (σ.1 3 1).toInt := congrArg Int32.toInt ev2_2
  refine ok_ite.mpr ⟨fun h_4 => ?_, fun h_4 => ?_⟩
  · have g5 : v2_2.toInt ≤ a2_1.toInt := Int32.le_iff_toInt_le.mp h_4
    refine ok_some.mpr ?_
    have f6 : (-1 : Int32).toInt = -1 := by decide
    exact ⟨(show -1 ≤ (-1 : Int32).toInt by omega), (show (-1 : Int32).toInt ≤ 11 by omega)⟩
  · have g7 : ¬ v2_2.toInt ≤ a2_1.toInt := fun z => h_4 (Int32.le_iff_toInt_le.mpr z)
    refine ok_gd.mpr ⟨gb_of (by omega) (by omega), ?_⟩
    refine ok_nm2 (fun v4_2 ev4_2 => ?_)
    have f9 : a2_1.toNatClampNeg = a2_1.toInt.toNat := rfl
    have f9_ : (a2_1.toNatClampNeg = 0 ∧ 0 ≤ (σ.1 8 a2_1.toNatClampNeg).toInt ∧ (σ.1 8 a2_1.toNatClampNeg).toInt ≤ 5) ∨ (a2_1.toNatClampNeg = 1 ∧ 0 ≤ (σ.1 8 a2_1.toNatClampNeg).toInt ∧ (σ.1 8 a2_1.toNatClampNeg).toInt ≤ 5) ∨ (a2_1.toNatClampNeg = 2 ∧ 0 ≤ (σ.1 8 a2_1.toNatClampNeg).toInt ∧ (σ.1 8 a2_1.toNatClampNeg).toInt ≤ 5) ∨ (a2_1.toNatClampNeg = 3 ∧ 0 ≤ (σ.1 8 a2_1.toNatClampNeg).toInt ∧ (σ.1 8 a2_1.toNatClampNeg).toInt ≤ 5) ∨ (a2_1.toNatClampNeg = 4 ∧ 0 ≤ (σ.1 8 a2_1.toNatClampNeg).toInt ∧ (σ.1 8 a2_1.toNatClampNeg).toInt ≤ 5) ∨ (a2_1.toNatClampNeg = 5 ∧ 0 ≤ (σ.1 8 a2_1.toNatClampNeg).toInt ∧ (σ.1 8 a2_1.toNatClampNeg).toInt ≤ 5) ∨ (a2_1.toNatClampNeg = 6 ∧ 0 ≤ (σ.1 8 a2_1.toNatClampNeg).toInt ∧ (σ.1 8 a2_1.toNatClampNeg).toInt ≤ 5) ∨ (a2_1.toNatClampNeg = 7 ∧ 0 ≤ (σ.1 8 a2_1.toNatClampNeg).toInt ∧ (σ.1 8 a2_1.toNatClampNeg).toInt ≤ 5) ∨ (a2_1.toNatClampNeg = 8 ∧ 0 ≤ (σ.1 8 a2_1.toNatClampNeg).toInt ∧ (σ.1 8 a2_1.toNatClampNeg).toInt ≤ 5) ∨ (a2_1.toNatClampNeg = 9 ∧ 0 ≤ (σ.1 8 a2_1.toNatClampNeg).toInt ∧ (σ.1 8 a2_1.toNatClampNeg).toInt ≤ 5) ∨ (a2_1.toNatClampNeg = 10 ∧ 0 ≤ (σ.1 8 a2_1.toNatClampNeg).toInt ∧ (σ.1 8 a2_1.toNatClampNeg).toInt ≤ 5) ∨ (a2_1.toNatClampNeg = 11 ∧ 0 ≤ (σ.1 8 a2_1.toNatClampNeg).toInt ∧ (σ.1 8 a2_1.toNatClampNeg).toInt ≤ 5) := by
      have hb := hIσ 8 a2_1.toNatClampNeg
      have hj : a2_1.toNatClampNeg = 0 ∨ a2_1.toNatClampNeg = 1 ∨ a2_1.toNatClampNeg = 2 ∨ a2_1.toNatClampNeg = 3 ∨ a2_1.toNatClampNeg = 4 ∨ a2_1.toNatClampNeg = 5 ∨ a2_1.toNatClampNeg = 6 ∨ a2_1.toNatClampNeg = 7 ∨ a2_1.toNatClampNeg = 8 ∨ a2_1.toNatClampNeg = 9 ∨ a2_1.toNatClampNeg = 10 ∨ a2_1.toNatClampNeg = 11 := by omega
      generalize a2_1.toNatClampNeg = j at hb hj ⊢
      rcases hj with rfl | rfl | rfl | rfl | rfl | rfl | rfl | rfl | rfl | rfl | rfl | rfl
      · exact .inl ⟨rfl, hb.1, hb.2⟩
      · exact .inr (.inl ⟨rfl, hb.1, hb.2⟩)
      · exact .inr (.inr (.inl ⟨rfl, hb.1, hb.2⟩))
      · exact .inr (.inr (.inr (.inl ⟨rfl, hb.1, hb.2⟩)))
      · exact .inr (.inr (.inr (.inr (.inl ⟨rfl, hb.1, hb.2⟩))))
      · exact .inr (.inr (.inr (.inr (.inr (.inl ⟨rfl, hb.1, hb.2⟩)))))
      · exact .inr (.inr (.inr (.inr (.inr (.inr (.inl ⟨rfl, hb.1, hb.2⟩))))))
      · exact .inr (.inr (.inr (.inr (.inr (.inr (.inr (.inl ⟨rfl, hb.1, hb.2⟩)))))))
      · exact .inr (.inr (.inr (.inr (.inr (.inr (.inr (.inr (.inl ⟨rfl, hb.1, hb.2⟩))))))))
      · exact .inr (.inr (.inr (.inr (.inr (.inr (.inr (.inr (.inr (.inl ⟨rfl, hb.1, hb.2⟩)))))))))
      · exact .inr (.inr (.inr (.inr (.inr (.inr (.inr (.inr (.inr (.inr (.inl ⟨rfl, hb.1, hb.2⟩))))))))))
      · exact .inr (.inr (.inr (.inr (.inr (.inr (.inr (.inr (.inr (.inr (.inr (⟨rfl, hb.1, hb.2⟩)))))))))))
    have qv4_2 : v4_2.toInt = (σ.1 8 a2_1.toNatClampNeg).toInt := congrArg Int32.toInt ev4_2
    refine ok_ite.mpr ⟨fun h_10 => ?_, fun h_10 => ?_⟩
    · have g11 : v4_2.toInt = p1.toInt := by rw [h_10]
      refine ok_gd.mpr ⟨gb_of (by omega) (by omega), ?_⟩
      refine ok_nm2 (fun v7_2 ev7_2 => ?_)
      have qv7_2 : v7_2.toInt = (σ.1 20 a2_1.toNatClampNeg).toInt := congrArg Int32.toInt ev7_2
      refine ok_ite.mpr ⟨fun h_12 => ?_, fun h_12 => ?_⟩
      · have g13 : v7_2.toInt ≤ (0 : Int32).toInt := Int32.le_iff_toInt_le.mp h_12
        refine ok_nm2 (fun x9_2 ex9_2 => ?_)
        have f14 : (a2_1 + (1 : Int32)).toInt = a2_1.toInt + (1 : Int32).toInt := iadd_toInt (by omega) (by omega)
        have qx9_2 : x9_2.toInt = (a2_1 + 1).toInt := congrArg Int32.toInt ex9_2
        exact hrec_1 _ x9_2 (show (12 + 1 - x9_2.toInt).toNat < n_1 by omega) ⟨rfl, (show 0 ≤ x9_2.toInt by omega), (show x9_2.toInt ≤ 12 by omega)⟩
      · have g15 : ¬ v7_2.toInt ≤ (0 : Int32).toInt := fun z => h_12 (Int32.le_iff_toInt_le.mpr z)
        refine ok_some.mpr ?_
        exact ⟨(show -1 ≤ a2_1.toInt by omega), (show a2_1.toInt ≤ 11 by omega)⟩
    · have g16 : v4_2.toInt ≠ p1.toInt := fun z => h_10 (Int32.toInt_inj.mp z)
      refine ok_nm2 (fun x6_2 ex6_2 => ?_)
      have f17 : (a2_1 + (1 : Int32)).toInt = a2_1.toInt + (1 : Int32).toInt := iadd_toInt (by omega) (by omega)
      have qx6_2 : x6_2.toInt = (a2_1 + 1).toInt := congrArg Int32.toInt ex6_2
      exact hrec_1 _ x6_2 (show (12 + 1 - x6_2.toInt).toNat < n_1 by omega) ⟨rfl, (show 0 ≤ x6_2.toInt by omega), (show x6_2.toInt ≤ 12 by omega)⟩
set_option maxRecDepth 20000 in
set_option maxHeartbeats 2000000 in
theorem o_fX2_join {σ : gS} (hIσ : JC σ) {p1 : Int32} {p2 : Int32} (h0p1 : -1 ≤ p1.toInt) (h1p1 : p1.toInt ≤ 31) (h0p2 : 0 ≤ p2.toInt) (h1p2 : p2.toInt ≤ 31) : Ok (fX2_join σ p1 p2) (fun out => JC out ∧ Fr fr_fX2_join σ out) := by
  unfold fX2_join
  have hfσ : Fr fr_fX2_join σ σ := Fr_r
  refine ok_ite.mpr ⟨fun h_1 => ?_, fun h_1 => ?_⟩
  · have f2 : (-1 : Int32).toInt = -1 := by decide
    have g3 : p1.toInt = (-1 : Int32).toInt := by rw [h_1]
    refine ok_some.mpr ?_
    exact ⟨hIσ, hfσ⟩
  · have f4 : (-1 : Int32).toInt = -1 := by decide
    have g5 : p1.toInt ≠ (-1 : Int32).toInt := fun z => h_1 (Int32.toInt_inj.mp z)
    refine ok_gd.mpr ⟨gb_of (by omega) (by omega), ?_⟩
    refine ok_nm2 (fun v2 ev2 => ?_)
    have f6 : 0 ≤ (σ.1 138 p1.toNatClampNeg).toInt ∧ (σ.1 138 p1.toNatClampNeg).toInt ≤ 31 := hIσ 138 _
    have qv2 : v2.toInt = (σ.1 138 p1.toNatClampNeg).toInt := congrArg Int32.toInt ev2
    refine ok_gd.mpr ⟨gb_of (by omega) (by omega), ?_⟩
    refine ok_nm2 (fun v3 ev3 => ?_)
    have f7 : 0 ≤ (σ.1 138 p2.toNatClampNeg).toInt ∧ (σ.1 138 p2.toNatClampNeg).toInt ≤ 31 := hIσ 138 _
    have qv3 : v3.toInt = (σ.1 138 p2.toNatClampNeg).toInt := congrArg Int32.toInt ev3
    refine ok_ite.mpr ⟨fun h_8 => ?_, fun h_8 => ?_⟩
    · have g9 : v2.toInt = v3.toInt := by rw [h_8]
      refine ok_some.mpr ?_
      exact ⟨hIσ, hfσ⟩
    · have g10 : v2.toInt ≠ v3.toInt := fun z => h_8 (Int32.toInt_inj.mp z)
      refine ok_gd.mpr ⟨gb_of (by omega) (by omega), ?_⟩
      refine ok_nm2 (fun v5 ev5 => ?_)
      have qv5 : v5.toInt = (σ.1 138 p2.toNatClampNeg).toInt := congrArg Int32.toInt ev5
      refine ok_nm.mpr ?_
      refine ok_nm2 (fun x7_1 ex7_1 => ?_)
      have f11 : (0 : Int32).toInt = 0 := by decide
      have qx7_1 : x7_1.toInt = 0 := by rw [ex7_1]; decide
      refine ok_lpc (I := fun n s => n = (32 + 1 - s.1.toInt).toNat ∧ JC s.2 ∧ Fr fr_fX2_join σ s.2 ∧ 0 ≤ s.1.toInt ∧ s.1.toInt ≤ 32) (fun rec31_2r n_2 s_2 hs_2 hrec_2 => ?_) K9 ((32 + 1 - x7_1.toInt).toNat) (x7_1, σ) ⟨rfl, hIσ, hfσ, (show 0 ≤ x7_1.toInt by omega), (show x7_1.toInt ≤ 32 by omega)⟩ (by unfold K9; omega)
      obtain ⟨a4_2, σ1_2⟩ := s_2
      obtain ⟨hn_2, hIσ1_2, hfσ1_2, b0a4_2, b1a4_2⟩ := hs_2
      dsimp only at hn_2 hIσ1_2 hfσ1_2 b0a4_2 b1a4_2
      unfold bX2_join_31
      try dsimp only
      refine ok_ite.mpr ⟨fun h_12 => ?_, fun h_12 => ?_⟩
      · have f13 : (32 : Int32).toInt = 32 := by decide
        have g14 : (32 : Int32).toInt ≤ a4_2.toInt := Int32.le_iff_toInt_le.mp h_12
        refine ok_some.mpr ?_
        exact ⟨hIσ1_2, hfσ1_2⟩
      · have f15 : (32 : Int32).toInt = 32 := by decide
        have g16 : ¬ (32 : Int32).toInt ≤ a4_2.toInt := fun z => h_12 (Int32.le_iff_toInt_le.mpr z)
        refine ok_gd.mpr ⟨gb_of (by omega) (by omega), ?_⟩
        refine ok_nm2 (fun v9_3 ev9_3 => ?_)
        have f17 : 0 ≤ (σ1_2.1 138 a4_2.toNatClampNeg).toInt ∧ (σ1_2.1 138 a4_2.toNatClampNeg).toInt ≤ 31 := hIσ1_2 138 _
        have qv9_3 : v9_3.toInt = (σ1_2.1 138 a4_2.toNatClampNeg).toInt := congrArg Int32.toInt ev9_3
        refine ok_ite.mpr ⟨fun h_18 => ?_, fun h_18 => ?_⟩
        · have g19 : v9_3.toInt = v5.toInt := by rw [h_18]
          refine ok_gd.mpr ⟨gb_of (by omega) (by omega), ?_⟩
          refine ok_nm2 (fun v12_3 ev12_3 => ?_)
          have f20 : 0 ≤ (σ1_2.1 138 p1.toNatClampNeg).toInt ∧ (σ1_2.1 138 p1.toNatClampNeg).toInt ≤ 31 := hIσ1_2 138 _
          have qv12_3 : v12_3.toInt = (σ1_2.1 138 p1.toNatClampNeg).toInt := congrArg Int32.toInt ev12_3
          refine ok_gd.mpr ⟨gb_of (by omega) (by omega), ?_⟩
          refine ok_nm2 (fun σ13_3 eσ13_3 => ?_)
          have hIσ13_3 : JC σ13_3 := by rw [eσ13_3]; exact JC_w hIσ1_2 (show 0 ≤ _ by omega) (show _ ≤ 31 by omega)
          have hfσ13_3 : Fr fr_fX2_join σ σ13_3 := by rw [eσ13_3]; exact Fr_w0 hfσ1_2 (by decide)
          refine ok_nm2 (fun x14_3 ex14_3 => ?_)
          have f21 : (1 : Int32).toInt = 1 := by decide
          have f22 : (a4_2 + (1 : Int32)).toInt = a4_2.toInt + (1 : Int32).toInt := iadd_toInt (by omega) (by omega)
          have qx14_3 : x14_3.toInt = (a4_2 + 1).toInt := congrArg Int32.toInt ex14_3
          exact hrec_2 _ (x14_3, σ13_3) (show (32 + 1 - x14_3.toInt).toNat < n_2 by omega) ⟨rfl, hIσ13_3, hfσ13_3, (show 0 ≤ x14_3.toInt by omega), (show x14_3.toInt ≤ 32 by omega)⟩
        · have g23 : v9_3.toInt ≠ v5.toInt := fun z => h_18 (Int32.toInt_inj.mp z)
          refine ok_nm2 (fun x11_3 ex11_3 => ?_)
          have f24 : (1 : Int32).toInt = 1 := by decide
          have f25 : (a4_2 + (1 : Int32)).toInt = a4_2.toInt + (1 : Int32).toInt := iadd_toInt (by omega) (by omega)
          have qx11_3 : x11_3.toInt = (a4_2 + 1).toInt := congrArg Int32.toInt ex11_3
          exact hrec_2 _ (x11_3, σ1_2) (show (32 + 1 - x11_3.toInt).toNat < n_2 by omega) ⟨rfl, hIσ1_2, hfσ1_2, (show 0 ≤ x11_3.toInt by omega), (show x11_3.toInt ≤ 32 by omega)⟩
set_option maxRecDepth 20000 in
set_option maxHeartbeats 2000000 in
theorem o_fX2_joinAll {σ : gS} (hIσ : JC σ) {p1 : Int32}  : Ok (fX2_joinAll σ p1) (fun out => JC out ∧ Fr fr_fX2_joinAll σ out) := by
  unfold fX2_joinAll
  have hfσ : Fr fr_fX2_joinAll σ σ := Fr_r
  refine ok_nm2 (fun x1 ex1 => ?_)
  have f1 : (0 : Int32).toInt = 0 := by decide
  have qx1 : x1.toInt = 0 := by rw [ex1]; decide
  refine ok_lpc (I := fun n s => n = (32 + 1 - s.1.toInt).toNat ∧ JC s.2 ∧ Fr fr_fX2_joinAll σ s.2 ∧ 0 ≤ s.1.toInt ∧ s.1.toInt ≤ 32) (fun rec2_1r n_1 s_1 hs_1 hrec_1 => ?_) K9 ((32 + 1 - x1.toInt).toNat) (x1, σ) ⟨rfl, hIσ, hfσ, (show 0 ≤ x1.toInt by omega), (show x1.toInt ≤ 32 by omega)⟩ (by unfold K9; omega)
  obtain ⟨a2_1, σ1_1⟩ := s_1
  obtain ⟨hn_1, hIσ1_1, hfσ1_1, b0a2_1, b1a2_1⟩ := hs_1
  dsimp only at hn_1 hIσ1_1 hfσ1_1 b0a2_1 b1a2_1
  unfold bX2_joinAll_2
  try dsimp only
  refine ok_ite.mpr ⟨fun h_2 => ?_, fun h_2 => ?_⟩
  · have f3 : (32 : Int32).toInt = 32 := by decide
    have g4 : (32 : Int32).toInt ≤ a2_1.toInt := Int32.le_iff_toInt_le.mp h_2
    refine ok_nm2 (fun x3_31 ex3_31 => ?_)
    have qx3_31 : x3_31.toInt = 0 := by rw [ex3_31]; decide
    refine ok_lpc (I := fun n s => n = (60 + 1 - s.1.toInt).toNat ∧ JC s.2 ∧ Fr fr_fX2_joinAll σ s.2 ∧ 0 ≤ s.1.toInt ∧ s.1.toInt ≤ 60) (fun rec26_32r n_32 s_32 hs_32 hrec_32 => ?_) K9 ((60 + 1 - x3_31.toInt).toNat) (x3_31, σ1_1) ⟨rfl, hIσ1_1, hfσ1_1, (show 0 ≤ x3_31.toInt by omega), (show x3_31.toInt ≤ 60 by omega)⟩ (by unfold K9; omega)
    obtain ⟨a2_32, σ1_32⟩ := s_32
    obtain ⟨hn_32, hIσ1_32, hfσ1_32, b0a2_32, b1a2_32⟩ := hs_32
    dsimp only at hn_32 hIσ1_32 hfσ1_32 b0a2_32 b1a2_32
    unfold bX2_joinAll_26
    try dsimp only
    have f5 : (3 : Int32).toInt = 3 := by decide
    refine ok_gd.mpr ⟨gb_of (by omega) (by omega), ?_⟩
    refine ok_nm2 (fun v4_62 ev4_62 => ?_)
    have f6 : 0 ≤ (σ1_32.1 3 3).toInt ∧ (σ1_32.1 3 3).toInt ≤ 60 := hIσ1_32 3 3
    have qv4_62 : v4_62.toInt = (σ1_32.1 3 3).toInt := congrArg Int32.toInt ev4_62
    refine ok_ite.mpr ⟨fun h_7 => ?_, fun h_7 => ?_⟩
    · have g8 : v4_62.toInt ≤ a2_32.toInt := Int32.le_iff_toInt_le.mp h_7
      refine ok_nm2 (fun x6_62 ex6_62 => ?_)
      have qx6_62 : x6_62.toInt = 0 := by rw [ex6_62]; decide
      refine ok_lpc (I := fun n s => n = (12 + 1 - s.1.toInt).toNat ∧ JC s.2 ∧ Fr fr_fX2_joinAll σ s.2 ∧ 0 ≤ s.1.toInt ∧ s.1.toInt ≤ 12) (fun rec88_63r n_63 s_63 hs_63 hrec_63 => ?_) K9 ((12 + 1 - x6_62.toInt).toNat) (x6_62, σ1_32) ⟨rfl, hIσ1_32, hfσ1_32, (show 0 ≤ x6_62.toInt by omega), (show x6_62.toInt ≤ 12 by omega)⟩ (by unfold K9; omega)
      obtain ⟨a2_63, σ1_63⟩ := s_63
      obtain ⟨hn_63, hIσ1_63, hfσ1_63, b0a2_63, b1a2_63⟩ := hs_63
      dsimp only at hn_63 hIσ1_63 hfσ1_63 b0a2_63 b1a2_63
      unfold bX2_joinAll_88
      try dsimp only
      have f9 : (1 : Int32).toInt = 1 := by decide
      refine ok_gd.mpr ⟨gb_of (by omega) (by omega), ?_⟩
      refine ok_nm2 (fun v7_75 ev7_75 => ?_)
      have f10 : 0 ≤ (σ1_63.1 3 1).toInt ∧ (σ1_63.1 3 1).toInt ≤ 12 := hIσ1_63 3 1
      have qv7_75 : v7_75.toInt = (σ1_63.1 3 1).toInt := congrArg Int32.toInt ev7_75
      refine ok_ite.mpr ⟨fun h_11 => ?_, fun h_11 => ?_⟩
      · have g12 : v7_75.toInt ≤ a2_63.toInt := Int32.le_iff_toInt_le.mp h_11
        refine ok_bd.mpr ((o_fill (c := 139) (v := (0 : Int32)) hIσ1_63 (by decide) (fun i => ⟨show -2147483648 ≤ (0 : Int32).toInt by decide, show (0 : Int32).toInt ≤ 2147483647 by decide⟩)).mono (fun σ10_75 ho_13 => ?_))
        obtain ⟨hIσ10_75, hcσ10_75, hvσ10_75⟩ := ho_13
        have hfσ10_75 : Fr fr_fX2_joinAll σ σ10_75 := Fr_c hfσ1_63 hcσ10_75 (by decide)
        refine ok_nm2 (fun x11_75 ex11_75 => ?_)
        have qx11_75 : x11_75.toInt = 0 := by rw [ex11_75]; decide
        refine ok_lpc (I := fun n s => n = (20 + 1 - s.1.toInt).toNat ∧ JC s.2 ∧ Fr fr_fX2_joinAll σ s.2 ∧ 0 ≤ s.1.toInt ∧ s.1.toInt ≤ 20) (fun rec147_76r n_76 s_76 hs_76 hrec_76 => ?_) K9 ((20 + 1 - x11_75.toInt).toNat) (x11_75, σ10_75) ⟨rfl, hIσ10_75, hfσ10_75, (show 0 ≤ x11_75.toInt by omega), (show x11_75.toInt ≤ 20 by omega)⟩ (by unfold K9; omega)
        obtain ⟨a2_76, σ1_76⟩ := s_76
        obtain ⟨hn_76, hIσ1_76, hfσ1_76, b0a2_76, b1a2_76⟩ := hs_76
        dsimp only at hn_76 hIσ1_76 hfσ1_76 b0a2_76 b1a2_76
        unfold bX2_joinAll_147
        try dsimp only
        have f14 : (2 : Int32).toInt = 2 := by decide
        refine ok_gd.mpr ⟨gb_of (by omega) (by omega), ?_⟩
        refine ok_nm2 (fun v12_88 ev12_88 => ?_)
        have f15 : 0 ≤ (σ1_76.1 3 2).toInt ∧ (σ1_76.1 3 2).toInt ≤ 20 := hIσ1_76 3 2
        have qv12_88 : v12_88.toInt = (σ1_76.1 3 2).toInt := congrArg Int32.toInt ev12_88
        refine ok_ite.mpr ⟨fun h_16 => ?_, fun h_16 => ?_⟩
        · have g17 : v12_88.toInt ≤ a2_76.toInt := Int32.le_iff_toInt_le.mp h_16
          refine ok_some.mpr ?_
          exact ⟨hIσ1_76, hfσ1_76⟩
        · have g18 : ¬ v12_88.toInt ≤ a2_76.toInt := fun z => h_16 (Int32.le_iff_toInt_le.mpr z)
          refine ok_bd.mpr ?_
          try unfold fX5_isFixed_47
          refine ok_gd.mpr ⟨gb_of (by omega) (by omega), ?_⟩
          refine ok_nm2 (fun v1_89 ev1_89 => ?_)
          have qv1_89 : v1_89.toInt = (σ1_76.1 16 a2_76.toNatClampNeg).toInt := congrArg Int32.toInt ev1_89
          refine ok_ite.mpr ⟨fun h_19 => ?_, fun h_19 => ?_⟩
          · have g20 : (v1_89 &&& (σ1_76.1 47 1)).toInt = (0 : Int32).toInt := by rw [h_19]
            refine ok_some.mpr ?_
            refine ok_ite.mpr ⟨fun h_21 => ?_, fun h_21 => ?_⟩
            · have g22 : (0 : Int32).toInt = (0 : Int32).toInt := by rw [h_21]
              refine ok_nm2 (fun x17_88_90 ex17_88_90 => ?_)
              have f23 : (a2_76 + (1 : Int32)).toInt = a2_76.toInt + (1 : Int32).toInt := iadd_toInt (by omega) (by omega)
              have qx17_88_90 : x17_88_90.toInt = (a2_76 + 1).toInt := congrArg Int32.toInt ex17_88_90
              exact hrec_76 _ (x17_88_90, σ1_76) (show (20 + 1 - x17_88_90.toInt).toNat < n_76 by omega) ⟨rfl, hIσ1_76, hfσ1_76, (show 0 ≤ x17_88_90.toInt by omega), (show x17_88_90.toInt ≤ 20 by omega)⟩
            · have g24 : (0 : Int32).toInt ≠ (0 : Int32).toInt := fun z => h_21 (Int32.toInt_inj.mp z)
              exfalso
              omega
          · have g25 : (v1_89 &&& (σ1_76.1 47 1)).toInt ≠ (0 : Int32).toInt := fun z => h_19 (Int32.toInt_inj.mp z)
            refine ok_some.mpr ?_
            refine ok_ite.mpr ⟨fun h_26 => ?_, fun h_26 => ?_⟩
            · have g27 : (1 : Int32).toInt = (0 : Int32).toInt := by rw [h_26]
              exfalso
              omega
            · have g28 : (1 : Int32).toInt ≠ (0 : Int32).toInt := fun z => h_26 (Int32.toInt_inj.mp z)
              have f29 : (12 : Int32).toInt = 12 := by decide
              have f30 : ((12 : Int32) + a2_76).toInt = (12 : Int32).toInt + a2_76.toInt := iadd_toInt (by omega) (by omega)
              refine ok_gd.mpr ⟨gb_of (by omega) (by omega), ?_⟩
              refine ok_nm2 (fun v18_88_91 ev18_88_91 => ?_)
              have f31 : 0 ≤ (σ1_76.1 138 (12 + a2_76).toNatClampNeg).toInt ∧ (σ1_76.1 138 (12 + a2_76).toNatClampNeg).toInt ≤ 31 := hIσ1_76 138 _
              have qv18_88_91 : v18_88_91.toInt = (σ1_76.1 138 (12 + a2_76).toNatClampNeg).toInt := congrArg Int32.toInt ev18_88_91
              refine ok_gd.mpr ⟨gb_of (by omega) (by omega), ?_⟩
              refine ok_nm2 (fun σ19_88_91 eσ19_88_91 => ?_)
              have hIσ19_88_91 : JC σ19_88_91 := by rw [eσ19_88_91]; exact JC_w hIσ1_76 (Int32.le_toInt _) (Int32.toInt_le _)
              have hfσ19_88_91 : Fr fr_fX2_joinAll σ σ19_88_91 := by rw [eσ19_88_91]; exact Fr_w0 hfσ1_76 (by decide)
              refine ok_nm2 (fun x20_88_91 ex20_88_91 => ?_)
              have f32 : (a2_76 + (1 : Int32)).toInt = a2_76.toInt + (1 : Int32).toInt := iadd_toInt (by omega) (by omega)
              have qx20_88_91 : x20_88_91.toInt = (a2_76 + 1).toInt := congrArg Int32.toInt ex20_88_91
              exact hrec_76 _ (x20_88_91, σ19_88_91) (show (20 + 1 - x20_88_91.toInt).toNat < n_76 by omega) ⟨rfl, hIσ19_88_91, hfσ19_88_91, (show 0 ≤ x20_88_91.toInt by omega), (show x20_88_91.toInt ≤ 20 by omega)⟩
      · have g33 : ¬ v7_75.toInt ≤ a2_63.toInt := fun z => h_11 (Int32.le_iff_toInt_le.mpr z)
        refine ok_gd.mpr ⟨gb_of (by omega) (by omega), ?_⟩
        refine ok_nm2 (fun v21_75 ev21_75 => ?_)
        have qv21_75 : v21_75.toInt = (σ1_63.1 20 a2_63.toNatClampNeg).toInt := congrArg Int32.toInt ev21_75
        refine ok_ite.mpr ⟨fun h_34 => ?_, fun h_34 => ?_⟩
        · have g35 : v21_75.toInt ≤ (0 : Int32).toInt := Int32.le_iff_toInt_le.mp h_34
          refine ok_nm2 (fun x23_75 ex23_75 => ?_)
          have f36 : (a2_63 + (1 : Int32)).toInt = a2_63.toInt + (1 : Int32).toInt := iadd_toInt (by omega) (by omega)
          have qx23_75 : x23_75.toInt = (a2_63 + 1).toInt := congrArg Int32.toInt ex23_75
          exact hrec_63 _ (x23_75, σ1_63) (show (12 + 1 - x23_75.toInt).toNat < n_63 by omega) ⟨rfl, hIσ1_63, hfσ1_63, (show 0 ≤ x23_75.toInt by omega), (show x23_75.toInt ≤ 12 by omega)⟩
        · have g37 : ¬ v21_75.toInt ≤ (0 : Int32).toInt := fun z => h_34 (Int32.le_iff_toInt_le.mpr z)
          refine ok_gd.mpr ⟨gb_of (by omega) (by omega), ?_⟩
          refine ok_nm2 (fun v24_75 ev24_75 => ?_)
          have f39 : a2_63.toNatClampNeg = a2_63.toInt.toNat := rfl
          have f39_ : (a2_63.toNatClampNeg = 0 ∧ 0 ≤ (σ1_63.1 8 a2_63.toNatClampNeg).toInt ∧ (σ1_63.1 8 a2_63.toNatClampNeg).toInt ≤ 5) ∨ (a2_63.toNatClampNeg = 1 ∧ 0 ≤ (σ1_63.1 8 a2_63.toNatClampNeg).toInt ∧ (σ1_63.1 8 a2_63.toNatClampNeg).toInt ≤ 5) ∨ (a2_63.toNatClampNeg = 2 ∧ 0 ≤ (σ1_63.1 8 a2_63.toNatClampNeg).toInt ∧ (σ1_63.1 8 a2_63.toNatClampNeg).toInt ≤ 5) ∨ (a2_63.toNatClampNeg = 3 ∧ 0 ≤ (σ1_63.1 8 a2_63.toNatClampNeg).toInt ∧ (σ1_63.1 8 a2_63.toNatClampNeg).toInt ≤ 5) ∨ (a2_63.toNatClampNeg = 4 ∧ 0 ≤ (σ1_63.1 8 a2_63.toNatClampNeg).toInt ∧ (σ1_63.1 8 a2_63.toNatClampNeg).toInt ≤ 5) ∨ (a2_63.toNatClampNeg = 5 ∧ 0 ≤ (σ1_63.1 8 a2_63.toNatClampNeg).toInt ∧ (σ1_63.1 8 a2_63.toNatClampNeg).toInt ≤ 5) ∨ (a2_63.toNatClampNeg = 6 ∧ 0 ≤ (σ1_63.1 8 a2_63.toNatClampNeg).toInt ∧ (σ1_63.1 8 a2_63.toNatClampNeg).toInt ≤ 5) ∨ (a2_63.toNatClampNeg = 7 ∧ 0 ≤ (σ1_63.1 8 a2_63.toNatClampNeg).toInt ∧ (σ1_63.1 8 a2_63.toNatClampNeg).toInt ≤ 5) ∨ (a2_63.toNatClampNeg = 8 ∧ 0 ≤ (σ1_63.1 8 a2_63.toNatClampNeg).toInt ∧ (σ1_63.1 8 a2_63.toNatClampNeg).toInt ≤ 5) ∨ (a2_63.toNatClampNeg = 9 ∧ 0 ≤ (σ1_63.1 8 a2_63.toNatClampNeg).toInt ∧ (σ1_63.1 8 a2_63.toNatClampNeg).toInt ≤ 5) ∨ (a2_63.toNatClampNeg = 10 ∧ 0 ≤ (σ1_63.1 8 a2_63.toNatClampNeg).toInt ∧ (σ1_63.1 8 a2_63.toNatClampNeg).toInt ≤ 5) ∨ (a2_63.toNatClampNeg = 11 ∧ 0 ≤ (σ1_63.1 8 a2_63.toNatClampNeg).toInt ∧ (σ1_63.1 8 a2_63.toNatClampNeg).toInt ≤ 5) := by
            have hb := hIσ1_63 8 a2_63.toNatClampNeg
            have hj : a2_63.toNatClampNeg = 0 ∨ a2_63.toNatClampNeg = 1 ∨ a2_63.toNatClampNeg = 2 ∨ a2_63.toNatClampNeg = 3 ∨ a2_63.toNatClampNeg = 4 ∨ a2_63.toNatClampNeg = 5 ∨ a2_63.toNatClampNeg = 6 ∨ a2_63.toNatClampNeg = 7 ∨ a2_63.toNatClampNeg = 8 ∨ a2_63.toNatClampNeg = 9 ∨ a2_63.toNatClampNeg = 10 ∨ a2_63.toNatClampNeg = 11 := by omega
            generalize a2_63.toNatClampNeg = j at hb hj ⊢
            rcases hj with rfl | rfl | rfl | rfl | rfl | rfl | rfl | rfl | rfl | rfl | rfl | rfl
            · exact .inl ⟨rfl, hb.1, hb.2⟩
            · exact .inr (.inl ⟨rfl, hb.1, hb.2⟩)
            · exact .inr (.inr (.inl ⟨rfl, hb.1, hb.2⟩))
            · exact .inr (.inr (.inr (.inl ⟨rfl, hb.1, hb.2⟩)))
            · exact .inr (.inr (.inr (.inr (.inl ⟨rfl, hb.1, hb.2⟩))))
            · exact .inr (.inr (.inr (.inr (.inr (.inl ⟨rfl, hb.1, hb.2⟩)))))
            · exact .inr (.inr (.inr (.inr (.inr (.inr (.inl ⟨rfl, hb.1, hb.2⟩))))))
            · exact .inr (.inr (.inr (.inr (.inr (.inr (.inr (.inl ⟨rfl, hb.1, hb.2⟩)))))))
            · exact .inr (.inr (.inr (.inr (.inr (.inr (.inr (.inr (.inl ⟨rfl, hb.1, hb.2⟩))))))))
            · exact .inr (.inr (.inr (.inr (.inr (.inr (.inr (.inr (.inr (.inl ⟨rfl, hb.1, hb.2⟩)))))))))
            · exact .inr (.inr (.inr (.inr (.inr (.inr (.inr (.inr (.inr (.inr (.inl ⟨rfl, hb.1, hb.2⟩))))))))))
            · exact .inr (.inr (.inr (.inr (.inr (.inr (.inr (.inr (.inr (.inr (.inr (⟨rfl, hb.1, hb.2⟩)))))))))))
          have qv24_75 : v24_75.toInt = (σ1_63.1 8 a2_63.toNatClampNeg).toInt := congrArg Int32.toInt ev24_75
          refine ok_bd.mpr ((o_fX2_firstCentre hIσ1_63 (p1 := v24_75) ).mono (fun r26_75 ho_41 => ?_))
          obtain ⟨r0r26_75, r1r26_75⟩ := ho_41
          refine ok_bd.mpr ((o_fX2_join hIσ1_63 (p1 := r26_75) (p2 := a2_63) (by omega) (by omega) (by omega) (by omega)).mono (fun σ28_75 ho_43 => ?_))
          obtain ⟨hIσ28_75, hcσ28_75⟩ := ho_43
          have hfσ28_75 : Fr fr_fX2_joinAll σ σ28_75 := Fr_c hfσ1_63 hcσ28_75 (by decide)
          refine ok_nm2 (fun x29_75 ex29_75 => ?_)
          have f44 : (a2_63 + (1 : Int32)).toInt = a2_63.toInt + (1 : Int32).toInt := iadd_toInt (by omega) (by omega)
          have qx29_75 : x29_75.toInt = (a2_63 + 1).toInt := congrArg Int32.toInt ex29_75
          exact hrec_63 _ (x29_75, σ28_75) (show (12 + 1 - x29_75.toInt).toNat < n_63 by omega) ⟨rfl, hIσ28_75, hfσ28_75, (show 0 ≤ x29_75.toInt by omega), (show x29_75.toInt ≤ 12 by omega)⟩
    · have g45 : ¬ v4_62.toInt ≤ a2_32.toInt := fun z => h_7 (Int32.le_iff_toInt_le.mpr z)
      refine ok_ite.mpr ⟨fun h_46 => ?_, fun h_46 => ?_⟩
      · have g47 : a2_32.toInt = p1.toInt := by rw [h_46]
        refine ok_nm2 (fun x31_62 ex31_62 => ?_)
        have f48 : (1 : Int32).toInt = 1 := by decide
        have f49 : (a2_32 + (1 : Int32)).toInt = a2_32.toInt + (1 : Int32).toInt := iadd_toInt (by omega) (by omega)
        have qx31_62 : x31_62.toInt = (a2_32 + 1).toInt := congrArg Int32.toInt ex31_62
        exact hrec_32 _ (x31_62, σ1_32) (show (60 + 1 - x31_62.toInt).toNat < n_32 by omega) ⟨rfl, hIσ1_32, hfσ1_32, (show 0 ≤ x31_62.toInt by omega), (show x31_62.toInt ≤ 60 by omega)⟩
      · have g50 : a2_32.toInt ≠ p1.toInt := fun z => h_46 (Int32.toInt_inj.mp z)
        refine ok_bd.mpr ?_
        try unfold fX5_uses_47
        refine ok_gd.mpr ⟨gb_of (by omega) (by omega), ?_⟩
        refine ok_nm2 (fun v1_92 ev1_92 => ?_)
        have qv1_92 : v1_92.toInt = (σ1_32.1 58 a2_32.toNatClampNeg).toInt := congrArg Int32.toInt ev1_92
        refine ok_ite.mpr ⟨fun h_51 => ?_, fun h_51 => ?_⟩
        · have g52 : v1_92.toInt = (0 : Int32).toInt := by rw [h_51]
          refine ok_some.mpr ?_
          refine ok_ite.mpr ⟨fun h_53 => ?_, fun h_53 => ?_⟩
          · have f54 : (1 : Int32).toInt = 1 := by decide
            have g55 : (1 : Int32).toInt = (0 : Int32).toInt := by rw [h_53]
            exfalso
            omega
          · have f56 : (1 : Int32).toInt = 1 := by decide
            have g57 : (1 : Int32).toInt ≠ (0 : Int32).toInt := fun z => h_53 (Int32.toInt_inj.mp z)
            refine ok_gd.mpr ⟨gb_of (by omega) (by omega), ?_⟩
            refine ok_nm2 (fun v36_62_93 ev36_62_93 => ?_)
            have f58 : 0 ≤ (σ1_32.1 10 a2_32.toNatClampNeg).toInt ∧ (σ1_32.1 10 a2_32.toNatClampNeg).toInt ≤ 11 := hIσ1_32 10 _
            have qv36_62_93 : v36_62_93.toInt = (σ1_32.1 10 a2_32.toNatClampNeg).toInt := congrArg Int32.toInt ev36_62_93
            refine ok_gd.mpr ⟨gb_of (by omega) (by omega), ?_⟩
            refine ok_nm2 (fun v37_62_93 ev37_62_93 => ?_)
            have f59 : 0 ≤ (σ1_32.1 11 a2_32.toNatClampNeg).toInt ∧ (σ1_32.1 11 a2_32.toNatClampNeg).toInt ≤ 19 := hIσ1_32 11 _
            have qv37_62_93 : v37_62_93.toInt = (σ1_32.1 11 a2_32.toNatClampNeg).toInt := congrArg Int32.toInt ev37_62_93
            have f60 : (12 : Int32).toInt = 12 := by decide
            have f61 : ((12 : Int32) + v37_62_93).toInt = (12 : Int32).toInt + v37_62_93.toInt := iadd_toInt (by omega) (by omega)
            refine ok_bd.mpr ((o_fX2_join hIσ1_32 (p1 := v36_62_93) (p2 := (12 + v37_62_93)) (by omega) (by omega) (by omega) (by omega)).mono (fun σ39_62_93 ho_63 => ?_))
            obtain ⟨hIσ39_62_93, hcσ39_62_93⟩ := ho_63
            have hfσ39_62_93 : Fr fr_fX2_joinAll σ σ39_62_93 := Fr_c hfσ1_32 hcσ39_62_93 (by decide)
            refine ok_nm2 (fun x40_62_93 ex40_62_93 => ?_)
            have f64 : (a2_32 + (1 : Int32)).toInt = a2_32.toInt + (1 : Int32).toInt := iadd_toInt (by omega) (by omega)
            have qx40_62_93 : x40_62_93.toInt = (a2_32 + 1).toInt := congrArg Int32.toInt ex40_62_93
            exact hrec_32 _ (x40_62_93, σ39_62_93) (show (60 + 1 - x40_62_93.toInt).toNat < n_32 by omega) ⟨rfl, hIσ39_62_93, hfσ39_62_93, (show 0 ≤ x40_62_93.toInt by omega), (show x40_62_93.toInt ≤ 60 by omega)⟩
        · have g65 : v1_92.toInt ≠ (0 : Int32).toInt := fun z => h_51 (Int32.toInt_inj.mp z)
          refine ok_some.mpr ?_
          refine ok_ite.mpr ⟨fun h_66 => ?_, fun h_66 => ?_⟩
          · have g67 : (0 : Int32).toInt = (0 : Int32).toInt := by rw [h_66]
            refine ok_nm2 (fun x35_62_94 ex35_62_94 => ?_)
            have f68 : (1 : Int32).toInt = 1 := by decide
            have f69 : (a2_32 + (1 : Int32)).toInt = a2_32.toInt + (1 : Int32).toInt := iadd_toInt (by omega) (by omega)
            have qx35_62_94 : x35_62_94.toInt = (a2_32 + 1).toInt := congrArg Int32.toInt ex35_62_94
            exact hrec_32 _ (x35_62_94, σ1_32) (show (60 + 1 - x35_62_94.toInt).toNat < n_32 by omega) ⟨rfl, hIσ1_32, hfσ1_32, (show 0 ≤ x35_62_94.toInt by omega), (show x35_62_94.toInt ≤ 60 by omega)⟩
          · have g70 : (0 : Int32).toInt ≠ (0 : Int32).toInt := fun z => h_66 (Int32.toInt_inj.mp z)
            exfalso
            omega
  · have f71 : (32 : Int32).toInt = 32 := by decide
    have g72 : ¬ (32 : Int32).toInt ≤ a2_1.toInt := fun z => h_2 (Int32.le_iff_toInt_le.mpr z)
    refine ok_gd.mpr ⟨gb_of (by omega) (by omega), ?_⟩
    refine ok_nm2 (fun σ41_31 eσ41_31 => ?_)
    have hIσ41_31 : JC σ41_31 := by rw [eσ41_31]; exact JC_w hIσ1_1 (show 0 ≤ _ by omega) (show _ ≤ 31 by omega)
    have hfσ41_31 : Fr fr_fX2_joinAll σ σ41_31 := by rw [eσ41_31]; exact Fr_w0 hfσ1_1 (by decide)
    refine ok_nm2 (fun x42_31 ex42_31 => ?_)
    have f73 : (1 : Int32).toInt = 1 := by decide
    have f74 : (a2_1 + (1 : Int32)).toInt = a2_1.toInt + (1 : Int32).toInt := iadd_toInt (by omega) (by omega)
    have qx42_31 : x42_31.toInt = (a2_1 + 1).toInt := congrArg Int32.toInt ex42_31
    exact hrec_1 _ (x42_31, σ41_31) (show (32 + 1 - x42_31.toInt).toNat < n_1 by omega) ⟨rfl, hIσ41_31, hfσ41_31, (show 0 ≤ x42_31.toInt by omega), (show x42_31.toInt ≤ 32 by omega)⟩
