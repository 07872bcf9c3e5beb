/-! comes through, c 10 -/
set_option maxRecDepth 20000 in
set_option maxHeartbeats 2000000 in
theorem o_fX0_isNear_73 {σ : gS} (hIσ : JC σ) {p1 : Int32} (h0p1 : 0 ≤ p1.toInt) (h1p1 : p1.toInt ≤ 11) : Ok (fX0_isNear_73 σ p1) (fun out => 0 ≤ out.toInt ∧ out.toInt ≤ 1) := by
  unfold fX0_isNear_73
  have f1 : (0 : Int32).toInt = 0 := by decide
  refine ok_gd.mpr ⟨gb_of (by omega) (by omega), ?_⟩
  refine ok_gd.mpr ⟨gb_of (by omega) (by omega), ?_⟩
  refine ok_nm2 (fun v2 ev2 => ?_)
  have qv2 : v2.toInt = (σ.1 74 p1.toNatClampNeg).toInt := congrArg Int32.toInt ev2
  refine ok_ite.mpr ⟨fun h_2 => ?_, fun h_2 => ?_⟩
  · have f3 : (-100000000 : Int32).toInt = -100000000 := by decide
    have g4 : v2.toInt < (-100000000 : Int32).toInt := Int32.lt_iff_toInt_lt.mp h_2
    refine ok_some.mpr ?_
    exact ⟨(show 0 ≤ (0 : Int32).toInt by omega), (show (0 : Int32).toInt ≤ 1 by omega)⟩
  · have f5 : (-100000000 : Int32).toInt = -100000000 := by decide
    have g6 : ¬ v2.toInt < (-100000000 : Int32).toInt := fun z => h_2 (Int32.lt_iff_toInt_lt.mpr z)
    refine ok_gd.mpr ⟨gb_of (by omega) (by omega), ?_⟩
    refine ok_gd.mpr ⟨gb_of (by omega) (by omega), ?_⟩
    refine ok_nm2 (fun v5 ev5 => ?_)
    have qv5 : v5.toInt = (σ.1 74 p1.toNatClampNeg).toInt := congrArg Int32.toInt ev5
    refine ok_ite.mpr ⟨fun h_7 => ?_, fun h_7 => ?_⟩
    · have f8 : (100000000 : Int32).toInt = 100000000 := by decide
      have g9 : (100000000 : Int32).toInt < v5.toInt := Int32.lt_iff_toInt_lt.mp h_7
      refine ok_some.mpr ?_
      exact ⟨(show 0 ≤ (0 : Int32).toInt by omega), (show (0 : Int32).toInt ≤ 1 by omega)⟩
    · have f10 : (100000000 : Int32).toInt = 100000000 := by decide
      have g11 : ¬ (100000000 : Int32).toInt < v5.toInt := fun z => h_7 (Int32.lt_iff_toInt_lt.mpr z)
      have f12 : (1 : Int32).toInt = 1 := by decide
      refine ok_gd.mpr ⟨gb_of (by omega) (by omega), ?_⟩
      refine ok_gd.mpr ⟨gb_of (by omega) (by omega), ?_⟩
      refine ok_nm2 (fun v8 ev8 => ?_)
      have qv8 : v8.toInt = (σ.1 75 p1.toNatClampNeg).toInt := congrArg Int32.toInt ev8
      refine ok_ite.mpr ⟨fun h_13 => ?_, fun h_13 => ?_⟩
      · have g14 : v8.toInt < (-100000000 : Int32).toInt := Int32.lt_iff_toInt_lt.mp h_13
        refine ok_some.mpr ?_
        exact ⟨(show 0 ≤ (0 : Int32).toInt by omega), (show (0 : Int32).toInt ≤ 1 by omega)⟩
      · have g15 : ¬ v8.toInt < (-100000000 : Int32).toInt := fun z => h_13 (Int32.lt_iff_toInt_lt.mpr z)
        refine ok_gd.mpr ⟨gb_of (by omega) (by omega), ?_⟩
        refine ok_gd.mpr ⟨gb_of (by omega) (by omega), ?_⟩
        refine ok_nm2 (fun v11 ev11 => ?_)
        have qv11 : v11.toInt = (σ.1 75 p1.toNatClampNeg).toInt := congrArg Int32.toInt ev11
        refine ok_ite.mpr ⟨fun h_16 => ?_, fun h_16 => ?_⟩
        · have g17 : (100000000 : Int32).toInt < v11.toInt := Int32.lt_iff_toInt_lt.mp h_16
          refine ok_some.mpr ?_
          exact ⟨(show 0 ≤ (0 : Int32).toInt by omega), (show (0 : Int32).toInt ≤ 1 by omega)⟩
        · have g18 : ¬ (100000000 : Int32).toInt < v11.toInt := fun z => h_16 (Int32.lt_iff_toInt_lt.mpr z)
          refine ok_some.mpr ?_
          exact ⟨(show 0 ≤ (1 : Int32).toInt by omega), (show (1 : Int32).toInt ≤ 1 by omega)⟩
set_option maxRecDepth 20000 in
set_option maxHeartbeats 2000000 in
theorem o_fX0_arePicturesRight_71 {σ : gS} (hIσ : JC σ)   : Ok (fX0_arePicturesRight_71 σ ) (fun out => 0 ≤ out.toInt ∧ out.toInt ≤ 1) := by
  unfold fX0_arePicturesRight_71
  refine ok_nm2 (fun x1 ex1 => ?_)
  have f1 : (0 : Int32).toInt = 0 := by decide
  have qx1 : x1.toInt = 0 := by rw [ex1]; decide
  refine ok_lpc (I := fun n s => n = (12 + 1 - s.toInt).toNat ∧ 0 ≤ s.toInt ∧ s.toInt ≤ 12) (fun rec2_1r n_1 s_1 hs_1 hrec_1 => ?_) K9 ((12 + 1 - x1.toInt).toNat) x1 ⟨rfl, (show 0 ≤ x1.toInt by omega), (show x1.toInt ≤ 12 by omega)⟩ (by unfold K9; omega)
  obtain ⟨a2_1, hq_1⟩ : ∃ y, y = s_1 := ⟨_, rfl⟩
  subst hq_1
  obtain ⟨hn_1, b0a2_1, b1a2_1⟩ := hs_1
  skip
  unfold bX0_arePicturesRight_71_2
  try dsimp only
  have f2 : (1 : Int32).toInt = 1 := by decide
  refine ok_gd.mpr ⟨gb_of (by omega) (by omega), ?_⟩
  refine ok_nm2 (fun v2_2 ev2_2 => ?_)
  have f3 : 0 ≤ (σ.1 3 1).toInt ∧ (σ.1 3 1).toInt ≤ 12 := hIσ 3 1
  have qv2_2 : v2_2.toInt = (σ.1 3 1).toInt := congrArg Int32.toInt ev2_2
  refine ok_ite.mpr ⟨fun h_4 => ?_, fun h_4 => ?_⟩
  · have g5 : v2_2.toInt ≤ a2_1.toInt := Int32.le_iff_toInt_le.mp h_4
    refine ok_some.mpr ?_
    exact ⟨(show 0 ≤ (1 : Int32).toInt by omega), (show (1 : Int32).toInt ≤ 1 by omega)⟩
  · have g6 : ¬ v2_2.toInt ≤ a2_1.toInt := fun z => h_4 (Int32.le_iff_toInt_le.mpr z)
    refine ok_gd.mpr ⟨gb_of (by omega) (by omega), ?_⟩
    refine ok_nm2 (fun v4_2 ev4_2 => ?_)
    have qv4_2 : v4_2.toInt = (σ.1 72 a2_1.toNatClampNeg).toInt := congrArg Int32.toInt ev4_2
    refine ok_nm.mpr ?_
    refine ok_gd.mpr ⟨gb_of (by omega) (by omega), ?_⟩
    refine ok_nm2 (fun v6_2_5 ev6_2_5 => ?_)
    have qv6_2_5 : v6_2_5.toInt = (σ.1 9 a2_1.toNatClampNeg).toInt := congrArg Int32.toInt ev6_2_5
    refine ok_ite.mpr ⟨fun h_7 => ?_, fun h_7 => ?_⟩
    · have f8 : (4 : Int32).toInt = 4 := by decide
      have g9 : v6_2_5.toInt = (4 : Int32).toInt := by rw [h_7]
      refine ok_ite.mpr ⟨fun h_10 => ?_, fun h_10 => ?_⟩
      · have f11 : (3 : Int32).toInt = 3 := by decide
        have g12 : v4_2.toInt ≤ (3 : Int32).toInt := Int32.le_iff_toInt_le.mp h_10
        try unfold jX0_arePicturesRight_71_58
        refine ok_bd.mpr ((o_fX0_isNear_73 hIσ (p1 := a2_1) (by omega) (by omega)).mono (fun r11_6 ho_14 => ?_))
        obtain ⟨r0r11_6, r1r11_6⟩ := ho_14
        refine ok_ite.mpr ⟨fun h_15 => ?_, fun h_15 => ?_⟩
        · have g16 : r11_6.toInt = (0 : Int32).toInt := by rw [h_15]
          refine ok_some.mpr ?_
          exact ⟨(show 0 ≤ (0 : Int32).toInt by omega), (show (0 : Int32).toInt ≤ 1 by omega)⟩
        · have g17 : r11_6.toInt ≠ (0 : Int32).toInt := fun z => h_15 (Int32.toInt_inj.mp z)
          refine ok_nm2 (fun x13_6 ex13_6 => ?_)
          have f18 : (a2_1 + (1 : Int32)).toInt = a2_1.toInt + (1 : Int32).toInt := iadd_toInt (by omega) (by omega)
          have qx13_6 : x13_6.toInt = (a2_1 + 1).toInt := congrArg Int32.toInt ex13_6
          exact hrec_1 _ x13_6 (show (12 + 1 - x13_6.toInt).toNat < n_1 by omega) ⟨rfl, (show 0 ≤ x13_6.toInt by omega), (show x13_6.toInt ≤ 12 by omega)⟩
      · have f19 : (3 : Int32).toInt = 3 := by decide
        have g20 : ¬ v4_2.toInt ≤ (3 : Int32).toInt := fun z => h_10 (Int32.le_iff_toInt_le.mpr z)
        refine ok_some.mpr ?_
        exact ⟨(show 0 ≤ (0 : Int32).toInt by omega), (show (0 : Int32).toInt ≤ 1 by omega)⟩
    · have f21 : (4 : Int32).toInt = 4 := by decide
      have g22 : v6_2_5.toInt ≠ (4 : Int32).toInt := fun z => h_7 (Int32.toInt_inj.mp z)
      refine ok_gd.mpr ⟨gb_of (by omega) (by omega), ?_⟩
      refine ok_nm2 (fun v8_2_5 ev8_2_5 => ?_)
      have qv8_2_5 : v8_2_5.toInt = (σ.1 9 a2_1.toNatClampNeg).toInt := congrArg Int32.toInt ev8_2_5
      refine ok_ite.mpr ⟨fun h_23 => ?_, fun h_23 => ?_⟩
      · have g24 : v4_2.toInt = v8_2_5.toInt := by rw [h_23]
        try unfold jX0_arePicturesRight_71_58
        refine ok_bd.mpr ((o_fX0_isNear_73 hIσ (p1 := a2_1) (by omega) (by omega)).mono (fun r11_7 ho_26 => ?_))
        obtain ⟨r0r11_7, r1r11_7⟩ := ho_26
        refine ok_ite.mpr ⟨fun h_27 => ?_, fun h_27 => ?_⟩
        · have g28 : r11_7.toInt = (0 : Int32).toInt := by rw [h_27]
          refine ok_some.mpr ?_
          exact ⟨(show 0 ≤ (0 : Int32).toInt by omega), (show (0 : Int32).toInt ≤ 1 by omega)⟩
        · have g29 : r11_7.toInt ≠ (0 : Int32).toInt := fun z => h_27 (Int32.toInt_inj.mp z)
          refine ok_nm2 (fun x13_7 ex13_7 => ?_)
          have f30 : (a2_1 + (1 : Int32)).toInt = a2_1.toInt + (1 : Int32).toInt := iadd_toInt (by omega) (by omega)
          have qx13_7 : x13_7.toInt = (a2_1 + 1).toInt := congrArg Int32.toInt ex13_7
          exact hrec_1 _ x13_7 (show (12 + 1 - x13_7.toInt).toNat < n_1 by omega) ⟨rfl, (show 0 ≤ x13_7.toInt by omega), (show x13_7.toInt ≤ 12 by omega)⟩
      · have g31 : v4_2.toInt ≠ v8_2_5.toInt := fun z => h_23 (Int32.toInt_inj.mp z)
        refine ok_some.mpr ?_
        exact ⟨(show 0 ≤ (0 : Int32).toInt by omega), (show (0 : Int32).toInt ≤ 1 by omega)⟩
set_option maxRecDepth 20000 in
set_option maxHeartbeats 2000000 in
theorem o_fX0_isNear_76 {σ : gS} (hIσ : JC σ) {p1 : Int32} (h0p1 : 0 ≤ p1.toInt) (h1p1 : p1.toInt ≤ 19) : Ok (fX0_isNear_76 σ p1) (fun out => 0 ≤ out.toInt ∧ out.toInt ≤ 1) := by
  unfold fX0_isNear_76
  have f1 : (0 : Int32).toInt = 0 := by decide
  refine ok_gd.mpr ⟨gb_of (by omega) (by omega), ?_⟩
  refine ok_gd.mpr ⟨gb_of (by omega) (by omega), ?_⟩
  refine ok_nm2 (fun v2 ev2 => ?_)
  have qv2 : v2.toInt = (σ.1 77 p1.toNatClampNeg).toInt := congrArg Int32.toInt ev2
  refine ok_ite.mpr ⟨fun h_2 => ?_, fun h_2 => ?_⟩
  · have f3 : (-100000000 : Int32).toInt = -100000000 := by decide
    have g4 : v2.toInt < (-100000000 : Int32).toInt := Int32.lt_iff_toInt_lt.mp h_2
    refine ok_some.mpr ?_
    exact ⟨(show 0 ≤ (0 : Int32).toInt by omega), (show (0 : Int32).toInt ≤ 1 by omega)⟩
  · have f5 : (-100000000 : Int32).toInt = -100000000 := by decide
    have g6 : ¬ v2.toInt < (-100000000 : Int32).toInt := fun z => h_2 (Int32.lt_iff_toInt_lt.mpr z)
    refine ok_gd.mpr ⟨gb_of (by omega) (by omega), ?_⟩
    refine ok_gd.mpr ⟨gb_of (by omega) (by omega), ?_⟩
    refine ok_nm2 (fun v5 ev5 => ?_)
    have qv5 : v5.toInt = (σ.1 77 p1.toNatClampNeg).toInt := congrArg Int32.toInt ev5
    refine ok_ite.mpr ⟨fun h_7 => ?_, fun h_7 => ?_⟩
    · have f8 : (100000000 : Int32).toInt = 100000000 := by decide
      have g9 : (100000000 : Int32).toInt < v5.toInt := Int32.lt_iff_toInt_lt.mp h_7
      refine ok_some.mpr ?_
      exact ⟨(show 0 ≤ (0 : Int32).toInt by omega), (show (0 : Int32).toInt ≤ 1 by omega)⟩
    · have f10 : (100000000 : Int32).toInt = 100000000 := by decide
      have g11 : ¬ (100000000 : Int32).toInt < v5.toInt := fun z => h_7 (Int32.lt_iff_toInt_lt.mpr z)
      have f12 : (1 : Int32).toInt = 1 := by decide
      refine ok_gd.mpr ⟨gb_of (by omega) (by omega), ?_⟩
      refine ok_gd.mpr ⟨gb_of (by omega) (by omega), ?_⟩
      refine ok_nm2 (fun v8 ev8 => ?_)
      have qv8 : v8.toInt = (σ.1 78 p1.toNatClampNeg).toInt := congrArg Int32.toInt ev8
      refine ok_ite.mpr ⟨fun h_13 => ?_, fun h_13 => ?_⟩
      · have g14 : v8.toInt < (-100000000 : Int32).toInt := Int32.lt_iff_toInt_lt.mp h_13
        refine ok_some.mpr ?_
        exact ⟨(show 0 ≤ (0 : Int32).toInt by omega), (show (0 : Int32).toInt ≤ 1 by omega)⟩
      · have g15 : ¬ v8.toInt < (-100000000 : Int32).toInt := fun z => h_13 (Int32.lt_iff_toInt_lt.mpr z)
        refine ok_gd.mpr ⟨gb_of (by omega) (by omega), ?_⟩
        refine ok_gd.mpr ⟨gb_of (by omega) (by omega), ?_⟩
        refine ok_nm2 (fun v11 ev11 => ?_)
        have qv11 : v11.toInt = (σ.1 78 p1.toNatClampNeg).toInt := congrArg Int32.toInt ev11
        refine ok_ite.mpr ⟨fun h_16 => ?_, fun h_16 => ?_⟩
        · have g17 : (100000000 : Int32).toInt < v11.toInt := Int32.lt_iff_toInt_lt.mp h_16
          refine ok_some.mpr ?_
          exact ⟨(show 0 ≤ (0 : Int32).toInt by omega), (show (0 : Int32).toInt ≤ 1 by omega)⟩
        · have g18 : ¬ (100000000 : Int32).toInt < v11.toInt := fun z => h_16 (Int32.lt_iff_toInt_lt.mpr z)
          refine ok_some.mpr ?_
          exact ⟨(show 0 ≤ (1 : Int32).toInt by omega), (show (1 : Int32).toInt ≤ 1 by omega)⟩
set_option maxRecDepth 20000 in
set_option maxHeartbeats 2000000 in
theorem o_fX5_isFixed_71 {σ : gS} (hIσ : JC σ) {p1 : Int32} (h0p1 : 0 ≤ p1.toInt) (h1p1 : p1.toInt ≤ 19) : Ok (fX5_isFixed_71 σ p1) (fun out => 0 ≤ out.toInt ∧ out.toInt ≤ 1) := by
  unfold fX5_isFixed_71
  refine ok_gd.mpr ⟨gb_of (by omega) (by omega), ?_⟩
  refine ok_nm2 (fun v1 ev1 => ?_)
  have qv1 : v1.toInt = (σ.1 16 p1.toNatClampNeg).toInt := congrArg Int32.toInt ev1
  refine ok_ite.mpr ⟨fun h_1 => ?_, fun h_1 => ?_⟩
  · have f2 : (0 : Int32).toInt = 0 := by decide
    have g3 : (v1 &&& (σ.1 71 1)).toInt = (0 : Int32).toInt := by rw [h_1]
    refine ok_some.mpr ?_
    exact ⟨(show 0 ≤ (0 : Int32).toInt by omega), (show (0 : Int32).toInt ≤ 1 by omega)⟩
  · have f4 : (0 : Int32).toInt = 0 := by decide
    have g5 : (v1 &&& (σ.1 71 1)).toInt ≠ (0 : Int32).toInt := fun z => h_1 (Int32.toInt_inj.mp z)
    refine ok_some.mpr ?_
    have f6 : (1 : Int32).toInt = 1 := by decide
    exact ⟨(show 0 ≤ (1 : Int32).toInt by omega), (show (1 : Int32).toInt ≤ 1 by omega)⟩
set_option maxRecDepth 20000 in
set_option maxHeartbeats 2000000 in
theorem o_fX5_fixedAt_71 {σ : gS} (hIσ : JC σ) {p1 : Int32} {p2 : Int32} (h0p1 : 0 ≤ p1.toInt) (h1p1 : p1.toInt ≤ 19) (h0p2 : 0 ≤ p2.toInt) (h1p2 : p2.toInt ≤ 1) : Ok (fX5_fixedAt_71 σ p1 p2) (fun _ => True) := by
  unfold fX5_fixedAt_71
  refine ok_gd.mpr ⟨gb_of (by omega) (by omega), ?_⟩
  refine ok_gd.mpr ⟨gb_of (by omega) (by omega), ?_⟩
  refine ok_nm2 (fun v2 ev2 => ?_)
  have qv2 : v2.toInt = (σ.1 (18 + p2.toNatClampNeg) p1.toNatClampNeg).toInt := congrArg Int32.toInt ev2
  refine ok_some.mpr ?_
  have f1 : (100 : Int32).toInt = 100 := by decide
  exact trivial
set_option maxRecDepth 20000 in
set_option maxHeartbeats 2000000 in
theorem o_fX0_isAt_76 {σ : gS} (hIσ : JC σ) {p1 : Int32} {p2 : Int32} {p3 : Int32} (h0p1 : 0 ≤ p1.toInt) (h1p1 : p1.toInt ≤ 19) : Ok (fX0_isAt_76 σ p1 p2 p3) (fun out => 0 ≤ out.toInt ∧ out.toInt ≤ 1) := by
  unfold fX0_isAt_76
  have f1 : (0 : Int32).toInt = 0 := by decide
  refine ok_gd.mpr ⟨gb_of (by omega) (by omega), ?_⟩
  refine ok_gd.mpr ⟨gb_of (by omega) (by omega), ?_⟩
  refine ok_nm2 (fun v2 ev2 => ?_)
  have qv2 : v2.toInt = (σ.1 77 p1.toNatClampNeg).toInt := congrArg Int32.toInt ev2
  refine ok_ite.mpr ⟨fun h_2 => ?_, fun h_2 => ?_⟩
  · have g3 : v2.toInt = p2.toInt := by rw [h_2]
    have f4 : (1 : Int32).toInt = 1 := by decide
    refine ok_gd.mpr ⟨gb_of (by omega) (by omega), ?_⟩
    refine ok_gd.mpr ⟨gb_of (by omega) (by omega), ?_⟩
    refine ok_nm2 (fun v5 ev5 => ?_)
    have qv5 : v5.toInt = (σ.1 78 p1.toNatClampNeg).toInt := congrArg Int32.toInt ev5
    refine ok_ite.mpr ⟨fun h_5 => ?_, fun h_5 => ?_⟩
    · have g6 : v5.toInt = p3.toInt := by rw [h_5]
      refine ok_some.mpr ?_
      exact ⟨(show 0 ≤ (1 : Int32).toInt by omega), (show (1 : Int32).toInt ≤ 1 by omega)⟩
    · have g7 : v5.toInt ≠ p3.toInt := fun z => h_5 (Int32.toInt_inj.mp z)
      refine ok_some.mpr ?_
      exact ⟨(show 0 ≤ (0 : Int32).toInt by omega), (show (0 : Int32).toInt ≤ 1 by omega)⟩
  · have g8 : v2.toInt ≠ p2.toInt := fun z => h_2 (Int32.toInt_inj.mp z)
    refine ok_some.mpr ?_
    exact ⟨(show 0 ≤ (0 : Int32).toInt by omega), (show (0 : Int32).toInt ≤ 1 by omega)⟩
set_option maxRecDepth 20000 in
set_option maxHeartbeats 2000000 in
theorem o_fX0_arePointsRight_71 {σ : gS} (hIσ : JC σ)   : Ok (fX0_arePointsRight_71 σ ) (fun out => 0 ≤ out.toInt ∧ out.toInt ≤ 1) := by
  unfold fX0_arePointsRight_71
  refine ok_nm2 (fun x1 ex1 => ?_)
  have f1 : (0 : Int32).toInt = 0 := by decide
  have qx1 : x1.toInt = 0 := by rw [ex1]; decide
  refine ok_lpc (I := fun n s => n = (20 + 1 - s.toInt).toNat ∧ 0 ≤ s.toInt ∧ s.toInt ≤ 20) (fun rec2_1r n_1 s_1 hs_1 hrec_1 => ?_) K9 ((20 + 1 - x1.toInt).toNat) x1 ⟨rfl, (show 0 ≤ x1.toInt by omega), (show x1.toInt ≤ 20 by omega)⟩ (by unfold K9; omega)
  obtain ⟨a2_1, hq_1⟩ : ∃ y, y = s_1 := ⟨_, rfl⟩
  subst hq_1
  obtain ⟨hn_1, b0a2_1, b1a2_1⟩ := hs_1
  skip
  unfold bX0_arePointsRight_71_2
  try dsimp only
  have f2 : (2 : Int32).toInt = 2 := by decide
  refine ok_gd.mpr ⟨gb_of (by omega) (by omega), ?_⟩
  refine ok_nm2 (fun v2_46 ev2_46 => ?_)
  have f3 : 0 ≤ (σ.1 3 2).toInt ∧ (σ.1 3 2).toInt ≤ 20 := hIσ 3 2
  have qv2_46 : v2_46.toInt = (σ.1 3 2).toInt := congrArg Int32.toInt ev2_46
  refine ok_ite.mpr ⟨fun h_4 => ?_, fun h_4 => ?_⟩
  · have g5 : v2_46.toInt ≤ a2_1.toInt := Int32.le_iff_toInt_le.mp h_4
    refine ok_some.mpr ?_
    have f6 : (1 : Int32).toInt = 1 := by decide
    exact ⟨(show 0 ≤ (1 : Int32).toInt by omega), (show (1 : Int32).toInt ≤ 1 by omega)⟩
  · have g7 : ¬ v2_46.toInt ≤ a2_1.toInt := fun z => h_4 (Int32.le_iff_toInt_le.mpr z)
    refine ok_bd.mpr ((o_fX0_isNear_76 hIσ (p1 := a2_1) (by omega) (by omega)).mono (fun r5_46 ho_9 => ?_))
    obtain ⟨r0r5_46, r1r5_46⟩ := ho_9
    refine ok_ite.mpr ⟨fun h_10 => ?_, fun h_10 => ?_⟩
    · have g11 : r5_46.toInt = (0 : Int32).toInt := by rw [h_10]
      refine ok_some.mpr ?_
      exact ⟨(show 0 ≤ (0 : Int32).toInt by omega), (show (0 : Int32).toInt ≤ 1 by omega)⟩
    · have g12 : r5_46.toInt ≠ (0 : Int32).toInt := fun z => h_10 (Int32.toInt_inj.mp z)
      refine ok_bd.mpr ?_
      try unfold fX5_isFixed_71
      refine ok_gd.mpr ⟨gb_of (by omega) (by omega), ?_⟩
      refine ok_nm2 (fun v1_47 ev1_47 => ?_)
      have qv1_47 : v1_47.toInt = (σ.1 16 a2_1.toNatClampNeg).toInt := congrArg Int32.toInt ev1_47
      refine ok_ite.mpr ⟨fun h_13 => ?_, fun h_13 => ?_⟩
      · have g14 : (v1_47 &&& (σ.1 71 1)).toInt = (0 : Int32).toInt := by rw [h_13]
        refine ok_some.mpr ?_
        refine ok_ite.mpr ⟨fun h_15 => ?_, fun h_15 => ?_⟩
        · have g16 : (0 : Int32).toInt = (0 : Int32).toInt := by rw [h_15]
          refine ok_nm2 (fun x10_46_48 ex10_46_48 => ?_)
          have f17 : (1 : Int32).toInt = 1 := by decide
          have f18 : (a2_1 + (1 : Int32)).toInt = a2_1.toInt + (1 : Int32).toInt := iadd_toInt (by omega) (by omega)
          have qx10_46_48 : x10_46_48.toInt = (a2_1 + 1).toInt := congrArg Int32.toInt ex10_46_48
          exact hrec_1 _ x10_46_48 (show (20 + 1 - x10_46_48.toInt).toNat < n_1 by omega) ⟨rfl, (show 0 ≤ x10_46_48.toInt by omega), (show x10_46_48.toInt ≤ 20 by omega)⟩
        · have g19 : (0 : Int32).toInt ≠ (0 : Int32).toInt := fun z => h_15 (Int32.toInt_inj.mp z)
          exfalso
          omega
      · have g20 : (v1_47 &&& (σ.1 71 1)).toInt ≠ (0 : Int32).toInt := fun z => h_13 (Int32.toInt_inj.mp z)
        refine ok_some.mpr ?_
        refine ok_ite.mpr ⟨fun h_21 => ?_, fun h_21 => ?_⟩
        · have f22 : (1 : Int32).toInt = 1 := by decide
          have g23 : (1 : Int32).toInt = (0 : Int32).toInt := by rw [h_21]
          exfalso
          omega
        · have f24 : (1 : Int32).toInt = 1 := by decide
          have g25 : (1 : Int32).toInt ≠ (0 : Int32).toInt := fun z => h_21 (Int32.toInt_inj.mp z)
          refine ok_bd.mpr ?_
          try unfold fX5_fixedAt_71
          refine ok_gd.mpr ⟨gb_of (by omega) (by omega), ?_⟩
          refine ok_gd.mpr ⟨gb_of (by omega) (by omega), ?_⟩
          refine ok_nm2 (fun v2_50 ev2_50 => ?_)
          have qv2_50 : v2_50.toInt = (σ.1 (18 + (0 : Int32).toNatClampNeg) a2_1.toNatClampNeg).toInt := congrArg Int32.toInt ev2_50
          refine ok_some.mpr ?_
          refine ok_bd.mpr ?_
          try unfold fX5_fixedAt_71
          refine ok_gd.mpr ⟨gb_of (by omega) (by omega), ?_⟩
          refine ok_gd.mpr ⟨gb_of (by omega) (by omega), ?_⟩
          refine ok_nm2 (fun v2_52 ev2_52 => ?_)
          have qv2_52 : v2_52.toInt = (σ.1 (18 + (1 : Int32).toNatClampNeg) a2_1.toNatClampNeg).toInt := congrArg Int32.toInt ev2_52
          refine ok_some.mpr ?_
          refine ok_bd.mpr ?_
          try unfold fX0_isAt_76
          refine ok_gd.mpr ⟨gb_of (by omega) (by omega), ?_⟩
          refine ok_gd.mpr ⟨gb_of (by omega) (by omega), ?_⟩
          refine ok_nm2 (fun v2_54 ev2_54 => ?_)
          have qv2_54 : v2_54.toInt = (σ.1 77 a2_1.toNatClampNeg).toInt := congrArg Int32.toInt ev2_54
          refine ok_ite.mpr ⟨fun h_26 => ?_, fun h_26 => ?_⟩
          · have f27 : (100 : Int32).toInt = 100 := by decide
            have g28 : v2_54.toInt = (100 * v2_50).toInt := by rw [h_26]
            refine ok_gd.mpr ⟨gb_of (by omega) (by omega), ?_⟩
            refine ok_gd.mpr ⟨gb_of (by omega) (by omega), ?_⟩
            refine ok_nm2 (fun v5_54 ev5_54 => ?_)
            have qv5_54 : v5_54.toInt = (σ.1 78 a2_1.toNatClampNeg).toInt := congrArg Int32.toInt ev5_54
            refine ok_ite.mpr ⟨fun h_29 => ?_, fun h_29 => ?_⟩
            · have g30 : v5_54.toInt = (100 * v2_52).toInt := by rw [h_29]
              refine ok_some.mpr ?_
              refine ok_ite.mpr ⟨fun h_31 => ?_, fun h_31 => ?_⟩
              · have g32 : (1 : Int32).toInt = (0 : Int32).toInt := by rw [h_31]
                exfalso
                omega
              · have g33 : (1 : Int32).toInt ≠ (0 : Int32).toInt := fun z => h_31 (Int32.toInt_inj.mp z)
                refine ok_nm2 (fun x18_46_49_51_53_55 ex18_46_49_51_53_55 => ?_)
                have f34 : (a2_1 + (1 : Int32)).toInt = a2_1.toInt + (1 : Int32).toInt := iadd_toInt (by omega) (by omega)
                have qx18_46_49_51_53_55 : x18_46_49_51_53_55.toInt = (a2_1 + 1).toInt := congrArg Int32.toInt ex18_46_49_51_53_55
                exact hrec_1 _ x18_46_49_51_53_55 (show (20 + 1 - x18_46_49_51_53_55.toInt).toNat < n_1 by omega) ⟨rfl, (show 0 ≤ x18_46_49_51_53_55.toInt by omega), (show x18_46_49_51_53_55.toInt ≤ 20 by omega)⟩
            · have g35 : v5_54.toInt ≠ (100 * v2_52).toInt := fun z => h_29 (Int32.toInt_inj.mp z)
              refine ok_some.mpr ?_
              refine ok_ite.mpr ⟨fun h_36 => ?_, fun h_36 => ?_⟩
              · have g37 : (0 : Int32).toInt = (0 : Int32).toInt := by rw [h_36]
                refine ok_some.mpr ?_
                exact ⟨(show 0 ≤ (0 : Int32).toInt by omega), (show (0 : Int32).toInt ≤ 1 by omega)⟩
              · have g38 : (0 : Int32).toInt ≠ (0 : Int32).toInt := fun z => h_36 (Int32.toInt_inj.mp z)
                exfalso
                omega
          · have f39 : (100 : Int32).toInt = 100 := by decide
            have g40 : v2_54.toInt ≠ (100 * v2_50).toInt := fun z => h_26 (Int32.toInt_inj.mp z)
            refine ok_some.mpr ?_
            refine ok_ite.mpr ⟨fun h_41 => ?_, fun h_41 => ?_⟩
            · have g42 : (0 : Int32).toInt = (0 : Int32).toInt := by rw [h_41]
              refine ok_some.mpr ?_
              exact ⟨(show 0 ≤ (0 : Int32).toInt by omega), (show (0 : Int32).toInt ≤ 1 by omega)⟩
            · have g43 : (0 : Int32).toInt ≠ (0 : Int32).toInt := fun z => h_41 (Int32.toInt_inj.mp z)
              exfalso
              omega
set_option maxRecDepth 20000 in
set_option maxHeartbeats 2000000 in
theorem o_fX0_isNear_79 {σ : gS} (hIσ : JC σ) {p1 : Int32} (h0p1 : 0 ≤ p1.toInt) (h1p1 : p1.toInt ≤ 5) : Ok (fX0_isNear_79 σ p1) (fun out => 0 ≤ out.toInt ∧ out.toInt ≤ 1) := by
  unfold fX0_isNear_79
  have f1 : (0 : Int32).toInt = 0 := by decide
  refine ok_gd.mpr ⟨gb_of (by omega) (by omega), ?_⟩
  refine ok_gd.mpr ⟨gb_of (by omega) (by omega), ?_⟩
  refine ok_nm2 (fun v2 ev2 => ?_)
  have qv2 : v2.toInt = (σ.1 80 p1.toNatClampNeg).toInt := congrArg Int32.toInt ev2
  refine ok_ite.mpr ⟨fun h_2 => ?_, fun h_2 => ?_⟩
  · have f3 : (-100000000 : Int32).toInt = -100000000 := by decide
    have g4 : v2.toInt < (-100000000 : Int32).toInt := Int32.lt_iff_toInt_lt.mp h_2
    refine ok_some.mpr ?_
    exact ⟨(show 0 ≤ (0 : Int32).toInt by omega), (show (0 : Int32).toInt ≤ 1 by omega)⟩
  · have f5 : (-100000000 : Int32).toInt = -100000000 := by decide
    have g6 : ¬ v2.toInt < (-100000000 : Int32).toInt := fun z => h_2 (Int32.lt_iff_toInt_lt.mpr z)
    refine ok_gd.mpr ⟨gb_of (by omega) (by omega), ?_⟩
    refine ok_gd.mpr ⟨gb_of (by omega) (by omega), ?_⟩
    refine ok_nm2 (fun v5 ev5 => ?_)
    have qv5 : v5.toInt = (σ.1 80 p1.toNatClampNeg).toInt := congrArg Int32.toInt ev5
    refine ok_ite.mpr ⟨fun h_7 => ?_, fun h_7 => ?_⟩
    · have f8 : (100000000 : Int32).toInt = 100000000 := by decide
      have g9 : (100000000 : Int32).toInt < v5.toInt := Int32.lt_iff_toInt_lt.mp h_7
      refine ok_some.mpr ?_
      exact ⟨(show 0 ≤ (0 : Int32).toInt by omega), (show (0 : Int32).toInt ≤ 1 by omega)⟩
    · have f10 : (100000000 : Int32).toInt = 100000000 := by decide
      have g11 : ¬ (100000000 : Int32).toInt < v5.toInt := fun z => h_7 (Int32.lt_iff_toInt_lt.mpr z)
      have f12 : (1 : Int32).toInt = 1 := by decide
      refine ok_gd.mpr ⟨gb_of (by omega) (by omega), ?_⟩
      refine ok_gd.mpr ⟨gb_of (by omega) (by omega), ?_⟩
      refine ok_nm2 (fun v8 ev8 => ?_)
      have qv8 : v8.toInt = (σ.1 81 p1.toNatClampNeg).toInt := congrArg Int32.toInt ev8
      refine ok_ite.mpr ⟨fun h_13 => ?_, fun h_13 => ?_⟩
      · have g14 : v8.toInt < (-100000000 : Int32).toInt := Int32.lt_iff_toInt_lt.mp h_13
        refine ok_some.mpr ?_
        exact ⟨(show 0 ≤ (0 : Int32).toInt by omega), (show (0 : Int32).toInt ≤ 1 by omega)⟩
      · have g15 : ¬ v8.toInt < (-100000000 : Int32).toInt := fun z => h_13 (Int32.lt_iff_toInt_lt.mpr z)
        refine ok_gd.mpr ⟨gb_of (by omega) (by omega), ?_⟩
        refine ok_gd.mpr ⟨gb_of (by omega) (by omega), ?_⟩
        refine ok_nm2 (fun v11 ev11 => ?_)
        have qv11 : v11.toInt = (σ.1 81 p1.toNatClampNeg).toInt := congrArg Int32.toInt ev11
        refine ok_ite.mpr ⟨fun h_16 => ?_, fun h_16 => ?_⟩
        · have g17 : (100000000 : Int32).toInt < v11.toInt := Int32.lt_iff_toInt_lt.mp h_16
          refine ok_some.mpr ?_
          exact ⟨(show 0 ≤ (0 : Int32).toInt by omega), (show (0 : Int32).toInt ≤ 1 by omega)⟩
        · have g18 : ¬ (100000000 : Int32).toInt < v11.toInt := fun z => h_16 (Int32.lt_iff_toInt_lt.mpr z)
          refine ok_some.mpr ?_
          exact ⟨(show 0 ≤ (1 : Int32).toInt by omega), (show (1 : Int32).toInt ≤ 1 by omega)⟩
set_option maxRecDepth 20000 in
set_option maxHeartbeats 2000000 in
theorem o_fX0_isAt_79 {σ : gS} (hIσ : JC σ) {p1 : Int32} {p2 : Int32} {p3 : Int32} (h0p1 : 0 ≤ p1.toInt) (h1p1 : p1.toInt ≤ 5) : Ok (fX0_isAt_79 σ p1 p2 p3) (fun out => 0 ≤ out.toInt ∧ out.toInt ≤ 1) := by
  unfold fX0_isAt_79
  have f1 : (0 : Int32).toInt = 0 := by decide
  refine ok_gd.mpr ⟨gb_of (by omega) (by omega), ?_⟩
  refine ok_gd.mpr ⟨gb_of (by omega) (by omega), ?_⟩
  refine ok_nm2 (fun v2 ev2 => ?_)
  have qv2 : v2.toInt = (σ.1 80 p1.toNatClampNeg).toInt := congrArg Int32.toInt ev2
  refine ok_ite.mpr ⟨fun h_2 => ?_, fun h_2 => ?_⟩
  · have g3 : v2.toInt = p2.toInt := by rw [h_2]
    have f4 : (1 : Int32).toInt = 1 := by decide
    refine ok_gd.mpr ⟨gb_of (by omega) (by omega), ?_⟩
    refine ok_gd.mpr ⟨gb_of (by omega) (by omega), ?_⟩
    refine ok_nm2 (fun v5 ev5 => ?_)
    have qv5 : v5.toInt = (σ.1 81 p1.toNatClampNeg).toInt := congrArg Int32.toInt ev5
    refine ok_ite.mpr ⟨fun h_5 => ?_, fun h_5 => ?_⟩
    · have g6 : v5.toInt = p3.toInt := by rw [h_5]
      refine ok_some.mpr ?_
      exact ⟨(show 0 ≤ (1 : Int32).toInt by omega), (show (1 : Int32).toInt ≤ 1 by omega)⟩
    · have g7 : v5.toInt ≠ p3.toInt := fun z => h_5 (Int32.toInt_inj.mp z)
      refine ok_some.mpr ?_
      exact ⟨(show 0 ≤ (0 : Int32).toInt by omega), (show (0 : Int32).toInt ≤ 1 by omega)⟩
  · have g8 : v2.toInt ≠ p2.toInt := fun z => h_2 (Int32.toInt_inj.mp z)
    refine ok_some.mpr ?_
    exact ⟨(show 0 ≤ (0 : Int32).toInt by omega), (show (0 : Int32).toInt ≤ 1 by omega)⟩
set_option maxRecDepth 20000 in
set_option maxHeartbeats 2000000 in
theorem o_fX0_areDriftsRight_71 {σ : gS} (hIσ : JC σ)   : Ok (fX0_areDriftsRight_71 σ ) (fun out => 0 ≤ out.toInt ∧ out.toInt ≤ 1) := by
  unfold fX0_areDriftsRight_71
  refine ok_nm2 (fun x1 ex1 => ?_)
  have f1 : (0 : Int32).toInt = 0 := by decide
  have qx1 : x1.toInt = 0 := by rw [ex1]; decide
  refine ok_lpc (I := fun n s => n = (6 + 1 - s.toInt).toNat ∧ 0 ≤ s.toInt ∧ s.toInt ≤ 6) (fun rec2_1r n_1 s_1 hs_1 hrec_1 => ?_) K9 ((6 + 1 - x1.toInt).toNat) x1 ⟨rfl, (show 0 ≤ x1.toInt by omega), (show x1.toInt ≤ 6 by omega)⟩ (by unfold K9; omega)
  obtain ⟨a2_1, hq_1⟩ : ∃ y, y = s_1 := ⟨_, rfl⟩
  subst hq_1
  obtain ⟨hn_1, b0a2_1, b1a2_1⟩ := hs_1
  skip
  unfold bX0_areDriftsRight_71_2
  try dsimp only
  refine ok_gd.mpr ⟨gb_of (by omega) (by omega), ?_⟩
  refine ok_nm2 (fun v2_9 ev2_9 => ?_)
  have f2 : 0 ≤ (σ.1 3 0).toInt ∧ (σ.1 3 0).toInt ≤ 6 := hIσ 3 0
  have qv2_9 : v2_9.toInt = (σ.1 3 0).toInt := congrArg Int32.toInt ev2_9
  refine ok_ite.mpr ⟨fun h_3 => ?_, fun h_3 => ?_⟩
  · have g4 : v2_9.toInt ≤ a2_1.toInt := Int32.le_iff_toInt_le.mp h_3
    refine ok_some.mpr ?_
    have f5 : (1 : Int32).toInt = 1 := by decide
    exact ⟨(show 0 ≤ (1 : Int32).toInt by omega), (show (1 : Int32).toInt ≤ 1 by omega)⟩
  · have g6 : ¬ v2_9.toInt ≤ a2_1.toInt := fun z => h_3 (Int32.le_iff_toInt_le.mpr z)
    refine ok_bd.mpr ((o_fX0_isNear_79 hIσ (p1 := a2_1) (by omega) (by omega)).mono (fun r5_9 ho_8 => ?_))
    obtain ⟨r0r5_9, r1r5_9⟩ := ho_8
    refine ok_ite.mpr ⟨fun h_9 => ?_, fun h_9 => ?_⟩
    · have g10 : r5_9.toInt = (0 : Int32).toInt := by rw [h_9]
      refine ok_some.mpr ?_
      exact ⟨(show 0 ≤ (0 : Int32).toInt by omega), (show (0 : Int32).toInt ≤ 1 by omega)⟩
    · have g11 : r5_9.toInt ≠ (0 : Int32).toInt := fun z => h_9 (Int32.toInt_inj.mp z)
      refine ok_bd.mpr ((o_fX8_drifts_2 hIσ (p1 := a2_1) ).mono (fun r8_9 ho_13 => ?_))
      obtain ⟨r0r8_9, r1r8_9⟩ := ho_13
      refine ok_ite.mpr ⟨fun h_14 => ?_, fun h_14 => ?_⟩
      · have g15 : r8_9.toInt = (0 : Int32).toInt := by rw [h_14]
        refine ok_bd.mpr ?_
        try unfold fX0_isAt_79
        refine ok_gd.mpr ⟨gb_of (by omega) (by omega), ?_⟩
        refine ok_gd.mpr ⟨gb_of (by omega) (by omega), ?_⟩
        refine ok_nm2 (fun v2_10 ev2_10 => ?_)
        have qv2_10 : v2_10.toInt = (σ.1 80 a2_1.toNatClampNeg).toInt := congrArg Int32.toInt ev2_10
        refine ok_ite.mpr ⟨fun h_16 => ?_, fun h_16 => ?_⟩
        · have g17 : v2_10.toInt = (0 : Int32).toInt := by rw [h_16]
          have f18 : (1 : Int32).toInt = 1 := by decide
          refine ok_gd.mpr ⟨gb_of (by omega) (by omega), ?_⟩
          refine ok_gd.mpr ⟨gb_of (by omega) (by omega), ?_⟩
          refine ok_nm2 (fun v5_10 ev5_10 => ?_)
          have qv5_10 : v5_10.toInt = (σ.1 81 a2_1.toNatClampNeg).toInt := congrArg Int32.toInt ev5_10
          refine ok_ite.mpr ⟨fun h_19 => ?_, fun h_19 => ?_⟩
          · have g20 : v5_10.toInt = (0 : Int32).toInt := by rw [h_19]
            refine ok_some.mpr ?_
            refine ok_ite.mpr ⟨fun h_21 => ?_, fun h_21 => ?_⟩
            · have g22 : (1 : Int32).toInt = (0 : Int32).toInt := by rw [h_21]
              exfalso
              omega
            · have g23 : (1 : Int32).toInt ≠ (0 : Int32).toInt := fun z => h_21 (Int32.toInt_inj.mp z)
              refine ok_nm2 (fun x14_9_11 ex14_9_11 => ?_)
              have f24 : (a2_1 + (1 : Int32)).toInt = a2_1.toInt + (1 : Int32).toInt := iadd_toInt (by omega) (by omega)
              have qx14_9_11 : x14_9_11.toInt = (a2_1 + 1).toInt := congrArg Int32.toInt ex14_9_11
              exact hrec_1 _ x14_9_11 (show (6 + 1 - x14_9_11.toInt).toNat < n_1 by omega) ⟨rfl, (show 0 ≤ x14_9_11.toInt by omega), (show x14_9_11.toInt ≤ 6 by omega)⟩
          · have g25 : v5_10.toInt ≠ (0 : Int32).toInt := fun z => h_19 (Int32.toInt_inj.mp z)
            refine ok_some.mpr ?_
            refine ok_ite.mpr ⟨fun h_26 => ?_, fun h_26 => ?_⟩
            · have g27 : (0 : Int32).toInt = (0 : Int32).toInt := by rw [h_26]
              refine ok_some.mpr ?_
              exact ⟨(show 0 ≤ (0 : Int32).toInt by omega), (show (0 : Int32).toInt ≤ 1 by omega)⟩
            · have g28 : (0 : Int32).toInt ≠ (0 : Int32).toInt := fun z => h_26 (Int32.toInt_inj.mp z)
              exfalso
              omega
        · have g29 : v2_10.toInt ≠ (0 : Int32).toInt := fun z => h_16 (Int32.toInt_inj.mp z)
          refine ok_some.mpr ?_
          refine ok_ite.mpr ⟨fun h_30 => ?_, fun h_30 => ?_⟩
          · have g31 : (0 : Int32).toInt = (0 : Int32).toInt := by rw [h_30]
            refine ok_some.mpr ?_
            exact ⟨(show 0 ≤ (0 : Int32).toInt by omega), (show (0 : Int32).toInt ≤ 1 by omega)⟩
          · have g32 : (0 : Int32).toInt ≠ (0 : Int32).toInt := fun z => h_30 (Int32.toInt_inj.mp z)
            exfalso
            omega
      · have g33 : r8_9.toInt ≠ (0 : Int32).toInt := fun z => h_14 (Int32.toInt_inj.mp z)
        refine ok_nm2 (fun x10_9 ex10_9 => ?_)
        have f34 : (1 : Int32).toInt = 1 := by decide
        have f35 : (a2_1 + (1 : Int32)).toInt = a2_1.toInt + (1 : Int32).toInt := iadd_toInt (by omega) (by omega)
        have qx10_9 : x10_9.toInt = (a2_1 + 1).toInt := congrArg Int32.toInt ex10_9
        exact hrec_1 _ x10_9 (show (6 + 1 - x10_9.toInt).toNat < n_1 by omega) ⟨rfl, (show 0 ≤ x10_9.toInt by omega), (show x10_9.toInt ≤ 6 by omega)⟩
set_option maxRecDepth 20000 in
set_option maxHeartbeats 2000000 in
theorem o_fX0_areRowsRight_71 {σ : gS} (hIσ : JC σ)   : Ok (fX0_areRowsRight_71 σ ) (fun out => 0 ≤ out.toInt ∧ out.toInt ≤ 1) := by
  unfold fX0_areRowsRight_71
  refine ok_nm2 (fun x1 ex1 => ?_)
  have f1 : (0 : Int32).toInt = 0 := by decide
  have qx1 : x1.toInt = 0 := by rw [ex1]; decide
  refine ok_lpc (I := fun n s => n = (60 + 1 - s.toInt).toNat ∧ 0 ≤ s.toInt ∧ s.toInt ≤ 60) (fun rec2_1r n_1 s_1 hs_1 hrec_1 => ?_) K9 ((60 + 1 - x1.toInt).toNat) x1 ⟨rfl, (show 0 ≤ x1.toInt by omega), (show x1.toInt ≤ 60 by omega)⟩ (by unfold K9; omega)
  obtain ⟨a2_1, hq_1⟩ : ∃ y, y = s_1 := ⟨_, rfl⟩
  subst hq_1
  obtain ⟨hn_1, b0a2_1, b1a2_1⟩ := hs_1
  skip
  unfold bX0_areRowsRight_71_2
  try dsimp only
  have f2 : (3 : Int32).toInt = 3 := by decide
  refine ok_gd.mpr ⟨gb_of (by omega) (by omega), ?_⟩
  refine ok_nm2 (fun v2_2 ev2_2 => ?_)
  have f3 : 0 ≤ (σ.1 3 3).toInt ∧ (σ.1 3 3).toInt ≤ 60 := hIσ 3 3
  have qv2_2 : v2_2.toInt = (σ.1 3 3).toInt := congrArg Int32.toInt ev2_2
  refine ok_ite.mpr ⟨fun h_4 => ?_, fun h_4 => ?_⟩
  · have g5 : v2_2.toInt ≤ a2_1.toInt := Int32.le_iff_toInt_le.mp h_4
    refine ok_some.mpr ?_
    have f6 : (1 : Int32).toInt = 1 := by decide
    exact ⟨(show 0 ≤ (1 : Int32).toInt by omega), (show (1 : Int32).toInt ≤ 1 by omega)⟩
  · have g7 : ¬ v2_2.toInt ≤ a2_1.toInt := fun z => h_4 (Int32.le_iff_toInt_le.mpr z)
    refine ok_gd.mpr ⟨gb_of (by omega) (by omega), ?_⟩
    refine ok_nm2 (fun v4_2 ev4_2 => ?_)
    have qv4_2 : v4_2.toInt = (σ.1 82 a2_1.toNatClampNeg).toInt := congrArg Int32.toInt ev4_2
    refine ok_ite.mpr ⟨fun h_8 => ?_, fun h_8 => ?_⟩
    · have f9 : (1 : Int32).toInt = 1 := by decide
      have g10 : v4_2.toInt ≤ (1 : Int32).toInt := Int32.le_iff_toInt_le.mp h_8
      refine ok_nm2 (fun x6_2 ex6_2 => ?_)
      have f11 : (a2_1 + (1 : Int32)).toInt = a2_1.toInt + (1 : Int32).toInt := iadd_toInt (by omega) (by omega)
      have qx6_2 : x6_2.toInt = (a2_1 + 1).toInt := congrArg Int32.toInt ex6_2
      exact hrec_1 _ x6_2 (show (60 + 1 - x6_2.toInt).toNat < n_1 by omega) ⟨rfl, (show 0 ≤ x6_2.toInt by omega), (show x6_2.toInt ≤ 60 by omega)⟩
    · have f12 : (1 : Int32).toInt = 1 := by decide
      have g13 : ¬ v4_2.toInt ≤ (1 : Int32).toInt := fun z => h_8 (Int32.le_iff_toInt_le.mpr z)
      refine ok_some.mpr ?_
      exact ⟨(show 0 ≤ (0 : Int32).toInt by omega), (show (0 : Int32).toInt ≤ 1 by omega)⟩
set_option maxRecDepth 20000 in
set_option maxHeartbeats 2000000 in
theorem o_fX0_read_71 {σ : gS} (hIσ : JC σ) {p1 : Nat} {p2 : Int32} (h0p1 : 1 ≤ p1) (h1p1 : p1 ≤ 1) : Ok (fX0_read_71 σ p1 p2) (fun out => JC out.2 ∧ Fr fr_fX0_read_71 σ out.2 ∧ 0 ≤ out.1.toInt ∧ out.1.toInt ≤ 1) := by
  unfold fX0_read_71
  have hfσ : Fr fr_fX0_read_71 σ σ := Fr_r
  refine ok_bd.mpr ?_
  try unfold fX0_dueLength
  have f1 : (1 : Int32).toInt = 1 := by decide
  refine ok_gd.mpr ⟨gb_of (by omega) (by omega), ?_⟩
  refine ok_nm2 (fun v1_1 ev1_1 => ?_)
  have f2 : 0 ≤ (σ.1 3 1).toInt ∧ (σ.1 3 1).toInt ≤ 12 := hIσ 3 1
  have qv1_1 : v1_1.toInt = (σ.1 3 1).toInt := congrArg Int32.toInt ev1_1
  have f3 : (2 : Int32).toInt = 2 := by decide
  refine ok_gd.mpr ⟨gb_of (by omega) (by omega), ?_⟩
  refine ok_nm2 (fun v2_1 ev2_1 => ?_)
  have f4 : 0 ≤ (σ.1 3 2).toInt ∧ (σ.1 3 2).toInt ≤ 20 := hIσ 3 2
  have qv2_1 : v2_1.toInt = (σ.1 3 2).toInt := congrArg Int32.toInt ev2_1
  have f5 : (0 : Int32).toInt = 0 := by decide
  refine ok_gd.mpr ⟨gb_of (by omega) (by omega), ?_⟩
  refine ok_nm2 (fun v3_1 ev3_1 => ?_)
  have f6 : 0 ≤ (σ.1 3 0).toInt ∧ (σ.1 3 0).toInt ≤ 6 := hIσ 3 0
  have qv3_1 : v3_1.toInt = (σ.1 3 0).toInt := congrArg Int32.toInt ev3_1
  have f7 : (3 : Int32).toInt = 3 := by decide
  refine ok_gd.mpr ⟨gb_of (by omega) (by omega), ?_⟩
  refine ok_nm2 (fun v4_1 ev4_1 => ?_)
  have f8 : 0 ≤ (σ.1 3 3).toInt ∧ (σ.1 3 3).toInt ≤ 60 := hIσ 3 3
  have qv4_1 : v4_1.toInt = (σ.1 3 3).toInt := congrArg Int32.toInt ev4_1
  refine ok_some.mpr ?_
  refine ok_ite.mpr ⟨fun h_9 => ?_, fun h_9 => ?_⟩
  · have f10 : (9 : Int32).toInt = 9 := by decide
    have f11 : ((9 : Int32) * v1_1).toInt = 9 * v1_1.toInt := imulc (by decide) (by omega) (by omega)
    have f12 : ((2 : Int32) + (9 * v1_1)).toInt = (2 : Int32).toInt + (9 * v1_1).toInt := iadd_toInt (by omega) (by omega)
    have f13 : (8 : Int32).toInt = 8 := by decide
    have f14 : ((8 : Int32) * v2_1).toInt = 8 * v2_1.toInt := imulc (by decide) (by omega) (by omega)
    have f15 : ((2 + (9 * v1_1)) + (8 * v2_1)).toInt = (2 + (9 * v1_1)).toInt + (8 * v2_1).toInt := iadd_toInt (by omega) (by omega)
    have f16 : ((8 : Int32) * v3_1).toInt = 8 * v3_1.toInt := imulc (by decide) (by omega) (by omega)
    have f17 : (((2 + (9 * v1_1)) + (8 * v2_1)) + (8 * v3_1)).toInt = ((2 + (9 * v1_1)) + (8 * v2_1)).toInt + (8 * v3_1).toInt := iadd_toInt (by omega) (by omega)
    have f18 : ((((2 + (9 * v1_1)) + (8 * v2_1)) + (8 * v3_1)) + v4_1).toInt = (((2 + (9 * v1_1)) + (8 * v2_1)) + (8 * v3_1)).toInt + v4_1.toInt := iadd_toInt (by omega) (by omega)
    have g19 : p2.toInt = ((((2 + (9 * v1_1)) + (8 * v2_1)) + (8 * v3_1)) + v4_1).toInt := by rw [h_9]
    refine ok_gd.mpr ⟨?_, ?_⟩
    · have hj : p1 = 1 := by omega
      rcases hj with hj <;> rw [hj] <;> decide
    refine ok_ite.mpr ⟨fun h_20 => ?_, fun h_20 => ?_⟩
    · have f21 : 1600 ≤ (gsz zC.1 0 0 p1) ∧ (gsz zC.1 0 0 p1) ≤ 1600 := by
        have hj : p1 = 1 := by omega
        rcases hj with hj <;> rw [hj] <;> decide
      have f22 : (Int32.ofNat (gsz zC.1 0 0 p1)).toInt = (((gsz zC.1 0 0 p1) : Nat) : Int) := iofNat_toInt (by omega)
      have g23 : p2.toInt ≤ (Int32.ofNat (gsz zC.1 0 0 p1)).toInt := Int32.le_iff_toInt_le.mp h_20
      have f24 : (p2 - (1 : Int32)).toInt = p2.toInt - (1 : Int32).toInt := isub_toInt (by omega) (by omega)
      refine ok_bd.mpr ((o_fX0_check hIσ (p0 := p1) (p1 := (p2 - 1)) (by omega) (by omega) (by omega) (by omega) (by omega)).mono (fun r7_2 ho_26 => ?_))
      refine ok_gd.mpr ⟨gb_of (by omega) (by omega), ?_⟩
      refine ok_nm2 (fun v8_2 ev8_2 => ?_)
      have qv8_2 : v8_2.toInt = (σ.1 p1 (p2 - 1).toNatClampNeg).toInt := congrArg Int32.toInt ev8_2
      refine ok_ite.mpr ⟨fun h_27 => ?_, fun h_27 => ?_⟩
      · have g28 : r7_2.toInt = v8_2.toInt := by rw [h_27]
        refine ok_bd.mpr ((o_fX0_take_71 hIσ (p1 := p1) (by omega) (by omega)).mono (fun σ11_2 ho_30 => ?_))
        obtain ⟨hIσ11_2, hcσ11_2⟩ := ho_30
        have hfσ11_2 : Fr fr_fX0_read_71 σ σ11_2 := Fr_c hfσ hcσ11_2 (by decide)
        have sσ11_2_0_0 : (σ11_2.1 0 0).toInt = (σ.1 0 0).toInt := by rw [(hcσ11_2 0 0 (by decide) (by decide)).1]
        refine ok_ite.mpr ⟨fun h_31 => ?_, fun h_31 => ?_⟩
        · have g32 : (3 : Int32).toInt < (σ11_2.1 71 1).toInt := Int32.lt_iff_toInt_lt.mp h_31
          refine ok_some.mpr ?_
          exact ⟨hIσ11_2, hfσ11_2, (show 0 ≤ (0 : Int32).toInt by omega), (show (0 : Int32).toInt ≤ 1 by omega)⟩
        · have g33 : ¬ (3 : Int32).toInt < (σ11_2.1 71 1).toInt := fun z => h_31 (Int32.lt_iff_toInt_lt.mpr z)
          refine ok_bd.mpr ((o_fX0_arePicturesRight_71 hIσ11_2  ).mono (fun r14_2 ho_35 => ?_))
          obtain ⟨r0r14_2, r1r14_2⟩ := ho_35
          refine ok_ite.mpr ⟨fun h_36 => ?_, fun h_36 => ?_⟩
          · have g37 : r14_2.toInt = (0 : Int32).toInt := by rw [h_36]
            refine ok_some.mpr ?_
            exact ⟨hIσ11_2, hfσ11_2, (show 0 ≤ (0 : Int32).toInt by omega), (show (0 : Int32).toInt ≤ 1 by omega)⟩
          · have g38 : r14_2.toInt ≠ (0 : Int32).toInt := fun z => h_36 (Int32.toInt_inj.mp z)
            refine ok_bd.mpr ((o_fX0_arePointsRight_71 hIσ11_2  ).mono (fun r17_2 ho_40 => ?_))
            obtain ⟨r0r17_2, r1r17_2⟩ := ho_40
            refine ok_ite.mpr ⟨fun h_41 => ?_, fun h_41 => ?_⟩
            · have g42 : r17_2.toInt = (0 : Int32).toInt := by rw [h_41]
              refine ok_some.mpr ?_
              exact ⟨hIσ11_2, hfσ11_2, (show 0 ≤ (0 : Int32).toInt by omega), (show (0 : Int32).toInt ≤ 1 by omega)⟩
            · have g43 : r17_2.toInt ≠ (0 : Int32).toInt := fun z => h_41 (Int32.toInt_inj.mp z)
              refine ok_bd.mpr ((o_fX0_areDriftsRight_71 hIσ11_2  ).mono (fun r20_2 ho_45 => ?_))
              obtain ⟨r0r20_2, r1r20_2⟩ := ho_45
              refine ok_ite.mpr ⟨fun h_46 => ?_, fun h_46 => ?_⟩
              · have g47 : r20_2.toInt = (0 : Int32).toInt := by rw [h_46]
                refine ok_some.mpr ?_
                exact ⟨hIσ11_2, hfσ11_2, (show 0 ≤ (0 : Int32).toInt by omega), (show (0 : Int32).toInt ≤ 1 by omega)⟩
              · have g48 : r20_2.toInt ≠ (0 : Int32).toInt := fun z => h_46 (Int32.toInt_inj.mp z)
                refine ok_bd.mpr ((o_fX0_areRowsRight_71 hIσ11_2  ).mono (fun r23_2 ho_50 => ?_))
                obtain ⟨r0r23_2, r1r23_2⟩ := ho_50
                refine ok_ite.mpr ⟨fun h_51 => ?_, fun h_51 => ?_⟩
                · have g52 : r23_2.toInt = (0 : Int32).toInt := by rw [h_51]
                  refine ok_some.mpr ?_
                  exact ⟨hIσ11_2, hfσ11_2, (show 0 ≤ (0 : Int32).toInt by omega), (show (0 : Int32).toInt ≤ 1 by omega)⟩
                · have g53 : r23_2.toInt ≠ (0 : Int32).toInt := fun z => h_51 (Int32.toInt_inj.mp z)
                  refine ok_some.mpr ?_
                  exact ⟨hIσ11_2, hfσ11_2, (show 0 ≤ (1 : Int32).toInt by omega), (show (1 : Int32).toInt ≤ 1 by omega)⟩
      · have g54 : r7_2.toInt ≠ v8_2.toInt := fun z => h_27 (Int32.toInt_inj.mp z)
        refine ok_some.mpr ?_
        exact ⟨hIσ, hfσ, (show 0 ≤ (0 : Int32).toInt by omega), (show (0 : Int32).toInt ≤ 1 by omega)⟩
    · have f55 : 1600 ≤ (gsz zC.1 0 0 p1) ∧ (gsz zC.1 0 0 p1) ≤ 1600 := by
        have hj : p1 = 1 := by omega
        rcases hj with hj <;> rw [hj] <;> decide
      have f56 : (Int32.ofNat (gsz zC.1 0 0 p1)).toInt = (((gsz zC.1 0 0 p1) : Nat) : Int) := iofNat_toInt (by omega)
      have g57 : ¬ p2.toInt ≤ (Int32.ofNat (gsz zC.1 0 0 p1)).toInt := fun z => h_20 (Int32.le_iff_toInt_le.mpr z)
      refine ok_some.mpr ?_
      exact ⟨hIσ, hfσ, (show 0 ≤ (0 : Int32).toInt by omega), (show (0 : Int32).toInt ≤ 1 by omega)⟩
  · have f58 : (9 : Int32).toInt = 9 := by decide
    have f59 : ((9 : Int32) * v1_1).toInt = 9 * v1_1.toInt := imulc (by decide) (by omega) (by omega)
    have f60 : ((2 : Int32) + (9 * v1_1)).toInt = (2 : Int32).toInt + (9 * v1_1).toInt := iadd_toInt (by omega) (by omega)
    have f61 : (8 : Int32).toInt = 8 := by decide
    have f62 : ((8 : Int32) * v2_1).toInt = 8 * v2_1.toInt := imulc (by decide) (by omega) (by omega)
    have f63 : ((2 + (9 * v1_1)) + (8 * v2_1)).toInt = (2 + (9 * v1_1)).toInt + (8 * v2_1).toInt := iadd_toInt (by omega) (by omega)
    have f64 : ((8 : Int32) * v3_1).toInt = 8 * v3_1.toInt := imulc (by decide) (by omega) (by omega)
    have f65 : (((2 + (9 * v1_1)) + (8 * v2_1)) + (8 * v3_1)).toInt = ((2 + (9 * v1_1)) + (8 * v2_1)).toInt + (8 * v3_1).toInt := iadd_toInt (by omega) (by omega)
    have f66 : ((((2 + (9 * v1_1)) + (8 * v2_1)) + (8 * v3_1)) + v4_1).toInt = (((2 + (9 * v1_1)) + (8 * v2_1)) + (8 * v3_1)).toInt + v4_1.toInt := iadd_toInt (by omega) (by omega)
    have g67 : p2.toInt ≠ ((((2 + (9 * v1_1)) + (8 * v2_1)) + (8 * v3_1)) + v4_1).toInt := fun z => h_9 (Int32.toInt_inj.mp z)
    refine ok_some.mpr ?_
    exact ⟨hIσ, hfσ, (show 0 ≤ (0 : Int32).toInt by omega), (show (0 : Int32).toInt ≤ 1 by omega)⟩
set_option maxRecDepth 20000 in
set_option maxHeartbeats 2000000 in
theorem o_fX5_takeFrom_47_71 {σ : gS} (hIσ : JC σ)   : Ok (fX5_takeFrom_47_71 σ ) (fun out => JC out ∧ Fr fr_fX5_takeFrom_47_71 σ out) := by
  unfold fX5_takeFrom_47_71
  have hfσ : Fr fr_fX5_takeFrom_47_71 σ σ := Fr_r
  refine ok_nm2 (fun σ1 eσ1 => ?_)
  have hIσ1 : JC σ1 := by rw [eσ1]; exact JC_w hIσ (Int32.le_toInt _) (Int32.toInt_le _)
  have hfσ1 : Fr fr_fX5_takeFrom_47_71 σ σ1 := by rw [eσ1]; exact Fr_w hfσ (by decide)
  have sσ1_71_1 : (σ1.1 71 1).toInt = (σ.1 71 1).toInt := by rw [eσ1]; rfl
  refine ok_bd.mpr ((o_copy (a := 72) (b := 48) hIσ1 (by decide) (fun i => ⟨Int.le_refl _, Int.le_refl _⟩)).mono (fun σ3 ho_1 => ?_))
  obtain ⟨hIσ3, hcσ3, hvσ3⟩ := ho_1
  have hfσ3 : Fr fr_fX5_takeFrom_47_71 σ σ3 := Fr_c hfσ1 hcσ3 (by decide)
  have sσ3_71_1 : (σ3.1 71 1).toInt = (σ1.1 71 1).toInt := by rw [(hcσ3 71 1 (by simp) (by simp)).1]
  refine ok_bd.mpr ((o_copy (a := 82) (b := 58) hIσ3 (by decide) (fun i => ⟨Int.le_refl _, Int.le_refl _⟩)).mono (fun σ5 ho_2 => ?_))
  obtain ⟨hIσ5, hcσ5, hvσ5⟩ := ho_2
  have hfσ5 : Fr fr_fX5_takeFrom_47_71 σ σ5 := Fr_c hfσ3 hcσ5 (by decide)
  have sσ5_71_1 : (σ5.1 71 1).toInt = (σ3.1 71 1).toInt := by rw [(hcσ5 71 1 (by simp) (by simp)).1]
  refine ok_nm2 (fun x6 ex6 => ?_)
  have f3 : (0 : Int32).toInt = 0 := by decide
  have qx6 : x6.toInt = 0 := by rw [ex6]; decide
  refine ok_lpc (I := fun n s => n = (3 + 1 - s.1.toInt).toNat ∧ JC s.2 ∧ Fr fr_fX5_takeFrom_47_71 σ s.2 ∧ 0 ≤ s.1.toInt ∧ s.1.toInt ≤ 3) (fun rec32_1r n_1 s_1 hs_1 hrec_1 => ?_) K9 ((3 + 1 - x6.toInt).toNat) (x6, σ5) ⟨rfl, hIσ5, hfσ5, (show 0 ≤ x6.toInt by omega), (show x6.toInt ≤ 3 by omega)⟩ (by unfold K9; omega)
  obtain ⟨a2_1, σ1_1⟩ := s_1
  obtain ⟨hn_1, hIσ1_1, hfσ1_1, b0a2_1, b1a2_1⟩ := hs_1
  dsimp only at hn_1 hIσ1_1 hfσ1_1 b0a2_1 b1a2_1
  unfold bX5_takeFrom_47_71_32
  try dsimp only
  refine ok_ite.mpr ⟨fun h_4 => ?_, fun h_4 => ?_⟩
  · have f5 : (2 : Int32).toInt = 2 := by decide
    have g6 : (2 : Int32).toInt ≤ a2_1.toInt := Int32.le_iff_toInt_le.mp h_4
    refine ok_some.mpr ?_
    exact ⟨hIσ1_1, hfσ1_1⟩
  · have f7 : (2 : Int32).toInt = 2 := by decide
    have g8 : ¬ (2 : Int32).toInt ≤ a2_1.toInt := fun z => h_4 (Int32.le_iff_toInt_le.mpr z)
    refine ok_gd.mpr ⟨gb_of (by omega) (by omega), ?_⟩
    refine ok_gd.mpr ⟨gb_of (by omega) (by omega), ?_⟩
    have f9 : a2_1.toNatClampNeg = a2_1.toInt.toNat := rfl
    refine ok_bd.mpr ((o_copy (a := (74 + a2_1.toNatClampNeg)) (b := (50 + a2_1.toNatClampNeg)) hIσ1_1 (by (have hj : ((74 + a2_1.toNatClampNeg) = 74 ∧ (50 + a2_1.toNatClampNeg) = 50) ∨ ((74 + a2_1.toNatClampNeg) = 75 ∧ (50 + a2_1.toNatClampNeg) = 51) := by omega); rcases hj with ⟨hj, hk⟩ | ⟨hj, hk⟩ <;> rw [hj, hk] <;> decide) (fun i => by (have hj : ((74 + a2_1.toNatClampNeg) = 74 ∧ (50 + a2_1.toNatClampNeg) = 50) ∨ ((74 + a2_1.toNatClampNeg) = 75 ∧ (50 + a2_1.toNatClampNeg) = 51) := by omega); rcases hj with ⟨hj, hk⟩ | ⟨hj, hk⟩ <;> rw [hj, hk] <;> exact ⟨Int.le_refl _, Int.le_refl _⟩)).mono (fun σ11_2 ho_10 => ?_))
    obtain ⟨hIσ11_2, hcσ11_2, hvσ11_2⟩ := ho_10
    have hfσ11_2 : Fr fr_fX5_takeFrom_47_71 σ σ11_2 := by
      have hj : (50 + a2_1.toNatClampNeg) = 50 ∨ (50 + a2_1.toNatClampNeg) = 51 := by omega
      exact Fr_c hfσ1_1 hcσ11_2 (by rcases hj with hj | hj <;> rw [hj] <;> decide)
    have sσ11_2_71_1 : (σ11_2.1 71 1).toInt = (σ1_1.1 71 1).toInt := by rw [(hcσ11_2 71 1 (by simp <;> omega) (by simp)).1]
    refine ok_gd.mpr ⟨gb_of (by omega) (by omega), ?_⟩
    refine ok_gd.mpr ⟨gb_of (by omega) (by omega), ?_⟩
    refine ok_bd.mpr ((o_copy (a := (77 + a2_1.toNatClampNeg)) (b := (53 + a2_1.toNatClampNeg)) hIσ11_2 (by (have hj : ((77 + a2_1.toNatClampNeg) = 77 ∧ (53 + a2_1.toNatClampNeg) = 53) ∨ ((77 + a2_1.toNatClampNeg) = 78 ∧ (53 + a2_1.toNatClampNeg) = 54) := by omega); rcases hj with ⟨hj, hk⟩ | ⟨hj, hk⟩ <;> rw [hj, hk] <;> decide) (fun i => by (have hj : ((77 + a2_1.toNatClampNeg) = 77 ∧ (53 + a2_1.toNatClampNeg) = 53) ∨ ((77 + a2_1.toNatClampNeg) = 78 ∧ (53 + a2_1.toNatClampNeg) = 54) := by omega); rcases hj with ⟨hj, hk⟩ | ⟨hj, hk⟩ <;> rw [hj, hk] <;> exact ⟨Int.le_refl _, Int.le_refl _⟩)).mono (fun σ15_2 ho_11 => ?_))
    obtain ⟨hIσ15_2, hcσ15_2, hvσ15_2⟩ := ho_11
    have hfσ15_2 : Fr fr_fX5_takeFrom_47_71 σ σ15_2 := by
      have hj : (53 + a2_1.toNatClampNeg) = 53 ∨ (53 + a2_1.toNatClampNeg) = 54 := by omega
      exact Fr_c hfσ11_2 hcσ15_2 (by rcases hj with hj | hj <;> rw [hj] <;> decide)
    have sσ15_2_71_1 : (σ15_2.1 71 1).toInt = (σ11_2.1 71 1).toInt := by rw [(hcσ15_2 71 1 (by simp <;> omega) (by simp)).1]
    refine ok_gd.mpr ⟨gb_of (by omega) (by omega), ?_⟩
    refine ok_gd.mpr ⟨gb_of (by omega) (by omega), ?_⟩
    refine ok_bd.mpr ((o_copy (a := (80 + a2_1.toNatClampNeg)) (b := (56 + a2_1.toNatClampNeg)) hIσ15_2 (by (have hj : ((80 + a2_1.toNatClampNeg) = 80 ∧ (56 + a2_1.toNatClampNeg) = 56) ∨ ((80 + a2_1.toNatClampNeg) = 81 ∧ (56 + a2_1.toNatClampNeg) = 57) := by omega); rcases hj with ⟨hj, hk⟩ | ⟨hj, hk⟩ <;> rw [hj, hk] <;> decide) (fun i => by (have hj : ((80 + a2_1.toNatClampNeg) = 80 ∧ (56 + a2_1.toNatClampNeg) = 56) ∨ ((80 + a2_1.toNatClampNeg) = 81 ∧ (56 + a2_1.toNatClampNeg) = 57) := by omega); rcases hj with ⟨hj, hk⟩ | ⟨hj, hk⟩ <;> rw [hj, hk] <;> exact ⟨Int.le_refl _, Int.le_refl _⟩)).mono (fun σ19_2 ho_12 => ?_))
    obtain ⟨hIσ19_2, hcσ19_2, hvσ19_2⟩ := ho_12
    have hfσ19_2 : Fr fr_fX5_takeFrom_47_71 σ σ19_2 := by
      have hj : (56 + a2_1.toNatClampNeg) = 56 ∨ (56 + a2_1.toNatClampNeg) = 57 := by omega
      exact Fr_c hfσ15_2 hcσ19_2 (by rcases hj with hj | hj <;> rw [hj] <;> decide)
    have sσ19_2_71_1 : (σ19_2.1 71 1).toInt = (σ15_2.1 71 1).toInt := by rw [(hcσ19_2 71 1 (by simp <;> omega) (by simp)).1]
    refine ok_nm2 (fun x20_2 ex20_2 => ?_)
    have f13 : (1 : Int32).toInt = 1 := by decide
    have f14 : (a2_1 + (1 : Int32)).toInt = a2_1.toInt + (1 : Int32).toInt := iadd_toInt (by omega) (by omega)
    have qx20_2 : x20_2.toInt = (a2_1 + 1).toInt := congrArg Int32.toInt ex20_2
    exact hrec_1 _ (x20_2, σ19_2) (show (3 + 1 - x20_2.toInt).toNat < n_1 by omega) ⟨rfl, hIσ19_2, hfσ19_2, (show 0 ≤ x20_2.toInt by omega), (show x20_2.toInt ≤ 3 by omega)⟩
set_option maxRecDepth 20000 in
set_option maxHeartbeats 2000000 in
theorem o_fX9_on {σ : gS} (hIσ : JC σ)   : Ok (fX9_on σ ) (fun out => JC out.2 ∧ Fr fr_fX9_on σ out.2 ∧ 0 ≤ out.1.toInt ∧ out.1.toInt ≤ 1 ∧ (out.2.1 0 1).toInt = 0) := by
  unfold fX9_on
  have hfσ : Fr fr_fX9_on σ σ := Fr_r
  have f1 : 0 ≤ (σ.1 0 1).toInt ∧ (σ.1 0 1).toInt ≤ 1600 := hIσ 0 1
  refine ok_nm2 (fun x1 ex1 => ?_)
  have qx1 : x1.toInt = (σ.1 0 1).toInt := congrArg Int32.toInt ex1
  refine ok_nm2 (fun σ2 eσ2 => ?_)
  have f2 : (0 : Int32).toInt = 0 := by decide
  have hIσ2 : JC σ2 := by rw [eσ2]; exact JC_w hIσ (show 0 ≤ _ by omega) (show _ ≤ 1600 by omega)
  have hfσ2 : Fr fr_fX9_on σ σ2 := by rw [eσ2]; exact Fr_w hfσ (by decide)
  have sσ2_0_1 : (σ2.1 0 1).toInt = (0 : Int32).toInt := by rw [eσ2]; rfl
  refine ok_bd2.mpr ((o_fX0_read_71 hIσ2 (p1 := 1) (p2 := x1) (by decide) (by decide)).mono (fun o_3 ho_4 => ?_))
  obtain ⟨r4, σ5⟩ := o_3
  obtain ⟨hIσ5, hcσ5, r0r4, r1r4⟩ := ho_4
  dsimp only at hIσ5 hcσ5 r0r4 r1r4 ⊢
  have hfσ5 : Fr fr_fX9_on σ σ5 := Fr_c hfσ2 hcσ5 (by decide)
  have sσ5_0_1 : (σ5.1 0 1).toInt = (σ2.1 0 1).toInt := by rw [(hcσ5 0 1 (by decide) (by decide)).1]
  refine ok_ite.mpr ⟨fun h_5 => ?_, fun h_5 => ?_⟩
  · have g6 : r4.toInt = (0 : Int32).toInt := by rw [h_5]
    refine ok_some.mpr ?_
    exact ⟨hIσ5, hfσ5, (show 0 ≤ (0 : Int32).toInt by omega), (show (0 : Int32).toInt ≤ 1 by omega), (show (σ5.1 0 1).toInt = 0 by omega)⟩
  · have g7 : r4.toInt ≠ (0 : Int32).toInt := fun z => h_5 (Int32.toInt_inj.mp z)
    refine ok_bd.mpr ((o_fX5_takeFrom_47_71 hIσ5  ).mono (fun σ8 ho_9 => ?_))
    obtain ⟨hIσ8, hcσ8⟩ := ho_9
    have hfσ8 : Fr fr_fX9_on σ σ8 := Fr_c hfσ5 hcσ8 (by decide)
    have sσ8_0_1 : (σ8.1 0 1).toInt = (σ5.1 0 1).toInt := by rw [(hcσ8 0 1 (by decide) (by decide)).1]
    refine ok_some.mpr ?_
    have f10 : (1 : Int32).toInt = 1 := by decide
    exact ⟨hIσ8, hfσ8, (show 0 ≤ (1 : Int32).toInt by omega), (show (1 : Int32).toInt ≤ 1 by omega), (show (σ8.1 0 1).toInt = 0 by omega)⟩
