/-! comes through, c 5 -/
set_option maxRecDepth 20000 in
set_option maxHeartbeats 2000000 in
theorem o_fX2_isLoose {σ : gS} (hIσ : JC σ) {p1 : Int32} (h0p1 : 0 ≤ p1.toInt) (h1p1 : p1.toInt ≤ 31) : Ok (fX2_isLoose σ p1) (fun out => 0 ≤ out.toInt ∧ out.toInt ≤ 1) := by
  unfold fX2_isLoose
  refine ok_gd.mpr ⟨gb_of (by omega) (by omega), ?_⟩
  refine ok_nm2 (fun v1 ev1 => ?_)
  have f1 : 0 ≤ (σ.1 138 p1.toNatClampNeg).toInt ∧ (σ.1 138 p1.toNatClampNeg).toInt ≤ 31 := hIσ 138 _
  have qv1 : v1.toInt = (σ.1 138 p1.toNatClampNeg).toInt := congrArg Int32.toInt ev1
  refine ok_gd.mpr ⟨gb_of (by omega) (by omega), ?_⟩
  refine ok_nm2 (fun v2 ev2 => ?_)
  have qv2 : v2.toInt = (σ.1 139 v1.toNatClampNeg).toInt := congrArg Int32.toInt ev2
  refine ok_ite.mpr ⟨fun h_2 => ?_, fun h_2 => ?_⟩
  · have f3 : (0 : Int32).toInt = 0 := by decide
    have g4 : v2.toInt = (0 : Int32).toInt := by rw [h_2]
    refine ok_some.mpr ?_
    have f5 : (1 : Int32).toInt = 1 := by decide
    exact ⟨(show 0 ≤ (1 : Int32).toInt by omega), (show (1 : Int32).toInt ≤ 1 by omega)⟩
  · have f6 : (0 : Int32).toInt = 0 := by decide
    have g7 : v2.toInt ≠ (0 : Int32).toInt := fun z => h_2 (Int32.toInt_inj.mp z)
    refine ok_some.mpr ?_
    exact ⟨(show 0 ≤ (0 : Int32).toInt by omega), (show (0 : Int32).toInt ≤ 1 by omega)⟩
set_option maxRecDepth 20000 in
set_option maxHeartbeats 2000000 in
theorem o_fX2_isPictureLoose {σ : gS} (hIσ : JC σ) {p1 : Int32} (h0p1 : 0 ≤ p1.toInt) (h1p1 : p1.toInt ≤ 11) : Ok (fX2_isPictureLoose σ p1) (fun out => JC out.2 ∧ Fr fr_fX2_isPictureLoose σ out.2 ∧ 0 ≤ out.1.toInt ∧ out.1.toInt ≤ 1) := by
  unfold fX2_isPictureLoose
  have hfσ : Fr fr_fX2_isPictureLoose σ σ := Fr_r
  have f1 : (-1 : Int32).toInt = -1 := by decide
  refine ok_bd.mpr ((o_fX2_joinAll hIσ (p1 := (-1 : Int32)) ).mono (fun σ2 ho_3 => ?_))
  obtain ⟨hIσ2, hcσ2⟩ := ho_3
  have hfσ2 : Fr fr_fX2_isPictureLoose σ σ2 := Fr_c hfσ hcσ2 (by decide)
  refine ok_bd.mpr ?_
  try unfold fX2_isLoose
  refine ok_gd.mpr ⟨gb_of (by omega) (by omega), ?_⟩
  refine ok_nm2 (fun v1_1 ev1_1 => ?_)
  have f4 : 0 ≤ (σ2.1 138 p1.toNatClampNeg).toInt ∧ (σ2.1 138 p1.toNatClampNeg).toInt ≤ 31 := hIσ2 138 _
  have qv1_1 : v1_1.toInt = (σ2.1 138 p1.toNatClampNeg).toInt := congrArg Int32.toInt ev1_1
  refine ok_gd.mpr ⟨gb_of (by omega) (by omega), ?_⟩
  refine ok_nm2 (fun v2_1 ev2_1 => ?_)
  have qv2_1 : v2_1.toInt = (σ2.1 139 v1_1.toNatClampNeg).toInt := congrArg Int32.toInt ev2_1
  refine ok_ite.mpr ⟨fun h_5 => ?_, fun h_5 => ?_⟩
  · have f6 : (0 : Int32).toInt = 0 := by decide
    have g7 : v2_1.toInt = (0 : Int32).toInt := by rw [h_5]
    refine ok_some.mpr ?_
    refine ok_some.mpr ?_
    have f8 : (vp_nar .boolean 1).toInt = 1 := by decide
    exact ⟨hIσ2, hfσ2, (show 0 ≤ (vp_nar .boolean 1).toInt by omega), (show (vp_nar .boolean 1).toInt ≤ 1 by omega)⟩
  · have f9 : (0 : Int32).toInt = 0 := by decide
    have g10 : v2_1.toInt ≠ (0 : Int32).toInt := fun z => h_5 (Int32.toInt_inj.mp z)
    refine ok_some.mpr ?_
    refine ok_some.mpr ?_
    have f11 : (vp_nar .boolean 0).toInt = 0 := by decide
    exact ⟨hIσ2, hfσ2, (show 0 ≤ (vp_nar .boolean 0).toInt by omega), (show (vp_nar .boolean 0).toInt ≤ 1 by omega)⟩
set_option maxRecDepth 20000 in
set_option maxHeartbeats 2000000 in
theorem o_fX9_picture {σ : gS} (hIσ : JC σ) {p1 : Int32} {p2 : Int32}  : Ok (fX9_picture σ p1 p2) (fun out => JC out.2 ∧ Fr fr_fX9_picture σ out.2) := by
  unfold fX9_picture
  have hfσ : Fr fr_fX9_picture σ σ := Fr_r
  refine ok_bd.mpr ?_
  try unfold fX8_exists_2
  refine ok_ite.mpr ⟨fun h_1 => ?_, fun h_1 => ?_⟩
  · have f2 : (0 : Int32).toInt = 0 := by decide
    have g3 : p1.toInt < (0 : Int32).toInt := Int32.lt_iff_toInt_lt.mp h_1
    refine ok_some.mpr ?_
    refine ok_ite.mpr ⟨fun h_4 => ?_, fun h_4 => ?_⟩
    · have g5 : (0 : Int32).toInt = (0 : Int32).toInt := by rw [h_4]
      refine ok_some.mpr ?_
      have f6 : (-1000000000 : Int32).toInt = -1000000000 := by decide
      exact ⟨hIσ, hfσ⟩
    · have g7 : (0 : Int32).toInt ≠ (0 : Int32).toInt := fun z => h_4 (Int32.toInt_inj.mp z)
      exfalso
      omega
  · have f8 : (0 : Int32).toInt = 0 := by decide
    have g9 : ¬ p1.toInt < (0 : Int32).toInt := fun z => h_1 (Int32.lt_iff_toInt_lt.mpr z)
    have f10 : (1 : Int32).toInt = 1 := by decide
    refine ok_gd.mpr ⟨gb_of (by omega) (by omega), ?_⟩
    refine ok_nm2 (fun v2_1 ev2_1 => ?_)
    have f12 : (1 : Int32).toNatClampNeg = (1 : Int32).toInt.toNat := rfl
    have f12_ : ((1 : Int32).toNatClampNeg = 1 ∧ 0 ≤ (σ.1 3 (1 : Int32).toNatClampNeg).toInt ∧ (σ.1 3 (1 : Int32).toNatClampNeg).toInt ≤ 12) := by
      have hb := hIσ 3 (1 : Int32).toNatClampNeg
      have hj : (1 : Int32).toNatClampNeg = 1 := by omega
      generalize (1 : Int32).toNatClampNeg = j at hb hj ⊢
      obtain rfl := hj
      exact ⟨rfl, hb.1, hb.2⟩
    have qv2_1 : v2_1.toInt = (σ.1 3 (1 : Int32).toNatClampNeg).toInt := congrArg Int32.toInt ev2_1
    refine ok_ite.mpr ⟨fun h_13 => ?_, fun h_13 => ?_⟩
    · have g14 : v2_1.toInt ≤ p1.toInt := Int32.le_iff_toInt_le.mp h_13
      refine ok_some.mpr ?_
      refine ok_ite.mpr ⟨fun h_15 => ?_, fun h_15 => ?_⟩
      · have g16 : (0 : Int32).toInt = (0 : Int32).toInt := by rw [h_15]
        refine ok_some.mpr ?_
        have f17 : (-1000000000 : Int32).toInt = -1000000000 := by decide
        exact ⟨hIσ, hfσ⟩
      · have g18 : (0 : Int32).toInt ≠ (0 : Int32).toInt := fun z => h_15 (Int32.toInt_inj.mp z)
        exfalso
        omega
    · have g19 : ¬ v2_1.toInt ≤ p1.toInt := fun z => h_13 (Int32.le_iff_toInt_le.mpr z)
      refine ok_some.mpr ?_
      refine ok_ite.mpr ⟨fun h_20 => ?_, fun h_20 => ?_⟩
      · have g21 : (1 : Int32).toInt = (0 : Int32).toInt := by rw [h_20]
        exfalso
        omega
      · have g22 : (1 : Int32).toInt ≠ (0 : Int32).toInt := fun z => h_20 (Int32.toInt_inj.mp z)
        refine ok_ite.mpr ⟨fun h_23 => ?_, fun h_23 => ?_⟩
        · have g24 : p2.toInt = (0 : Int32).toInt := by rw [h_23]
          refine ok_gd.mpr ⟨gb_of (by omega) (by omega), ?_⟩
          refine ok_nm2 (fun v4_4 ev4_4 => ?_)
          have f26 : p1.toNatClampNeg = p1.toInt.toNat := rfl
          have f26_ : (p1.toNatClampNeg = 0 ∧ 0 ≤ (σ.1 8 p1.toNatClampNeg).toInt ∧ (σ.1 8 p1.toNatClampNeg).toInt ≤ 5) ∨ (p1.toNatClampNeg = 1 ∧ 0 ≤ (σ.1 8 p1.toNatClampNeg).toInt ∧ (σ.1 8 p1.toNatClampNeg).toInt ≤ 5) ∨ (p1.toNatClampNeg = 2 ∧ 0 ≤ (σ.1 8 p1.toNatClampNeg).toInt ∧ (σ.1 8 p1.toNatClampNeg).toInt ≤ 5) ∨ (p1.toNatClampNeg = 3 ∧ 0 ≤ (σ.1 8 p1.toNatClampNeg).toInt ∧ (σ.1 8 p1.toNatClampNeg).toInt ≤ 5) ∨ (p1.toNatClampNeg = 4 ∧ 0 ≤ (σ.1 8 p1.toNatClampNeg).toInt ∧ (σ.1 8 p1.toNatClampNeg).toInt ≤ 5) ∨ (p1.toNatClampNeg = 5 ∧ 0 ≤ (σ.1 8 p1.toNatClampNeg).toInt ∧ (σ.1 8 p1.toNatClampNeg).toInt ≤ 5) ∨ (p1.toNatClampNeg = 6 ∧ 0 ≤ (σ.1 8 p1.toNatClampNeg).toInt ∧ (σ.1 8 p1.toNatClampNeg).toInt ≤ 5) ∨ (p1.toNatClampNeg = 7 ∧ 0 ≤ (σ.1 8 p1.toNatClampNeg).toInt ∧ (σ.1 8 p1.toNatClampNeg).toInt ≤ 5) ∨ (p1.toNatClampNeg = 8 ∧ 0 ≤ (σ.1 8 p1.toNatClampNeg).toInt ∧ (σ.1 8 p1.toNatClampNeg).toInt ≤ 5) ∨ (p1.toNatClampNeg = 9 ∧ 0 ≤ (σ.1 8 p1.toNatClampNeg).toInt ∧ (σ.1 8 p1.toNatClampNeg).toInt ≤ 5) ∨ (p1.toNatClampNeg = 10 ∧ 0 ≤ (σ.1 8 p1.toNatClampNeg).toInt ∧ (σ.1 8 p1.toNatClampNeg).toInt ≤ 5) ∨ (p1.toNatClampNeg = 11 ∧ 0 ≤ (σ.1 8 p1.toNatClampNeg).toInt ∧ (σ.1 8 p1.toNatClampNeg).toInt ≤ 5) := by
            have hb := hIσ 8 p1.toNatClampNeg
            have hj : p1.toNatClampNeg = 0 ∨ p1.toNatClampNeg = 1 ∨ p1.toNatClampNeg = 2 ∨ p1.toNatClampNeg = 3 ∨ p1.toNatClampNeg = 4 ∨ p1.toNatClampNeg = 5 ∨ p1.toNatClampNeg = 6 ∨ p1.toNatClampNeg = 7 ∨ p1.toNatClampNeg = 8 ∨ p1.toNatClampNeg = 9 ∨ p1.toNatClampNeg = 10 ∨ p1.toNatClampNeg = 11 := by omega
            generalize p1.toNatClampNeg = j at hb hj ⊢
            rcases hj with rfl | rfl | rfl | rfl | rfl | rfl | rfl | rfl | rfl | rfl | rfl | rfl
            · exact .inl ⟨rfl, hb.1, hb.2⟩
            · exact .inr (.inl ⟨rfl, hb.1, hb.2⟩)
            · exact .inr (.inr (.inl ⟨rfl, hb.1, hb.2⟩))
            · exact .inr (.inr (.inr (.inl ⟨rfl, hb.1, hb.2⟩)))
            · exact .inr (.inr (.inr (.inr (.inl ⟨rfl, hb.1, hb.2⟩))))
            · exact .inr (.inr (.inr (.inr (.inr (.inl ⟨rfl, hb.1, hb.2⟩)))))
            · exact .inr (.inr (.inr (.inr (.inr (.inr (.inl ⟨rfl, hb.1, hb.2⟩))))))
            · exact .inr (.inr (.inr (.inr (.inr (.inr (.inr (.inl ⟨rfl, hb.1, hb.2⟩)))))))
            · exact .inr (.inr (.inr (.inr (.inr (.inr (.inr (.inr (.inl ⟨rfl, hb.1, hb.2⟩))))))))
            · exact .inr (.inr (.inr (.inr (.inr (.inr (.inr (.inr (.inr (.inl ⟨rfl, hb.1, hb.2⟩)))))))))
            · exact .inr (.inr (.inr (.inr (.inr (.inr (.inr (.inr (.inr (.inr (.inl ⟨rfl, hb.1, hb.2⟩))))))))))
            · exact .inr (.inr (.inr (.inr (.inr (.inr (.inr (.inr (.inr (.inr (.inr (⟨rfl, hb.1, hb.2⟩)))))))))))
          have qv4_4 : v4_4.toInt = (σ.1 8 p1.toNatClampNeg).toInt := congrArg Int32.toInt ev4_4
          refine ok_some.mpr ?_
          exact ⟨hIσ, hfσ⟩
        · have g27 : p2.toInt ≠ (0 : Int32).toInt := fun z => h_23 (Int32.toInt_inj.mp z)
          refine ok_ite.mpr ⟨fun h_28 => ?_, fun h_28 => ?_⟩
          · have g29 : p2.toInt = (1 : Int32).toInt := by rw [h_28]
            refine ok_gd.mpr ⟨gb_of (by omega) (by omega), ?_⟩
            refine ok_nm2 (fun v6_4 ev6_4 => ?_)
            have qv6_4 : v6_4.toInt = (σ.1 48 p1.toNatClampNeg).toInt := congrArg Int32.toInt ev6_4
            refine ok_some.mpr ?_
            exact ⟨hIσ, hfσ⟩
          · have g30 : p2.toInt ≠ (1 : Int32).toInt := fun z => h_28 (Int32.toInt_inj.mp z)
            refine ok_ite.mpr ⟨fun h_31 => ?_, fun h_31 => ?_⟩
            · have f32 : (2 : Int32).toInt = 2 := by decide
              have g33 : p2.toInt = (2 : Int32).toInt := by rw [h_31]
              refine ok_gd.mpr ⟨gb_of (by omega) (by omega), ?_⟩
              refine ok_nm2 (fun v8_4 ev8_4 => ?_)
              have qv8_4 : v8_4.toInt = (σ.1 9 p1.toNatClampNeg).toInt := congrArg Int32.toInt ev8_4
              refine ok_ite.mpr ⟨fun h_34 => ?_, fun h_34 => ?_⟩
              · have f35 : (4 : Int32).toInt = 4 := by decide
                have g36 : v8_4.toInt = (4 : Int32).toInt := by rw [h_34]
                refine ok_some.mpr ?_
                exact ⟨hIσ, hfσ⟩
              · have f37 : (4 : Int32).toInt = 4 := by decide
                have g38 : v8_4.toInt ≠ (4 : Int32).toInt := fun z => h_34 (Int32.toInt_inj.mp z)
                refine ok_some.mpr ?_
                exact ⟨hIσ, hfσ⟩
            · have f39 : (2 : Int32).toInt = 2 := by decide
              have g40 : p2.toInt ≠ (2 : Int32).toInt := fun z => h_31 (Int32.toInt_inj.mp z)
              refine ok_ite.mpr ⟨fun h_41 => ?_, fun h_41 => ?_⟩
              · have f42 : (3 : Int32).toInt = 3 := by decide
                have g43 : p2.toInt = (3 : Int32).toInt := by rw [h_41]
                refine ok_gd.mpr ⟨gb_of (by omega) (by omega), ?_⟩
                refine ok_gd.mpr ⟨gb_of (by omega) (by omega), ?_⟩
                refine ok_nm2 (fun v12_4 ev12_4 => ?_)
                have qv12_4 : v12_4.toInt = (σ.1 50 p1.toNatClampNeg).toInt := congrArg Int32.toInt ev12_4
                refine ok_some.mpr ?_
                exact ⟨hIσ, hfσ⟩
              · have f44 : (3 : Int32).toInt = 3 := by decide
                have g45 : p2.toInt ≠ (3 : Int32).toInt := fun z => h_41 (Int32.toInt_inj.mp z)
                refine ok_ite.mpr ⟨fun h_46 => ?_, fun h_46 => ?_⟩
                · have f47 : (4 : Int32).toInt = 4 := by decide
                  have g48 : p2.toInt = (4 : Int32).toInt := by rw [h_46]
                  refine ok_gd.mpr ⟨gb_of (by omega) (by omega), ?_⟩
                  refine ok_gd.mpr ⟨gb_of (by omega) (by omega), ?_⟩
                  refine ok_nm2 (fun v15_4 ev15_4 => ?_)
                  have qv15_4 : v15_4.toInt = (σ.1 51 p1.toNatClampNeg).toInt := congrArg Int32.toInt ev15_4
                  refine ok_some.mpr ?_
                  exact ⟨hIσ, hfσ⟩
                · have f49 : (4 : Int32).toInt = 4 := by decide
                  have g50 : p2.toInt ≠ (4 : Int32).toInt := fun z => h_46 (Int32.toInt_inj.mp z)
                  refine ok_ite.mpr ⟨fun h_51 => ?_, fun h_51 => ?_⟩
                  · have f52 : (5 : Int32).toInt = 5 := by decide
                    have g53 : p2.toInt = (5 : Int32).toInt := by rw [h_51]
                    refine ok_bd.mpr ((o_fX5_countRows_47 hIσ (p1 := 10) (p2 := p1) (by decide) (by decide)).mono (fun r18_4 ho_55 => ?_))
                    refine ok_some.mpr ?_
                    exact ⟨hIσ, hfσ⟩
                  · have f56 : (5 : Int32).toInt = 5 := by decide
                    have g57 : p2.toInt ≠ (5 : Int32).toInt := fun z => h_51 (Int32.toInt_inj.mp z)
                    refine ok_ite.mpr ⟨fun h_58 => ?_, fun h_58 => ?_⟩
                    · have f59 : (6 : Int32).toInt = 6 := by decide
                      have g60 : p2.toInt = (6 : Int32).toInt := by rw [h_58]
                      refine ok_bd2.mpr ((o_fX2_isPictureLoose hIσ (p1 := p1) (by omega) (by omega)).mono (fun o_61 ho_62 => ?_))
                      obtain ⟨r21_4, σ22_4⟩ := o_61
                      obtain ⟨hIσ22_4, hcσ22_4, r0r21_4, r1r21_4⟩ := ho_62
                      dsimp only at hIσ22_4 hcσ22_4 r0r21_4 r1r21_4 ⊢
                      have hfσ22_4 : Fr fr_fX9_picture σ σ22_4 := Fr_c hfσ hcσ22_4 (by decide)
                      refine ok_ite.mpr ⟨fun h_63 => ?_, fun h_63 => ?_⟩
                      · have g64 : r21_4.toInt = (0 : Int32).toInt := by rw [h_63]
                        refine ok_some.mpr ?_
                        exact ⟨hIσ22_4, hfσ22_4⟩
                      · have g65 : r21_4.toInt ≠ (0 : Int32).toInt := fun z => h_63 (Int32.toInt_inj.mp z)
                        refine ok_some.mpr ?_
                        exact ⟨hIσ22_4, hfσ22_4⟩
                    · have f66 : (6 : Int32).toInt = 6 := by decide
                      have g67 : p2.toInt ≠ (6 : Int32).toInt := fun z => h_58 (Int32.toInt_inj.mp z)
                      refine ok_ite.mpr ⟨fun h_68 => ?_, fun h_68 => ?_⟩
                      · have f69 : (7 : Int32).toInt = 7 := by decide
                        have g70 : p2.toInt = (7 : Int32).toInt := by rw [h_68]
                        refine ok_gd.mpr ⟨gb_of (by omega) (by omega), ?_⟩
                        refine ok_nm2 (fun v25_4 ev25_4 => ?_)
                        have qv25_4 : v25_4.toInt = (σ.1 20 p1.toNatClampNeg).toInt := congrArg Int32.toInt ev25_4
                        refine ok_ite.mpr ⟨fun h_71 => ?_, fun h_71 => ?_⟩
                        · have g72 : v25_4.toInt ≤ (0 : Int32).toInt := Int32.le_iff_toInt_le.mp h_71
                          refine ok_some.mpr ?_
                          exact ⟨hIσ, hfσ⟩
                        · have g73 : ¬ v25_4.toInt ≤ (0 : Int32).toInt := fun z => h_71 (Int32.le_iff_toInt_le.mpr z)
                          refine ok_some.mpr ?_
                          exact ⟨hIσ, hfσ⟩
                      · have f74 : (7 : Int32).toInt = 7 := by decide
                        have g75 : p2.toInt ≠ (7 : Int32).toInt := fun z => h_68 (Int32.toInt_inj.mp z)
                        refine ok_some.mpr ?_
                        have f76 : (-1000000000 : Int32).toInt = -1000000000 := by decide
                        exact ⟨hIσ, hfσ⟩
set_option maxRecDepth 20000 in
set_option maxHeartbeats 2000000 in
theorem o_fX2_isPointLoose {σ : gS} (hIσ : JC σ) {p1 : Int32} (h0p1 : 0 ≤ p1.toInt) (h1p1 : p1.toInt ≤ 19) : Ok (fX2_isPointLoose σ p1) (fun out => JC out.2 ∧ Fr fr_fX2_isPointLoose σ out.2 ∧ 0 ≤ out.1.toInt ∧ out.1.toInt ≤ 1) := by
  unfold fX2_isPointLoose
  have hfσ : Fr fr_fX2_isPointLoose σ σ := Fr_r
  have f1 : (-1 : Int32).toInt = -1 := by decide
  refine ok_bd.mpr ((o_fX2_joinAll hIσ (p1 := (-1 : Int32)) ).mono (fun σ2 ho_3 => ?_))
  obtain ⟨hIσ2, hcσ2⟩ := ho_3
  have hfσ2 : Fr fr_fX2_isPointLoose σ σ2 := Fr_c hfσ hcσ2 (by decide)
  refine ok_bd.mpr ?_
  try unfold fX2_isLoose
  have f4 : (12 : Int32).toInt = 12 := by decide
  have f5 : ((12 : Int32) + p1).toInt = (12 : Int32).toInt + p1.toInt := iadd_toInt (by omega) (by omega)
  refine ok_gd.mpr ⟨gb_of (by omega) (by omega), ?_⟩
  refine ok_nm2 (fun v1_1 ev1_1 => ?_)
  have f6 : 0 ≤ (σ2.1 138 (12 + p1).toNatClampNeg).toInt ∧ (σ2.1 138 (12 + p1).toNatClampNeg).toInt ≤ 31 := hIσ2 138 _
  have qv1_1 : v1_1.toInt = (σ2.1 138 (12 + p1).toNatClampNeg).toInt := congrArg Int32.toInt ev1_1
  refine ok_gd.mpr ⟨gb_of (by omega) (by omega), ?_⟩
  refine ok_nm2 (fun v2_1 ev2_1 => ?_)
  have qv2_1 : v2_1.toInt = (σ2.1 139 v1_1.toNatClampNeg).toInt := congrArg Int32.toInt ev2_1
  refine ok_ite.mpr ⟨fun h_7 => ?_, fun h_7 => ?_⟩
  · have f8 : (0 : Int32).toInt = 0 := by decide
    have g9 : v2_1.toInt = (0 : Int32).toInt := by rw [h_7]
    refine ok_some.mpr ?_
    refine ok_some.mpr ?_
    have f10 : (vp_nar .boolean 1).toInt = 1 := by decide
    exact ⟨hIσ2, hfσ2, (show 0 ≤ (vp_nar .boolean 1).toInt by omega), (show (vp_nar .boolean 1).toInt ≤ 1 by omega)⟩
  · have f11 : (0 : Int32).toInt = 0 := by decide
    have g12 : v2_1.toInt ≠ (0 : Int32).toInt := fun z => h_7 (Int32.toInt_inj.mp z)
    refine ok_some.mpr ?_
    refine ok_some.mpr ?_
    have f13 : (vp_nar .boolean 0).toInt = 0 := by decide
    exact ⟨hIσ2, hfσ2, (show 0 ≤ (vp_nar .boolean 0).toInt by omega), (show (vp_nar .boolean 0).toInt ≤ 1 by omega)⟩
set_option maxRecDepth 20000 in
set_option maxHeartbeats 2000000 in
theorem o_fX9_point {σ : gS} (hIσ : JC σ) {p1 : Int32} {p2 : Int32}  : Ok (fX9_point σ p1 p2) (fun out => JC out.2 ∧ Fr fr_fX9_point σ out.2) := by
  unfold fX9_point
  have hfσ : Fr fr_fX9_point σ σ := Fr_r
  refine ok_bd.mpr ?_
  try unfold fX8_exists_2
  refine ok_ite.mpr ⟨fun h_1 => ?_, fun h_1 => ?_⟩
  · have f2 : (0 : Int32).toInt = 0 := by decide
    have g3 : p1.toInt < (0 : Int32).toInt := Int32.lt_iff_toInt_lt.mp h_1
    refine ok_some.mpr ?_
    refine ok_ite.mpr ⟨fun h_4 => ?_, fun h_4 => ?_⟩
    · have g5 : (0 : Int32).toInt = (0 : Int32).toInt := by rw [h_4]
      refine ok_some.mpr ?_
      have f6 : (-1000000000 : Int32).toInt = -1000000000 := by decide
      exact ⟨hIσ, hfσ⟩
    · have g7 : (0 : Int32).toInt ≠ (0 : Int32).toInt := fun z => h_4 (Int32.toInt_inj.mp z)
      exfalso
      omega
  · have f8 : (0 : Int32).toInt = 0 := by decide
    have g9 : ¬ p1.toInt < (0 : Int32).toInt := fun z => h_1 (Int32.lt_iff_toInt_lt.mpr z)
    have f10 : (2 : Int32).toInt = 2 := by decide
    refine ok_gd.mpr ⟨gb_of (by omega) (by omega), ?_⟩
    refine ok_nm2 (fun v2_1 ev2_1 => ?_)
    have f12 : (2 : Int32).toNatClampNeg = (2 : Int32).toInt.toNat := rfl
    have f12_ : ((2 : Int32).toNatClampNeg = 2 ∧ 0 ≤ (σ.1 3 (2 : Int32).toNatClampNeg).toInt ∧ (σ.1 3 (2 : Int32).toNatClampNeg).toInt ≤ 20) := by
      have hb := hIσ 3 (2 : Int32).toNatClampNeg
      have hj : (2 : Int32).toNatClampNeg = 2 := by omega
      generalize (2 : Int32).toNatClampNeg = j at hb hj ⊢
      obtain rfl := hj
      exact ⟨rfl, hb.1, hb.2⟩
    have qv2_1 : v2_1.toInt = (σ.1 3 (2 : Int32).toNatClampNeg).toInt := congrArg Int32.toInt ev2_1
    refine ok_ite.mpr ⟨fun h_13 => ?_, fun h_13 => ?_⟩
    · have g14 : v2_1.toInt ≤ p1.toInt := Int32.le_iff_toInt_le.mp h_13
      refine ok_some.mpr ?_
      refine ok_ite.mpr ⟨fun h_15 => ?_, fun h_15 => ?_⟩
      · have g16 : (0 : Int32).toInt = (0 : Int32).toInt := by rw [h_15]
        refine ok_some.mpr ?_
        have f17 : (-1000000000 : Int32).toInt = -1000000000 := by decide
        exact ⟨hIσ, hfσ⟩
      · have g18 : (0 : Int32).toInt ≠ (0 : Int32).toInt := fun z => h_15 (Int32.toInt_inj.mp z)
        exfalso
        omega
    · have g19 : ¬ v2_1.toInt ≤ p1.toInt := fun z => h_13 (Int32.le_iff_toInt_le.mpr z)
      refine ok_some.mpr ?_
      refine ok_ite.mpr ⟨fun h_20 => ?_, fun h_20 => ?_⟩
      · have f21 : (1 : Int32).toInt = 1 := by decide
        have g22 : (1 : Int32).toInt = (0 : Int32).toInt := by rw [h_20]
        exfalso
        omega
      · have f23 : (1 : Int32).toInt = 1 := by decide
        have g24 : (1 : Int32).toInt ≠ (0 : Int32).toInt := fun z => h_20 (Int32.toInt_inj.mp z)
        refine ok_ite.mpr ⟨fun h_25 => ?_, fun h_25 => ?_⟩
        · have g26 : p2.toInt = (0 : Int32).toInt := by rw [h_25]
          refine ok_gd.mpr ⟨gb_of (by omega) (by omega), ?_⟩
          refine ok_gd.mpr ⟨gb_of (by omega) (by omega), ?_⟩
          refine ok_nm2 (fun v5_4 ev5_4 => ?_)
          have qv5_4 : v5_4.toInt = (σ.1 53 p1.toNatClampNeg).toInt := congrArg Int32.toInt ev5_4
          refine ok_some.mpr ?_
          exact ⟨hIσ, hfσ⟩
        · have g27 : p2.toInt ≠ (0 : Int32).toInt := fun z => h_25 (Int32.toInt_inj.mp z)
          refine ok_ite.mpr ⟨fun h_28 => ?_, fun h_28 => ?_⟩
          · have g29 : p2.toInt = (1 : Int32).toInt := by rw [h_28]
            refine ok_gd.mpr ⟨gb_of (by omega) (by omega), ?_⟩
            refine ok_gd.mpr ⟨gb_of (by omega) (by omega), ?_⟩
            refine ok_nm2 (fun v8_4 ev8_4 => ?_)
            have qv8_4 : v8_4.toInt = (σ.1 54 p1.toNatClampNeg).toInt := congrArg Int32.toInt ev8_4
            refine ok_some.mpr ?_
            exact ⟨hIσ, hfσ⟩
          · have g30 : p2.toInt ≠ (1 : Int32).toInt := fun z => h_28 (Int32.toInt_inj.mp z)
            refine ok_ite.mpr ⟨fun h_31 => ?_, fun h_31 => ?_⟩
            · have g32 : p2.toInt = (2 : Int32).toInt := by rw [h_31]
              refine ok_bd.mpr ((o_fX5_countRows_47 hIσ (p1 := 11) (p2 := p1) (by decide) (by decide)).mono (fun r11_4 ho_34 => ?_))
              refine ok_some.mpr ?_
              exact ⟨hIσ, hfσ⟩
            · have g35 : p2.toInt ≠ (2 : Int32).toInt := fun z => h_31 (Int32.toInt_inj.mp z)
              refine ok_ite.mpr ⟨fun h_36 => ?_, fun h_36 => ?_⟩
              · have f37 : (3 : Int32).toInt = 3 := by decide
                have g38 : p2.toInt = (3 : Int32).toInt := by rw [h_36]
                refine ok_gd.mpr ⟨gb_of (by omega) (by omega), ?_⟩
                refine ok_nm2 (fun v13_4 ev13_4 => ?_)
                have qv13_4 : v13_4.toInt = (σ.1 16 p1.toNatClampNeg).toInt := congrArg Int32.toInt ev13_4
                refine ok_ite.mpr ⟨fun h_39 => ?_, fun h_39 => ?_⟩
                · have g40 : v13_4.toInt = (0 : Int32).toInt := by rw [h_39]
                  refine ok_some.mpr ?_
                  exact ⟨hIσ, hfσ⟩
                · have g41 : v13_4.toInt ≠ (0 : Int32).toInt := fun z => h_39 (Int32.toInt_inj.mp z)
                  refine ok_some.mpr ?_
                  exact ⟨hIσ, hfσ⟩
              · have f42 : (3 : Int32).toInt = 3 := by decide
                have g43 : p2.toInt ≠ (3 : Int32).toInt := fun z => h_36 (Int32.toInt_inj.mp z)
                refine ok_ite.mpr ⟨fun h_44 => ?_, fun h_44 => ?_⟩
                · have f45 : (4 : Int32).toInt = 4 := by decide
                  have g46 : p2.toInt = (4 : Int32).toInt := by rw [h_44]
                  refine ok_bd.mpr ?_
                  try unfold fX5_isFixed_47
                  refine ok_gd.mpr ⟨gb_of (by omega) (by omega), ?_⟩
                  refine ok_nm2 (fun v1_5 ev1_5 => ?_)
                  have qv1_5 : v1_5.toInt = (σ.1 16 p1.toNatClampNeg).toInt := congrArg Int32.toInt ev1_5
                  refine ok_ite.mpr ⟨fun h_47 => ?_, fun h_47 => ?_⟩
                  · have g48 : (v1_5 &&& (σ.1 47 1)).toInt = (0 : Int32).toInt := by rw [h_47]
                    refine ok_some.mpr ?_
                    refine ok_ite.mpr ⟨fun h_49 => ?_, fun h_49 => ?_⟩
                    · have g50 : (0 : Int32).toInt = (0 : Int32).toInt := by rw [h_49]
                      refine ok_some.mpr ?_
                      exact ⟨hIσ, hfσ⟩
                    · have g51 : (0 : Int32).toInt ≠ (0 : Int32).toInt := fun z => h_49 (Int32.toInt_inj.mp z)
                      exfalso
                      omega
                  · have g52 : (v1_5 &&& (σ.1 47 1)).toInt ≠ (0 : Int32).toInt := fun z => h_47 (Int32.toInt_inj.mp z)
                    refine ok_some.mpr ?_
                    refine ok_ite.mpr ⟨fun h_53 => ?_, fun h_53 => ?_⟩
                    · have g54 : (1 : Int32).toInt = (0 : Int32).toInt := by rw [h_53]
                      exfalso
                      omega
                    · have g55 : (1 : Int32).toInt ≠ (0 : Int32).toInt := fun z => h_53 (Int32.toInt_inj.mp z)
                      refine ok_some.mpr ?_
                      exact ⟨hIσ, hfσ⟩
                · have f56 : (4 : Int32).toInt = 4 := by decide
                  have g57 : p2.toInt ≠ (4 : Int32).toInt := fun z => h_44 (Int32.toInt_inj.mp z)
                  refine ok_ite.mpr ⟨fun h_58 => ?_, fun h_58 => ?_⟩
                  · have f59 : (5 : Int32).toInt = 5 := by decide
                    have g60 : p2.toInt = (5 : Int32).toInt := by rw [h_58]
                    refine ok_bd2.mpr ((o_fX2_isPointLoose hIσ (p1 := p1) (by omega) (by omega)).mono (fun o_61 ho_62 => ?_))
                    obtain ⟨r21_4, σ22_4⟩ := o_61
                    obtain ⟨hIσ22_4, hcσ22_4, r0r21_4, r1r21_4⟩ := ho_62
                    dsimp only at hIσ22_4 hcσ22_4 r0r21_4 r1r21_4 ⊢
                    have hfσ22_4 : Fr fr_fX9_point σ σ22_4 := Fr_c hfσ hcσ22_4 (by decide)
                    refine ok_ite.mpr ⟨fun h_63 => ?_, fun h_63 => ?_⟩
                    · have g64 : r21_4.toInt = (0 : Int32).toInt := by rw [h_63]
                      refine ok_some.mpr ?_
                      exact ⟨hIσ22_4, hfσ22_4⟩
                    · have g65 : r21_4.toInt ≠ (0 : Int32).toInt := fun z => h_63 (Int32.toInt_inj.mp z)
                      refine ok_some.mpr ?_
                      exact ⟨hIσ22_4, hfσ22_4⟩
                  · have f66 : (5 : Int32).toInt = 5 := by decide
                    have g67 : p2.toInt ≠ (5 : Int32).toInt := fun z => h_58 (Int32.toInt_inj.mp z)
                    refine ok_some.mpr ?_
                    have f68 : (-1000000000 : Int32).toInt = -1000000000 := by decide
                    exact ⟨hIσ, hfσ⟩
set_option maxRecDepth 20000 in
set_option maxHeartbeats 2000000 in
theorem o_fX5_miss_47 {σ : gS} (hIσ : JC σ) {p1 : Int32} {p2 : Int32} (h0p1 : 0 ≤ p1.toInt) (h1p1 : p1.toInt ≤ 59) (h0p2 : 0 ≤ p2.toInt) (h1p2 : p2.toInt ≤ 1) : Ok (fX5_miss_47 σ p1 p2) (fun _ => True) := by
  unfold fX5_miss_47
  refine ok_gd.mpr ⟨gb_of (by omega) (by omega), ?_⟩
  refine ok_gd.mpr ⟨gb_of (by omega) (by omega), ?_⟩
  refine ok_nm2 (fun v2 ev2 => ?_)
  have f1 : 0 ≤ (σ.1 11 p1.toNatClampNeg).toInt ∧ (σ.1 11 p1.toNatClampNeg).toInt ≤ 19 := hIσ 11 _
  have qv2 : v2.toInt = (σ.1 11 p1.toNatClampNeg).toInt := congrArg Int32.toInt ev2
  refine ok_gd.mpr ⟨gb_of (by omega) (by omega), ?_⟩
  refine ok_nm2 (fun v3 ev3 => ?_)
  have qv3 : v3.toInt = (σ.1 (53 + p2.toNatClampNeg) v2.toNatClampNeg).toInt := congrArg Int32.toInt ev3
  refine ok_bd.mpr ((o_fX5_putAt_47 hIσ (p1 := p1) (p2 := p2) (by omega) (by omega) (by omega) (by omega)).mono (fun r5 ho_3 => ?_))
  refine ok_some.mpr ?_
  exact trivial
set_option maxRecDepth 20000 in
set_option maxHeartbeats 2000000 in
theorem o_fX2_canShow {σ : gS} (hIσ : JC σ) {p1 : Int32} (h0p1 : 0 ≤ p1.toInt) (h1p1 : p1.toInt ≤ 59) : Ok (fX2_canShow σ p1) (fun out => JC out.2 ∧ Fr fr_fX2_canShow σ out.2 ∧ 0 ≤ out.1.toInt ∧ out.1.toInt ≤ 1) := by
  unfold fX2_canShow
  have hfσ : Fr fr_fX2_canShow σ σ := Fr_r
  refine ok_bd.mpr ?_
  try unfold fX5_uses_47
  refine ok_gd.mpr ⟨gb_of (by omega) (by omega), ?_⟩
  refine ok_nm2 (fun v1_1 ev1_1 => ?_)
  have qv1_1 : v1_1.toInt = (σ.1 58 p1.toNatClampNeg).toInt := congrArg Int32.toInt ev1_1
  refine ok_ite.mpr ⟨fun h_1 => ?_, fun h_1 => ?_⟩
  · have f2 : (0 : Int32).toInt = 0 := by decide
    have g3 : v1_1.toInt = (0 : Int32).toInt := by rw [h_1]
    refine ok_some.mpr ?_
    refine ok_ite.mpr ⟨fun h_4 => ?_, fun h_4 => ?_⟩
    · have f5 : (1 : Int32).toInt = 1 := by decide
      have g6 : (1 : Int32).toInt = (0 : Int32).toInt := by rw [h_4]
      exfalso
      omega
    · have f7 : (1 : Int32).toInt = 1 := by decide
      have g8 : (1 : Int32).toInt ≠ (0 : Int32).toInt := fun z => h_4 (Int32.toInt_inj.mp z)
      refine ok_bd.mpr ((o_fX2_joinAll hIσ (p1 := p1) ).mono (fun σ5_2 ho_10 => ?_))
      obtain ⟨hIσ5_2, hcσ5_2⟩ := ho_10
      have hfσ5_2 : Fr fr_fX2_canShow σ σ5_2 := Fr_c hfσ hcσ5_2 (by decide)
      refine ok_gd.mpr ⟨gb_of (by omega) (by omega), ?_⟩
      refine ok_nm2 (fun v6_2 ev6_2 => ?_)
      have f11 : 0 ≤ (σ5_2.1 10 p1.toNatClampNeg).toInt ∧ (σ5_2.1 10 p1.toNatClampNeg).toInt ≤ 11 := hIσ5_2 10 _
      have qv6_2 : v6_2.toInt = (σ5_2.1 10 p1.toNatClampNeg).toInt := congrArg Int32.toInt ev6_2
      refine ok_nm.mpr ?_
      refine ok_gd.mpr ⟨gb_of (by omega) (by omega), ?_⟩
      refine ok_nm2 (fun v8_2_3 ev8_2_3 => ?_)
      have f12 : 0 ≤ (σ5_2.1 11 p1.toNatClampNeg).toInt ∧ (σ5_2.1 11 p1.toNatClampNeg).toInt ≤ 19 := hIσ5_2 11 _
      have qv8_2_3 : v8_2_3.toInt = (σ5_2.1 11 p1.toNatClampNeg).toInt := congrArg Int32.toInt ev8_2_3
      refine ok_nm2 (fun x9_2_3 ex9_2_3 => ?_)
      have f13 : (12 : Int32).toInt = 12 := by decide
      have f14 : ((12 : Int32) + v8_2_3).toInt = (12 : Int32).toInt + v8_2_3.toInt := iadd_toInt (by omega) (by omega)
      have qx9_2_3 : x9_2_3.toInt = (12 + v8_2_3).toInt := congrArg Int32.toInt ex9_2_3
      refine ok_gd.mpr ⟨gb_of (by omega) (by omega), ?_⟩
      refine ok_nm2 (fun v10_2_3 ev10_2_3 => ?_)
      have f15 : 0 ≤ (σ5_2.1 138 v6_2.toNatClampNeg).toInt ∧ (σ5_2.1 138 v6_2.toNatClampNeg).toInt ≤ 31 := hIσ5_2 138 _
      have qv10_2_3 : v10_2_3.toInt = (σ5_2.1 138 v6_2.toNatClampNeg).toInt := congrArg Int32.toInt ev10_2_3
      refine ok_gd.mpr ⟨gb_of (by omega) (by omega), ?_⟩
      refine ok_nm2 (fun v11_2_3 ev11_2_3 => ?_)
      have f16 : 0 ≤ (σ5_2.1 138 x9_2_3.toNatClampNeg).toInt ∧ (σ5_2.1 138 x9_2_3.toNatClampNeg).toInt ≤ 31 := hIσ5_2 138 _
      have qv11_2_3 : v11_2_3.toInt = (σ5_2.1 138 x9_2_3.toNatClampNeg).toInt := congrArg Int32.toInt ev11_2_3
      refine ok_ite.mpr ⟨fun h_17 => ?_, fun h_17 => ?_⟩
      · have g18 : v10_2_3.toInt = v11_2_3.toInt := by rw [h_17]
        refine ok_some.mpr ?_
        exact ⟨hIσ5_2, hfσ5_2, (show 0 ≤ (1 : Int32).toInt by omega), (show (1 : Int32).toInt ≤ 1 by omega)⟩
      · have g19 : v10_2_3.toInt ≠ v11_2_3.toInt := fun z => h_17 (Int32.toInt_inj.mp z)
        refine ok_bd.mpr ?_
        try unfold fX2_isLoose
        refine ok_gd.mpr ⟨gb_of (by omega) (by omega), ?_⟩
        refine ok_nm2 (fun v1_4 ev1_4 => ?_)
        have qv1_4 : v1_4.toInt = (σ5_2.1 138 v6_2.toNatClampNeg).toInt := congrArg Int32.toInt ev1_4
        refine ok_gd.mpr ⟨gb_of (by omega) (by omega), ?_⟩
        refine ok_nm2 (fun v2_4 ev2_4 => ?_)
        have qv2_4 : v2_4.toInt = (σ5_2.1 139 v1_4.toNatClampNeg).toInt := congrArg Int32.toInt ev2_4
        refine ok_ite.mpr ⟨fun h_20 => ?_, fun h_20 => ?_⟩
        · have g21 : v2_4.toInt = (0 : Int32).toInt := by rw [h_20]
          refine ok_some.mpr ?_
          refine ok_ite.mpr ⟨fun h_22 => ?_, fun h_22 => ?_⟩
          · have g23 : (1 : Int32).toInt = (0 : Int32).toInt := by rw [h_22]
            exfalso
            omega
          · have g24 : (1 : Int32).toInt ≠ (0 : Int32).toInt := fun z => h_22 (Int32.toInt_inj.mp z)
            refine ok_some.mpr ?_
            exact ⟨hIσ5_2, hfσ5_2, (show 0 ≤ (0 : Int32).toInt by omega), (show (0 : Int32).toInt ≤ 1 by omega)⟩
        · have g25 : v2_4.toInt ≠ (0 : Int32).toInt := fun z => h_20 (Int32.toInt_inj.mp z)
          refine ok_some.mpr ?_
          refine ok_ite.mpr ⟨fun h_26 => ?_, fun h_26 => ?_⟩
          · have g27 : (0 : Int32).toInt = (0 : Int32).toInt := by rw [h_26]
            refine ok_bd.mpr ?_
            try unfold fX2_isLoose
            refine ok_gd.mpr ⟨gb_of (by omega) (by omega), ?_⟩
            refine ok_nm2 (fun v1_7 ev1_7 => ?_)
            have qv1_7 : v1_7.toInt = (σ5_2.1 138 x9_2_3.toNatClampNeg).toInt := congrArg Int32.toInt ev1_7
            refine ok_gd.mpr ⟨gb_of (by omega) (by omega), ?_⟩
            refine ok_nm2 (fun v2_7 ev2_7 => ?_)
            have qv2_7 : v2_7.toInt = (σ5_2.1 139 v1_7.toNatClampNeg).toInt := congrArg Int32.toInt ev2_7
            refine ok_ite.mpr ⟨fun h_28 => ?_, fun h_28 => ?_⟩
            · have g29 : v2_7.toInt = (0 : Int32).toInt := by rw [h_28]
              refine ok_some.mpr ?_
              refine ok_ite.mpr ⟨fun h_30 => ?_, fun h_30 => ?_⟩
              · have g31 : (1 : Int32).toInt = (0 : Int32).toInt := by rw [h_30]
                exfalso
                omega
              · have g32 : (1 : Int32).toInt ≠ (0 : Int32).toInt := fun z => h_30 (Int32.toInt_inj.mp z)
                refine ok_some.mpr ?_
                exact ⟨hIσ5_2, hfσ5_2, (show 0 ≤ (0 : Int32).toInt by omega), (show (0 : Int32).toInt ≤ 1 by omega)⟩
            · have g33 : v2_7.toInt ≠ (0 : Int32).toInt := fun z => h_28 (Int32.toInt_inj.mp z)
              refine ok_some.mpr ?_
              refine ok_ite.mpr ⟨fun h_34 => ?_, fun h_34 => ?_⟩
              · have g35 : (0 : Int32).toInt = (0 : Int32).toInt := by rw [h_34]
                refine ok_some.mpr ?_
                exact ⟨hIσ5_2, hfσ5_2, (show 0 ≤ (1 : Int32).toInt by omega), (show (1 : Int32).toInt ≤ 1 by omega)⟩
              · have g36 : (0 : Int32).toInt ≠ (0 : Int32).toInt := fun z => h_34 (Int32.toInt_inj.mp z)
                exfalso
                omega
          · have g37 : (0 : Int32).toInt ≠ (0 : Int32).toInt := fun z => h_26 (Int32.toInt_inj.mp z)
            exfalso
            omega
  · have f38 : (0 : Int32).toInt = 0 := by decide
    have g39 : v1_1.toInt ≠ (0 : Int32).toInt := fun z => h_1 (Int32.toInt_inj.mp z)
    refine ok_some.mpr ?_
    refine ok_ite.mpr ⟨fun h_40 => ?_, fun h_40 => ?_⟩
    · have g41 : (0 : Int32).toInt = (0 : Int32).toInt := by rw [h_40]
      refine ok_some.mpr ?_
      exact ⟨hIσ, hfσ, (show 0 ≤ (0 : Int32).toInt by omega), (show (0 : Int32).toInt ≤ 1 by omega)⟩
    · have g42 : (0 : Int32).toInt ≠ (0 : Int32).toInt := fun z => h_40 (Int32.toInt_inj.mp z)
      exfalso
      omega
set_option maxRecDepth 20000 in
set_option maxHeartbeats 2000000 in
theorem o_fX9_row {σ : gS} (hIσ : JC σ) {p1 : Int32} {p2 : Int32}  : Ok (fX9_row σ p1 p2) (fun out => JC out.2 ∧ Fr fr_fX9_row σ out.2) := by
  unfold fX9_row
  have hfσ : Fr fr_fX9_row σ σ := Fr_r
  refine ok_bd.mpr ?_
  try unfold fX8_exists_2
  refine ok_ite.mpr ⟨fun h_1 => ?_, fun h_1 => ?_⟩
  · have f2 : (0 : Int32).toInt = 0 := by decide
    have g3 : p1.toInt < (0 : Int32).toInt := Int32.lt_iff_toInt_lt.mp h_1
    refine ok_some.mpr ?_
    refine ok_ite.mpr ⟨fun h_4 => ?_, fun h_4 => ?_⟩
    · have g5 : (0 : Int32).toInt = (0 : Int32).toInt := by rw [h_4]
      refine ok_some.mpr ?_
      have f6 : (-1000000000 : Int32).toInt = -1000000000 := by decide
      exact ⟨hIσ, hfσ⟩
    · have g7 : (0 : Int32).toInt ≠ (0 : Int32).toInt := fun z => h_4 (Int32.toInt_inj.mp z)
      exfalso
      omega
  · have f8 : (0 : Int32).toInt = 0 := by decide
    have g9 : ¬ p1.toInt < (0 : Int32).toInt := fun z => h_1 (Int32.lt_iff_toInt_lt.mpr z)
    have f10 : (3 : Int32).toInt = 3 := by decide
    refine ok_gd.mpr ⟨gb_of (by omega) (by omega), ?_⟩
    refine ok_nm2 (fun v2_1 ev2_1 => ?_)
    have f12 : (3 : Int32).toNatClampNeg = (3 : Int32).toInt.toNat := rfl
    have f12_ : ((3 : Int32).toNatClampNeg = 3 ∧ 0 ≤ (σ.1 3 (3 : Int32).toNatClampNeg).toInt ∧ (σ.1 3 (3 : Int32).toNatClampNeg).toInt ≤ 60) := by
      have hb := hIσ 3 (3 : Int32).toNatClampNeg
      have hj : (3 : Int32).toNatClampNeg = 3 := by omega
      generalize (3 : Int32).toNatClampNeg = j at hb hj ⊢
      obtain rfl := hj
      exact ⟨rfl, hb.1, hb.2⟩
    have qv2_1 : v2_1.toInt = (σ.1 3 (3 : Int32).toNatClampNeg).toInt := congrArg Int32.toInt ev2_1
    refine ok_ite.mpr ⟨fun h_13 => ?_, fun h_13 => ?_⟩
    · have g14 : v2_1.toInt ≤ p1.toInt := Int32.le_iff_toInt_le.mp h_13
      refine ok_some.mpr ?_
      refine ok_ite.mpr ⟨fun h_15 => ?_, fun h_15 => ?_⟩
      · have g16 : (0 : Int32).toInt = (0 : Int32).toInt := by rw [h_15]
        refine ok_some.mpr ?_
        have f17 : (-1000000000 : Int32).toInt = -1000000000 := by decide
        exact ⟨hIσ, hfσ⟩
      · have g18 : (0 : Int32).toInt ≠ (0 : Int32).toInt := fun z => h_15 (Int32.toInt_inj.mp z)
        exfalso
        omega
    · have g19 : ¬ v2_1.toInt ≤ p1.toInt := fun z => h_13 (Int32.le_iff_toInt_le.mpr z)
      refine ok_some.mpr ?_
      refine ok_ite.mpr ⟨fun h_20 => ?_, fun h_20 => ?_⟩
      · have f21 : (1 : Int32).toInt = 1 := by decide
        have g22 : (1 : Int32).toInt = (0 : Int32).toInt := by rw [h_20]
        exfalso
        omega
      · have f23 : (1 : Int32).toInt = 1 := by decide
        have g24 : (1 : Int32).toInt ≠ (0 : Int32).toInt := fun z => h_20 (Int32.toInt_inj.mp z)
        refine ok_ite.mpr ⟨fun h_25 => ?_, fun h_25 => ?_⟩
        · have g26 : p2.toInt = (0 : Int32).toInt := by rw [h_25]
          refine ok_gd.mpr ⟨gb_of (by omega) (by omega), ?_⟩
          refine ok_nm2 (fun v4_4 ev4_4 => ?_)
          have f27 : 0 ≤ (σ.1 10 p1.toNatClampNeg).toInt ∧ (σ.1 10 p1.toNatClampNeg).toInt ≤ 11 := hIσ 10 _
          have qv4_4 : v4_4.toInt = (σ.1 10 p1.toNatClampNeg).toInt := congrArg Int32.toInt ev4_4
          refine ok_some.mpr ?_
          exact ⟨hIσ, hfσ⟩
        · have g28 : p2.toInt ≠ (0 : Int32).toInt := fun z => h_25 (Int32.toInt_inj.mp z)
          refine ok_ite.mpr ⟨fun h_29 => ?_, fun h_29 => ?_⟩
          · have g30 : p2.toInt = (1 : Int32).toInt := by rw [h_29]
            refine ok_gd.mpr ⟨gb_of (by omega) (by omega), ?_⟩
            refine ok_nm2 (fun v6_4 ev6_4 => ?_)
            have f31 : 0 ≤ (σ.1 11 p1.toNatClampNeg).toInt ∧ (σ.1 11 p1.toNatClampNeg).toInt ≤ 19 := hIσ 11 _
            have qv6_4 : v6_4.toInt = (σ.1 11 p1.toNatClampNeg).toInt := congrArg Int32.toInt ev6_4
            refine ok_some.mpr ?_
            exact ⟨hIσ, hfσ⟩
          · have g32 : p2.toInt ≠ (1 : Int32).toInt := fun z => h_29 (Int32.toInt_inj.mp z)
            refine ok_ite.mpr ⟨fun h_33 => ?_, fun h_33 => ?_⟩
            · have f34 : (2 : Int32).toInt = 2 := by decide
              have g35 : p2.toInt = (2 : Int32).toInt := by rw [h_33]
              refine ok_gd.mpr ⟨gb_of (by omega) (by omega), ?_⟩
              refine ok_gd.mpr ⟨gb_of (by omega) (by omega), ?_⟩
              refine ok_nm2 (fun v9_4 ev9_4 => ?_)
              have qv9_4 : v9_4.toInt = (σ.1 13 p1.toNatClampNeg).toInt := congrArg Int32.toInt ev9_4
              refine ok_some.mpr ?_
              exact ⟨hIσ, hfσ⟩
            · have f36 : (2 : Int32).toInt = 2 := by decide
              have g37 : p2.toInt ≠ (2 : Int32).toInt := fun z => h_33 (Int32.toInt_inj.mp z)
              refine ok_ite.mpr ⟨fun h_38 => ?_, fun h_38 => ?_⟩
              · have g39 : p2.toInt = (3 : Int32).toInt := by rw [h_38]
                refine ok_gd.mpr ⟨gb_of (by omega) (by omega), ?_⟩
                refine ok_gd.mpr ⟨gb_of (by omega) (by omega), ?_⟩
                refine ok_nm2 (fun v12_4 ev12_4 => ?_)
                have qv12_4 : v12_4.toInt = (σ.1 14 p1.toNatClampNeg).toInt := congrArg Int32.toInt ev12_4
                refine ok_some.mpr ?_
                exact ⟨hIσ, hfσ⟩
              · have g40 : p2.toInt ≠ (3 : Int32).toInt := fun z => h_38 (Int32.toInt_inj.mp z)
                refine ok_ite.mpr ⟨fun h_41 => ?_, fun h_41 => ?_⟩
                · have f42 : (4 : Int32).toInt = 4 := by decide
                  have g43 : p2.toInt = (4 : Int32).toInt := by rw [h_41]
                  refine ok_gd.mpr ⟨gb_of (by omega) (by omega), ?_⟩
                  refine ok_nm2 (fun v14_4 ev14_4 => ?_)
                  have qv14_4 : v14_4.toInt = (σ.1 15 p1.toNatClampNeg).toInt := congrArg Int32.toInt ev14_4
                  refine ok_some.mpr ?_
                  exact ⟨hIσ, hfσ⟩
                · have f44 : (4 : Int32).toInt = 4 := by decide
                  have g45 : p2.toInt ≠ (4 : Int32).toInt := fun z => h_41 (Int32.toInt_inj.mp z)
                  refine ok_ite.mpr ⟨fun h_46 => ?_, fun h_46 => ?_⟩
                  · have f47 : (5 : Int32).toInt = 5 := by decide
                    have g48 : p2.toInt = (5 : Int32).toInt := by rw [h_46]
                    refine ok_gd.mpr ⟨gb_of (by omega) (by omega), ?_⟩
                    refine ok_nm2 (fun v16_4 ev16_4 => ?_)
                    have qv16_4 : v16_4.toInt = (σ.1 58 p1.toNatClampNeg).toInt := congrArg Int32.toInt ev16_4
                    refine ok_some.mpr ?_
                    exact ⟨hIσ, hfσ⟩
                  · have f49 : (5 : Int32).toInt = 5 := by decide
                    have g50 : p2.toInt ≠ (5 : Int32).toInt := fun z => h_46 (Int32.toInt_inj.mp z)
                    refine ok_ite.mpr ⟨fun h_51 => ?_, fun h_51 => ?_⟩
                    · have f52 : (6 : Int32).toInt = 6 := by decide
                      have g53 : p2.toInt = (6 : Int32).toInt := by rw [h_51]
                      refine ok_bd.mpr ((o_fX5_miss_47 hIσ (p1 := p1) (p2 := (0 : Int32)) (by omega) (by omega) (by omega) (by omega)).mono (fun r19_4 ho_55 => ?_))
                      refine ok_some.mpr ?_
                      exact ⟨hIσ, hfσ⟩
                    · have f56 : (6 : Int32).toInt = 6 := by decide
                      have g57 : p2.toInt ≠ (6 : Int32).toInt := fun z => h_51 (Int32.toInt_inj.mp z)
                      refine ok_ite.mpr ⟨fun h_58 => ?_, fun h_58 => ?_⟩
                      · have f59 : (7 : Int32).toInt = 7 := by decide
                        have g60 : p2.toInt = (7 : Int32).toInt := by rw [h_58]
                        refine ok_bd.mpr ((o_fX5_miss_47 hIσ (p1 := p1) (p2 := (1 : Int32)) (by omega) (by omega) (by omega) (by omega)).mono (fun r22_4 ho_62 => ?_))
                        refine ok_some.mpr ?_
                        exact ⟨hIσ, hfσ⟩
                      · have f63 : (7 : Int32).toInt = 7 := by decide
                        have g64 : p2.toInt ≠ (7 : Int32).toInt := fun z => h_58 (Int32.toInt_inj.mp z)
                        refine ok_ite.mpr ⟨fun h_65 => ?_, fun h_65 => ?_⟩
                        · have f66 : (8 : Int32).toInt = 8 := by decide
                          have g67 : p2.toInt = (8 : Int32).toInt := by rw [h_65]
                          refine ok_bd2.mpr ((o_fX2_canShow hIσ (p1 := p1) (by omega) (by omega)).mono (fun o_68 ho_69 => ?_))
                          obtain ⟨r25_4, σ26_4⟩ := o_68
                          obtain ⟨hIσ26_4, hcσ26_4, r0r25_4, r1r25_4⟩ := ho_69
                          dsimp only at hIσ26_4 hcσ26_4 r0r25_4 r1r25_4 ⊢
                          have hfσ26_4 : Fr fr_fX9_row σ σ26_4 := Fr_c hfσ hcσ26_4 (by decide)
                          refine ok_ite.mpr ⟨fun h_70 => ?_, fun h_70 => ?_⟩
                          · have g71 : r25_4.toInt = (0 : Int32).toInt := by rw [h_70]
                            refine ok_some.mpr ?_
                            exact ⟨hIσ26_4, hfσ26_4⟩
                          · have g72 : r25_4.toInt ≠ (0 : Int32).toInt := fun z => h_70 (Int32.toInt_inj.mp z)
                            refine ok_some.mpr ?_
                            exact ⟨hIσ26_4, hfσ26_4⟩
                        · have f73 : (8 : Int32).toInt = 8 := by decide
                          have g74 : p2.toInt ≠ (8 : Int32).toInt := fun z => h_65 (Int32.toInt_inj.mp z)
                          refine ok_some.mpr ?_
                          have f75 : (-1000000000 : Int32).toInt = -1000000000 := by decide
                          exact ⟨hIσ, hfσ⟩
set_option maxRecDepth 20000 in
set_option maxHeartbeats 2000000 in
theorem o_fX9_isAxis {σ : gS} (hIσ : JC σ) {p0 : Int32}  : Ok (fX9_isAxis σ p0) (fun out => 0 ≤ out.toInt ∧ out.toInt ≤ 1) := by
  unfold fX9_isAxis
  refine ok_ite.mpr ⟨fun h_1 => ?_, fun h_1 => ?_⟩
  · have f2 : (0 : Int32).toInt = 0 := by decide
    have g3 : p0.toInt = (0 : Int32).toInt := by rw [h_1]
    refine ok_some.mpr ?_
    have f4 : (1 : Int32).toInt = 1 := by decide
    exact ⟨(show 0 ≤ (1 : Int32).toInt by omega), (show (1 : Int32).toInt ≤ 1 by omega)⟩
  · have f5 : (0 : Int32).toInt = 0 := by decide
    have g6 : p0.toInt ≠ (0 : Int32).toInt := fun z => h_1 (Int32.toInt_inj.mp z)
    refine ok_ite.mpr ⟨fun h_7 => ?_, fun h_7 => ?_⟩
    · have f8 : (1 : Int32).toInt = 1 := by decide
      have g9 : p0.toInt = (1 : Int32).toInt := by rw [h_7]
      refine ok_some.mpr ?_
      exact ⟨(show 0 ≤ (1 : Int32).toInt by omega), (show (1 : Int32).toInt ≤ 1 by omega)⟩
    · have f10 : (1 : Int32).toInt = 1 := by decide
      have g11 : p0.toInt ≠ (1 : Int32).toInt := fun z => h_7 (Int32.toInt_inj.mp z)
      refine ok_some.mpr ?_
      exact ⟨(show 0 ≤ (0 : Int32).toInt by omega), (show (0 : Int32).toInt ≤ 1 by omega)⟩
set_option maxRecDepth 20000 in
set_option maxHeartbeats 2000000 in
theorem o_fX8_drifts_2 {σ : gS} (hIσ : JC σ) {p1 : Int32}  : Ok (fX8_drifts_2 σ p1) (fun out => 0 ≤ out.toInt ∧ out.toInt ≤ 1) := by
  unfold fX8_drifts_2
  refine ok_nm2 (fun x1 ex1 => ?_)
  have f1 : (0 : Int32).toInt = 0 := by decide
  have qx1 : x1.toInt = 0 := by rw [ex1]; decide
  refine ok_lpc (I := fun n s => n = (12 + 1 - s.toInt).toNat ∧ 0 ≤ s.toInt ∧ s.toInt ≤ 12) (fun rec2_1r n_1 s_1 hs_1 hrec_1 => ?_) K9 ((12 + 1 - x1.toInt).toNat) x1 ⟨rfl, (show 0 ≤ x1.toInt by omega), (show x1.toInt ≤ 12 by omega)⟩ (by unfold K9; omega)
  obtain ⟨a2_1, hq_1⟩ : ∃ y, y = s_1 := ⟨_, rfl⟩
  subst hq_1
  obtain ⟨hn_1, b0a2_1, b1a2_1⟩ := hs_1
  skip
  unfold bX8_drifts_2_2
  try dsimp only
  have f2 : (1 : Int32).toInt = 1 := by decide
  refine ok_gd.mpr ⟨gb_of (by omega) (by omega), ?_⟩
  refine ok_nm2 (fun v2_2 ev2_2 => ?_)
  have f3 : 0 ≤ (σ.1 3 1).toInt ∧ (σ.1 3 1).toInt ≤ 12 := hIσ 3 1
  have qv2_2 : v2_2.toInt = (σ.1 3 1).toInt := congrArg Int32.toInt ev2_2
  refine ok_ite.mpr ⟨fun h_4 => ?_, fun h_4 => ?_⟩
  · have g5 : v2_2.toInt ≤ a2_1.toInt := Int32.le_iff_toInt_le.mp h_4
    refine ok_some.mpr ?_
    exact ⟨(show 0 ≤ (0 : Int32).toInt by omega), (show (0 : Int32).toInt ≤ 1 by omega)⟩
  · have g6 : ¬ v2_2.toInt ≤ a2_1.toInt := fun z => h_4 (Int32.le_iff_toInt_le.mpr z)
    refine ok_gd.mpr ⟨gb_of (by omega) (by omega), ?_⟩
    refine ok_nm2 (fun v4_2 ev4_2 => ?_)
    have f8 : a2_1.toNatClampNeg = a2_1.toInt.toNat := rfl
    have f8_ : (a2_1.toNatClampNeg = 0 ∧ 0 ≤ (σ.1 8 a2_1.toNatClampNeg).toInt ∧ (σ.1 8 a2_1.toNatClampNeg).toInt ≤ 5) ∨ (a2_1.toNatClampNeg = 1 ∧ 0 ≤ (σ.1 8 a2_1.toNatClampNeg).toInt ∧ (σ.1 8 a2_1.toNatClampNeg).toInt ≤ 5) ∨ (a2_1.toNatClampNeg = 2 ∧ 0 ≤ (σ.1 8 a2_1.toNatClampNeg).toInt ∧ (σ.1 8 a2_1.toNatClampNeg).toInt ≤ 5) ∨ (a2_1.toNatClampNeg = 3 ∧ 0 ≤ (σ.1 8 a2_1.toNatClampNeg).toInt ∧ (σ.1 8 a2_1.toNatClampNeg).toInt ≤ 5) ∨ (a2_1.toNatClampNeg = 4 ∧ 0 ≤ (σ.1 8 a2_1.toNatClampNeg).toInt ∧ (σ.1 8 a2_1.toNatClampNeg).toInt ≤ 5) ∨ (a2_1.toNatClampNeg = 5 ∧ 0 ≤ (σ.1 8 a2_1.toNatClampNeg).toInt ∧ (σ.1 8 a2_1.toNatClampNeg).toInt ≤ 5) ∨ (a2_1.toNatClampNeg = 6 ∧ 0 ≤ (σ.1 8 a2_1.toNatClampNeg).toInt ∧ (σ.1 8 a2_1.toNatClampNeg).toInt ≤ 5) ∨ (a2_1.toNatClampNeg = 7 ∧ 0 ≤ (σ.1 8 a2_1.toNatClampNeg).toInt ∧ (σ.1 8 a2_1.toNatClampNeg).toInt ≤ 5) ∨ (a2_1.toNatClampNeg = 8 ∧ 0 ≤ (σ.1 8 a2_1.toNatClampNeg).toInt ∧ (σ.1 8 a2_1.toNatClampNeg).toInt ≤ 5) ∨ (a2_1.toNatClampNeg = 9 ∧ 0 ≤ (σ.1 8 a2_1.toNatClampNeg).toInt ∧ (σ.1 8 a2_1.toNatClampNeg).toInt ≤ 5) ∨ (a2_1.toNatClampNeg = 10 ∧ 0 ≤ (σ.1 8 a2_1.toNatClampNeg).toInt ∧ (σ.1 8 a2_1.toNatClampNeg).toInt ≤ 5) ∨ (a2_1.toNatClampNeg = 11 ∧ 0 ≤ (σ.1 8 a2_1.toNatClampNeg).toInt ∧ (σ.1 8 a2_1.toNatClampNeg).toInt ≤ 5) := by
      have hb := hIσ 8 a2_1.toNatClampNeg
      have hj : a2_1.toNatClampNeg = 0 ∨ a2_1.toNatClampNeg = 1 ∨ a2_1.toNatClampNeg = 2 ∨ a2_1.toNatClampNeg = 3 ∨ a2_1.toNatClampNeg = 4 ∨ a2_1.toNatClampNeg = 5 ∨ a2_1.toNatClampNeg = 6 ∨ a2_1.toNatClampNeg = 7 ∨ a2_1.toNatClampNeg = 8 ∨ a2_1.toNatClampNeg = 9 ∨ a2_1.toNatClampNeg = 10 ∨ a2_1.toNatClampNeg = 11 := by omega
      generalize a2_1.toNatClampNeg = j at hb hj ⊢
      rcases hj with rfl | rfl | rfl | rfl | rfl | rfl | rfl | rfl | rfl | rfl | rfl | rfl
      · exact .inl ⟨rfl, hb.1, hb.2⟩
      · exact .inr (.inl ⟨rfl, hb.1, hb.2⟩)
      · exact .inr (.inr (.inl ⟨rfl, hb.1, hb.2⟩))
      · exact .inr (.inr (.inr (.inl ⟨rfl, hb.1, hb.2⟩)))
      · exact .inr (.inr (.inr (.inr (.inl ⟨rfl, hb.1, hb.2⟩))))
      · exact .inr (.inr (.inr (.inr (.inr (.inl ⟨rfl, hb.1, hb.2⟩)))))
      · exact .inr (.inr (.inr (.inr (.inr (.inr (.inl ⟨rfl, hb.1, hb.2⟩))))))
      · exact .inr (.inr (.inr (.inr (.inr (.inr (.inr (.inl ⟨rfl, hb.1, hb.2⟩)))))))
      · exact .inr (.inr (.inr (.inr (.inr (.inr (.inr (.inr (.inl ⟨rfl, hb.1, hb.2⟩))))))))
      · exact .inr (.inr (.inr (.inr (.inr (.inr (.inr (.inr (.inr (.inl ⟨rfl, hb.1, hb.2⟩)))))))))
      · exact .inr (.inr (.inr (.inr (.inr (.inr (.inr (.inr (.inr (.inr (.inl ⟨rfl, hb.1, hb.2⟩))))))))))
      · exact .inr (.inr (.inr (.inr (.inr (.inr (.inr (.inr (.inr (.inr (.inr (⟨rfl, hb.1, hb.2⟩)))))))))))
    have qv4_2 : v4_2.toInt = (σ.1 8 a2_1.toNatClampNeg).toInt := congrArg Int32.toInt ev4_2
    refine ok_ite.mpr ⟨fun h_9 => ?_, fun h_9 => ?_⟩
    · have g10 : v4_2.toInt = p1.toInt := by rw [h_9]
      refine ok_gd.mpr ⟨gb_of (by omega) (by omega), ?_⟩
      refine ok_nm2 (fun v7_2 ev7_2 => ?_)
      have qv7_2 : v7_2.toInt = (σ.1 20 a2_1.toNatClampNeg).toInt := congrArg Int32.toInt ev7_2
      refine ok_ite.mpr ⟨fun h_11 => ?_, fun h_11 => ?_⟩
      · have g12 : v7_2.toInt ≤ (0 : Int32).toInt := Int32.le_iff_toInt_le.mp h_11
        refine ok_nm2 (fun x9_2 ex9_2 => ?_)
        have f13 : (a2_1 + (1 : Int32)).toInt = a2_1.toInt + (1 : Int32).toInt := iadd_toInt (by omega) (by omega)
        have qx9_2 : x9_2.toInt = (a2_1 + 1).toInt := congrArg Int32.toInt ex9_2
        exact hrec_1 _ x9_2 (show (12 + 1 - x9_2.toInt).toNat < n_1 by omega) ⟨rfl, (show 0 ≤ x9_2.toInt by omega), (show x9_2.toInt ≤ 12 by omega)⟩
      · have g14 : ¬ v7_2.toInt ≤ (0 : Int32).toInt := fun z => h_11 (Int32.le_iff_toInt_le.mpr z)
        refine ok_some.mpr ?_
        exact ⟨(show 0 ≤ (1 : Int32).toInt by omega), (show (1 : Int32).toInt ≤ 1 by omega)⟩
    · have g15 : v4_2.toInt ≠ p1.toInt := fun z => h_9 (Int32.toInt_inj.mp z)
      refine ok_nm2 (fun x6_2 ex6_2 => ?_)
      have f16 : (a2_1 + (1 : Int32)).toInt = a2_1.toInt + (1 : Int32).toInt := iadd_toInt (by omega) (by omega)
      have qx6_2 : x6_2.toInt = (a2_1 + 1).toInt := congrArg Int32.toInt ex6_2
      exact hrec_1 _ x6_2 (show (12 + 1 - x6_2.toInt).toNat < n_1 by omega) ⟨rfl, (show 0 ≤ x6_2.toInt by omega), (show x6_2.toInt ≤ 12 by omega)⟩
set_option maxRecDepth 20000 in
set_option maxHeartbeats 2000000 in
theorem o_fX9_drift {σ : gS} (hIσ : JC σ) {p1 : Int32} {p2 : Int32}  : Ok (fX9_drift σ p1 p2) (fun _ => True) := by
  unfold fX9_drift
  refine ok_bd.mpr ?_
  try unfold fX8_exists_2
  refine ok_ite.mpr ⟨fun h_1 => ?_, fun h_1 => ?_⟩
  · have f2 : (0 : Int32).toInt = 0 := by decide
    have g3 : p1.toInt < (0 : Int32).toInt := Int32.lt_iff_toInt_lt.mp h_1
    refine ok_some.mpr ?_
    refine ok_ite.mpr ⟨fun h_4 => ?_, fun h_4 => ?_⟩
    · have g5 : (0 : Int32).toInt = (0 : Int32).toInt := by rw [h_4]
      refine ok_some.mpr ?_
      have f6 : (-1000000000 : Int32).toInt = -1000000000 := by decide
      exact trivial
    · have g7 : (0 : Int32).toInt ≠ (0 : Int32).toInt := fun z => h_4 (Int32.toInt_inj.mp z)
      exfalso
      omega
  · have f8 : (0 : Int32).toInt = 0 := by decide
    have g9 : ¬ p1.toInt < (0 : Int32).toInt := fun z => h_1 (Int32.lt_iff_toInt_lt.mpr z)
    refine ok_gd.mpr ⟨gb_of (by omega) (by omega), ?_⟩
    refine ok_nm2 (fun v2_1 ev2_1 => ?_)
    have f11 : (0 : Int32).toNatClampNeg = (0 : Int32).toInt.toNat := rfl
    have f11_ : ((0 : Int32).toNatClampNeg = 0 ∧ 0 ≤ (σ.1 3 (0 : Int32).toNatClampNeg).toInt ∧ (σ.1 3 (0 : Int32).toNatClampNeg).toInt ≤ 6) := by
      have hb := hIσ 3 (0 : Int32).toNatClampNeg
      have hj : (0 : Int32).toNatClampNeg = 0 := by omega
      generalize (0 : Int32).toNatClampNeg = j at hb hj ⊢
      obtain rfl := hj
      exact ⟨rfl, hb.1, hb.2⟩
    have qv2_1 : v2_1.toInt = (σ.1 3 (0 : Int32).toNatClampNeg).toInt := congrArg Int32.toInt ev2_1
    refine ok_ite.mpr ⟨fun h_12 => ?_, fun h_12 => ?_⟩
    · have g13 : v2_1.toInt ≤ p1.toInt := Int32.le_iff_toInt_le.mp h_12
      refine ok_some.mpr ?_
      refine ok_ite.mpr ⟨fun h_14 => ?_, fun h_14 => ?_⟩
      · have g15 : (0 : Int32).toInt = (0 : Int32).toInt := by rw [h_14]
        refine ok_some.mpr ?_
        have f16 : (-1000000000 : Int32).toInt = -1000000000 := by decide
        exact trivial
      · have g17 : (0 : Int32).toInt ≠ (0 : Int32).toInt := fun z => h_14 (Int32.toInt_inj.mp z)
        exfalso
        omega
    · have g18 : ¬ v2_1.toInt ≤ p1.toInt := fun z => h_12 (Int32.le_iff_toInt_le.mpr z)
      refine ok_some.mpr ?_
      refine ok_ite.mpr ⟨fun h_19 => ?_, fun h_19 => ?_⟩
      · have f20 : (1 : Int32).toInt = 1 := by decide
        have g21 : (1 : Int32).toInt = (0 : Int32).toInt := by rw [h_19]
        exfalso
        omega
      · have f22 : (1 : Int32).toInt = 1 := by decide
        have g23 : (1 : Int32).toInt ≠ (0 : Int32).toInt := fun z => h_19 (Int32.toInt_inj.mp z)
        refine ok_bd.mpr ?_
        try unfold fX9_isAxis
        refine ok_ite.mpr ⟨fun h_24 => ?_, fun h_24 => ?_⟩
        · have g25 : p2.toInt = (0 : Int32).toInt := by rw [h_24]
          refine ok_some.mpr ?_
          refine ok_ite.mpr ⟨fun h_26 => ?_, fun h_26 => ?_⟩
          · have g27 : (1 : Int32).toInt = (0 : Int32).toInt := by rw [h_26]
            exfalso
            omega
          · have g28 : (1 : Int32).toInt ≠ (0 : Int32).toInt := fun z => h_26 (Int32.toInt_inj.mp z)
            refine ok_bd.mpr ((o_fX8_drifts_2 hIσ (p1 := p1) ).mono (fun r8_4_6 ho_30 => ?_))
            obtain ⟨r0r8_4_6, r1r8_4_6⟩ := ho_30
            refine ok_ite.mpr ⟨fun h_31 => ?_, fun h_31 => ?_⟩
            · have g32 : r8_4_6.toInt = (0 : Int32).toInt := by rw [h_31]
              refine ok_some.mpr ?_
              have f33 : (-1000000000 : Int32).toInt = -1000000000 := by decide
              exact trivial
            · have g34 : r8_4_6.toInt ≠ (0 : Int32).toInt := fun z => h_31 (Int32.toInt_inj.mp z)
              refine ok_gd.mpr ⟨gb_of (by omega) (by omega), ?_⟩
              refine ok_gd.mpr ⟨gb_of (by omega) (by omega), ?_⟩
              refine ok_nm2 (fun v11_4_6 ev11_4_6 => ?_)
              have qv11_4_6 : v11_4_6.toInt = (σ.1 (56 + p2.toNatClampNeg) p1.toNatClampNeg).toInt := congrArg Int32.toInt ev11_4_6
              refine ok_some.mpr ?_
              exact trivial
        · have g35 : p2.toInt ≠ (0 : Int32).toInt := fun z => h_24 (Int32.toInt_inj.mp z)
          refine ok_ite.mpr ⟨fun h_36 => ?_, fun h_36 => ?_⟩
          · have g37 : p2.toInt = (1 : Int32).toInt := by rw [h_36]
            refine ok_some.mpr ?_
            refine ok_ite.mpr ⟨fun h_38 => ?_, fun h_38 => ?_⟩
            · have g39 : (1 : Int32).toInt = (0 : Int32).toInt := by rw [h_38]
              exfalso
              omega
            · have g40 : (1 : Int32).toInt ≠ (0 : Int32).toInt := fun z => h_38 (Int32.toInt_inj.mp z)
              refine ok_bd.mpr ((o_fX8_drifts_2 hIσ (p1 := p1) ).mono (fun r8_4_7 ho_42 => ?_))
              obtain ⟨r0r8_4_7, r1r8_4_7⟩ := ho_42
              refine ok_ite.mpr ⟨fun h_43 => ?_, fun h_43 => ?_⟩
              · have g44 : r8_4_7.toInt = (0 : Int32).toInt := by rw [h_43]
                refine ok_some.mpr ?_
                have f45 : (-1000000000 : Int32).toInt = -1000000000 := by decide
                exact trivial
              · have g46 : r8_4_7.toInt ≠ (0 : Int32).toInt := fun z => h_43 (Int32.toInt_inj.mp z)
                refine ok_gd.mpr ⟨gb_of (by omega) (by omega), ?_⟩
                refine ok_gd.mpr ⟨gb_of (by omega) (by omega), ?_⟩
                refine ok_nm2 (fun v11_4_7 ev11_4_7 => ?_)
                have qv11_4_7 : v11_4_7.toInt = (σ.1 (56 + p2.toNatClampNeg) p1.toNatClampNeg).toInt := congrArg Int32.toInt ev11_4_7
                refine ok_some.mpr ?_
                exact trivial
          · have g47 : p2.toInt ≠ (1 : Int32).toInt := fun z => h_36 (Int32.toInt_inj.mp z)
            refine ok_some.mpr ?_
            refine ok_ite.mpr ⟨fun h_48 => ?_, fun h_48 => ?_⟩
            · have g49 : (0 : Int32).toInt = (0 : Int32).toInt := by rw [h_48]
              refine ok_some.mpr ?_
              have f50 : (-1000000000 : Int32).toInt = -1000000000 := by decide
              exact trivial
            · have g51 : (0 : Int32).toInt ≠ (0 : Int32).toInt := fun z => h_48 (Int32.toInt_inj.mp z)
              exfalso
              omega
set_option maxRecDepth 20000 in
set_option maxHeartbeats 2000000 in
theorem o_fX9_start {σ : gS} (hIσ : JC σ)   : Ok (fX9_start σ ) (fun out => JC out.2 ∧ Fr fr_fX9_start σ out.2) := by
  unfold fX9_start
  have hfσ : Fr fr_fX9_start σ σ := Fr_r
  refine ok_bd2.mpr ((o_fX6_begin hIσ  ).mono (fun o_1 ho_2 => ?_))
  obtain ⟨r2, σ3⟩ := o_1
  obtain ⟨hIσ3, hcσ3⟩ := ho_2
  dsimp only at hIσ3 hcσ3 ⊢
  have hfσ3 : Fr fr_fX9_start σ σ3 := Fr_c hfσ hcσ3 (by decide)
  refine ok_some.mpr ?_
  exact ⟨hIσ3, hfσ3⟩
/-! fill: o_fill -/
set_option maxRecDepth 20000 in
set_option maxHeartbeats 2000000 in
theorem o_fX1_clearPulls {σ : gS} (hIσ : JC σ)   : Ok (fX1_clearPulls σ ) (fun out => JC out ∧ Fr fr_fX1_clearPulls σ out) := by
  unfold fX1_clearPulls
  have hfσ : Fr fr_fX1_clearPulls σ σ := Fr_r
  refine ok_bd.mpr ((o_fillL (c := 91) (v := (0 : Int64)) hIσ (by decide)).mono (fun σ2 ho_1 => ?_))
  obtain ⟨hIσ2, hcσ2, hvσ2⟩ := ho_1
  have hfσ2 : Fr fr_fX1_clearPulls σ σ2 := Fr_c hfσ hcσ2 (by decide)
  refine ok_bd.mpr ((o_fillL (c := 92) (v := (0 : Int64)) hIσ2 (by decide)).mono (fun σ4 ho_2 => ?_))
  obtain ⟨hIσ4, hcσ4, hvσ4⟩ := ho_2
  have hfσ4 : Fr fr_fX1_clearPulls σ σ4 := Fr_c hfσ2 hcσ4 (by decide)
  refine ok_some.mpr ?_
  exact ⟨hIσ4, hfσ4⟩
set_option maxRecDepth 20000 in
set_option maxHeartbeats 2000000 in
theorem o_fJ9_floorDiv_f86c9 {σ : gS} (hIσ : JC σ) {p0 : Int64} {p2 : Int64} (pre0 : p2.toInt ≠ 0) : Ok (fJ9_floorDiv_f86c9 σ p0 p2) (fun _ => True) := by
  unfold fJ9_floorDiv_f86c9
  refine ok_gd.mpr ⟨decide_eq_true (fun h_1 => ?_), ?_⟩
  · have f2 : (0 : Int64).toInt = 0 := by decide
    have g3 : p2.toInt = (0 : Int64).toInt := by rw [h_1]
    exfalso
    omega
  refine ok_nm2 (fun x2 ex2 => ?_)
  refine ok_ite.mpr ⟨fun h_4 => ?_, fun h_4 => ?_⟩
  · have f5 : (0 : Int64).toInt = 0 := by decide
    refine ok_some.mpr ?_
    exact trivial
  · have f6 : (0 : Int64).toInt = 0 := by decide
    refine ok_ite.mpr ⟨fun h_7 => ?_, fun h_7 => ?_⟩
    · refine ok_some.mpr ?_
      exact trivial
    · refine ok_some.mpr ?_
      exact trivial
theorem o_fX1_moveEach {σ : gS} (hIσ : JC σ) {p1 : Nat} {p2 : Int32} (h0p1 : 50 ≤ p1) (h1p1 : p1 ≤ 57) (h0p2 : 0 ≤ p2.toInt) (h1p2 : p2.toInt ≤ 20) (pre0 : ((p1 = 50 ∨ p1 = 51) ∧ p2.toInt ≤ 12) ∨ ((p1 = 53 ∨ p1 = 54) ∧ p2.toInt ≤ 20) ∨ ((p1 = 56 ∨ p1 = 57) ∧ p2.toInt ≤ 6)) : Ok (fX1_moveEach σ p1 p2) (fun out => JC out.2 ∧ Fr fr_fX1_moveEach σ out.2 ∧ 0 ≤ out.1.toInt ∧ out.1.toInt ≤ 1) := by
  have hz : p2.toInt ≤ ((gsz zC.1 0 0 p1 : Nat) : Int) ∧ (∀ i, kbC p1 i = (-2147483648, 2147483647)) ∧ (p1, 0) ∈ fr_fX1_moveEach := by
    rcases pre0 with ⟨h | h, hp⟩ | ⟨h | h, hp⟩ | ⟨h | h, hp⟩ <;> subst h
    · have : gsz zC.1 0 0 50 = 12 := by decide
      exact ⟨by omega, fun _ => rfl, by decide⟩
    · have : gsz zC.1 0 0 51 = 12 := by decide
      exact ⟨by omega, fun _ => rfl, by decide⟩
    · have : gsz zC.1 0 0 53 = 20 := by decide
      exact ⟨by omega, fun _ => rfl, by decide⟩
    · have : gsz zC.1 0 0 54 = 20 := by decide
      exact ⟨by omega, fun _ => rfl, by decide⟩
    · have : gsz zC.1 0 0 56 = 6 := by decide
      exact ⟨by omega, fun _ => rfl, by decide⟩
    · have : gsz zC.1 0 0 57 = 6 := by decide
      exact ⟨by omega, fun _ => rfl, by decide⟩
  obtain ⟨hz, hk, hm⟩ := hz
  have b0 : ∀ x : Int32, vp_nar .boolean x = vp_nar .boolean x := fun _ => rfl
  unfold fX1_moveEach
  refine ok_nm.mpr (ok_nm.mpr (ok_lpc (I := fun (n : Nat) (s : Int32 × Int32 × gS) => n = (20 - s.2.1.toInt).toNat ∧ 0 ≤ s.2.1.toInt ∧ s.2.1.toInt ≤ 20 ∧ JC s.2.2 ∧ Fr fr_fX1_moveEach σ s.2.2) (fun rec n s hs hrec => ?_) K9 20 (0, 0, σ) ⟨show 20 = (20 - (0 : Int32).toInt).toNat by decide, show 0 ≤ (0 : Int32).toInt by decide, show (0 : Int32).toInt ≤ 20 by decide, hIσ, Fr_r⟩ (by unfold K9; decide)))
  obtain ⟨w, a, τ⟩ := s
  obtain ⟨hn, h0, h1, jI, jF⟩ := hs
  dsimp only at hn h0 h1 jI jF ⊢
  unfold bX1_moveEach_5
  refine ok_ite.mpr ⟨fun _ => ok_some.mpr ⟨jI, jF, (nar_bool w).1, (nar_bool w).2⟩, fun h => ?_⟩
  have ha := q_gt h
  have e1 : (a + 1).toInt = a.toInt + 1 := i_inc (c := 20) (by omega) (by omega) (by decide)
  have next : ∀ (w' : Int32) u, JC u → Fr fr_fX1_moveEach σ u → Ok (rec (w', a + 1, u)) (fun out => JC out.2 ∧ Fr fr_fX1_moveEach σ out.2 ∧ 0 ≤ out.1.toInt ∧ out.1.toInt ≤ 1) := fun w' u x y => hrec (20 - (a + 1).toInt).toNat (w', a + 1, u) (by omega) ⟨rfl, show 0 ≤ (a + 1).toInt by omega, show (a + 1).toInt ≤ 20 by omega, x, y⟩
  have J : ∀ x : Int64, Ok (jX1_moveEach_98 τ p1 p2 (fun a3 a4 σ1 => rec (a3, a4, σ1)) w a x) (fun out => JC out.2 ∧ Fr fr_fX1_moveEach σ out.2 ∧ 0 ≤ out.1.toInt ∧ out.1.toInt ≤ 1) := fun x => by
    unfold jX1_moveEach_98
    refine ok_gd.mpr ⟨gb_of h0 (by omega), ok_nm.mpr (ok_ite.mpr ⟨fun _ => ok_nm.mpr (next w τ jI jF), fun _ => ok_gd.mpr ⟨gb_of h0 (by omega), ok_nm.mpr (ok_nm.mpr (ok_nm.mpr ?_))⟩⟩)⟩
    exact next 1 _ (JC_w jI (by rw [hk]; exact Int32.le_toInt _) (by rw [hk]; exact Int32.toInt_le _)) (Fr_w0 jF hm)
  refine ok_gd.mpr ⟨gb_of h0 (by omega), ok_nm.mpr (ok_nm.mpr (ok_ite.mpr ⟨fun hx => ?_, fun _ => ok_nm.mpr (next w τ jI jF)⟩))⟩
  have hx := Int64.lt_iff_toInt_lt.mp hx
  have l0 : (0 : Int64).toInt = 0 := by decide
  refine ok_gd.mpr ⟨gb_of h0 (by omega), ok_nm.mpr ?_⟩
  refine ok_bd.mpr ((o_fJ9_floorDiv_f86c9 jI (p0 := τ.2 92 a.toNatClampNeg) (p2 := τ.2 91 a.toNatClampNeg) (by omega)).mono (fun r _ => ok_nm.mpr ?_))
  refine ok_gd.mpr ⟨gb_of h0 (by omega), ok_nm.mpr (ok_nm.mpr (ok_ite.mpr ⟨fun _ => ok_nm.mpr (J _), fun _ => ok_ite.mpr ⟨fun _ => ?_, fun _ => J _⟩⟩))⟩
  exact ok_gd.mpr ⟨gb_of h0 (by omega), ok_nm.mpr (ok_ite.mpr ⟨fun _ => ok_nm.mpr (J _), fun _ => J _⟩)⟩
set_option maxRecDepth 20000 in
set_option maxHeartbeats 2000000 in
theorem o_fX1_addPull {σ : gS} (hIσ : JC σ) {p1 : Int32} {p2 : Int32} {p3 : Int32} (h0p1 : 0 ≤ p1.toInt) (h1p1 : p1.toInt ≤ 19) : Ok (fX1_addPull σ p1 p2 p3) (fun out => JC out ∧ Fr fr_fX1_addPull σ out) := by
  unfold fX1_addPull
  have hfσ : Fr fr_fX1_addPull σ σ := Fr_r
  refine ok_gd.mpr ⟨gb_of (by omega) (by omega), ?_⟩
  refine ok_nm2 (fun v1 ev1 => ?_)
  refine ok_gd.mpr ⟨gb_of (by omega) (by omega), ?_⟩
  refine ok_nm2 (fun σ2 eσ2 => ?_)
  have hIσ2 : JC σ2 := by rw [eσ2]; exact JC_l hIσ
  have hfσ2 : Fr fr_fX1_addPull σ σ2 := by rw [eσ2]; exact Fr_l0 hfσ (by decide)
  refine ok_gd.mpr ⟨gb_of (by omega) (by omega), ?_⟩
  refine ok_nm2 (fun v3 ev3 => ?_)
  refine ok_gd.mpr ⟨gb_of (by omega) (by omega), ?_⟩
  refine ok_nm2 (fun σ4 eσ4 => ?_)
  have hIσ4 : JC σ4 := by rw [eσ4]; exact JC_l hIσ2
  have hfσ4 : Fr fr_fX1_addPull σ σ4 := by rw [eσ4]; exact Fr_l0 hfσ2 (by decide)
  refine ok_some.mpr ?_
  exact ⟨hIσ4, hfσ4⟩
set_option maxRecDepth 20000 in
set_option maxHeartbeats 2000000 in
theorem o_fX1_movePoints {σ : gS} (hIσ : JC σ) {p1 : Int32} (h0p1 : 0 ≤ p1.toInt) (h1p1 : p1.toInt ≤ 1) : Ok (fX1_movePoints σ p1) (fun out => JC out.2 ∧ Fr fr_fX1_movePoints σ out.2 ∧ 0 ≤ out.1.toInt ∧ out.1.toInt ≤ 1) := by
  unfold fX1_movePoints
  have hfσ : Fr fr_fX1_movePoints σ σ := Fr_r
  refine ok_bd.mpr ((o_fX1_clearPulls hIσ  ).mono (fun σ2 ho_2 => ?_))
  obtain ⟨hIσ2, hcσ2⟩ := ho_2
  have hfσ2 : Fr fr_fX1_movePoints σ σ2 := Fr_c hfσ hcσ2 (by decide)
  refine ok_nm2 (fun x3 ex3 => ?_)
  have f3 : (0 : Int32).toInt = 0 := by decide
  have qx3 : x3.toInt = 0 := by rw [ex3]; decide
  refine ok_lpc (I := fun n s => n = (60 + 1 - s.1.toInt).toNat ∧ JC s.2 ∧ Fr fr_fX1_movePoints σ s.2 ∧ 0 ≤ s.1.toInt ∧ s.1.toInt ≤ 60) (fun rec6_1r n_1 s_1 hs_1 hrec_1 => ?_) K9 ((60 + 1 - x3.toInt).toNat) (x3, σ2) ⟨rfl, hIσ2, hfσ2, (show 0 ≤ x3.toInt by omega), (show x3.toInt ≤ 60 by omega)⟩ (by unfold K9; omega)
  obtain ⟨a2_1, σ1_1⟩ := s_1
  obtain ⟨hn_1, hIσ1_1, hfσ1_1, b0a2_1, b1a2_1⟩ := hs_1
  dsimp only at hn_1 hIσ1_1 hfσ1_1 b0a2_1 b1a2_1
  unfold bX1_movePoints_6
  try dsimp only
  have f4 : (3 : Int32).toInt = 3 := by decide
  refine ok_gd.mpr ⟨gb_of (by omega) (by omega), ?_⟩
  refine ok_nm2 (fun v4_31 ev4_31 => ?_)
  have f5 : 0 ≤ (σ1_1.1 3 3).toInt ∧ (σ1_1.1 3 3).toInt ≤ 60 := hIσ1_1 3 3
  have qv4_31 : v4_31.toInt = (σ1_1.1 3 3).toInt := congrArg Int32.toInt ev4_31
  refine ok_ite.mpr ⟨fun h_6 => ?_, fun h_6 => ?_⟩
  · have g7 : v4_31.toInt ≤ a2_1.toInt := Int32.le_iff_toInt_le.mp h_6
    refine ok_nm2 (fun x6_31 ex6_31 => ?_)
    have qx6_31 : x6_31.toInt = 0 := by rw [ex6_31]; decide
    refine ok_lpc (I := fun n s => n = (20 + 1 - s.1.toInt).toNat ∧ JC s.2 ∧ Fr fr_fX1_movePoints σ s.2 ∧ 0 ≤ s.1.toInt ∧ s.1.toInt ≤ 20) (fun rec93_32r n_32 s_32 hs_32 hrec_32 => ?_) K9 ((20 + 1 - x6_31.toInt).toNat) (x6_31, σ1_1) ⟨rfl, hIσ1_1, hfσ1_1, (show 0 ≤ x6_31.toInt by omega), (show x6_31.toInt ≤ 20 by omega)⟩ (by unfold K9; omega)
    obtain ⟨a2_32, σ1_32⟩ := s_32
    obtain ⟨hn_32, hIσ1_32, hfσ1_32, b0a2_32, b1a2_32⟩ := hs_32
    dsimp only at hn_32 hIσ1_32 hfσ1_32 b0a2_32 b1a2_32
    unfold bX1_movePoints_93
    try dsimp only
    have f8 : (2 : Int32).toInt = 2 := by decide
    refine ok_gd.mpr ⟨gb_of (by omega) (by omega), ?_⟩
    refine ok_nm2 (fun v7_44 ev7_44 => ?_)
    have f9 : 0 ≤ (σ1_32.1 3 2).toInt ∧ (σ1_32.1 3 2).toInt ≤ 20 := hIσ1_32 3 2
    have qv7_44 : v7_44.toInt = (σ1_32.1 3 2).toInt := congrArg Int32.toInt ev7_44
    refine ok_ite.mpr ⟨fun h_10 => ?_, fun h_10 => ?_⟩
    · have g11 : v7_44.toInt ≤ a2_32.toInt := Int32.le_iff_toInt_le.mp h_10
      refine ok_gd.mpr ⟨gb_of (by omega) (by omega), ?_⟩
      refine ok_gd.mpr ⟨gb_of (by omega) (by omega), ?_⟩
      refine ok_nm2 (fun v10_44 ev10_44 => ?_)
      have qv10_44 : v10_44.toInt = (σ1_32.1 3 2).toInt := congrArg Int32.toInt ev10_44
      have f12 : p1.toNatClampNeg = p1.toInt.toNat := rfl
      refine ok_bd2.mpr ((o_fX1_moveEach hIσ1_32 (p1 := (53 + p1.toNatClampNeg)) (p2 := v10_44) (by omega) (by omega) (by omega) (by omega) (by omega)).mono (fun o_13 ho_14 => ?_))
      obtain ⟨r12_44, σ13_44⟩ := o_13
      obtain ⟨hIσ13_44, hcσ13_44, r0r12_44, r1r12_44⟩ := ho_14
      dsimp only at hIσ13_44 hcσ13_44 r0r12_44 r1r12_44 ⊢
      have hfσ13_44 : Fr fr_fX1_movePoints σ σ13_44 := Fr_c hfσ1_32 hcσ13_44 (by decide)
      refine ok_some.mpr ?_
      have f15 : (vp_nar .boolean r12_44).toInt = r12_44.toInt := nar_bool2 (by omega) (by omega)
      exact ⟨hIσ13_44, hfσ13_44, (show 0 ≤ (vp_nar .boolean r12_44).toInt by omega), (show (vp_nar .boolean r12_44).toInt ≤ 1 by omega)⟩
    · have g16 : ¬ v7_44.toInt ≤ a2_32.toInt := fun z => h_10 (Int32.le_iff_toInt_le.mpr z)
      refine ok_bd.mpr ?_
      try unfold fX5_isFixed_47
      refine ok_gd.mpr ⟨gb_of (by omega) (by omega), ?_⟩
      refine ok_nm2 (fun v1_45 ev1_45 => ?_)
      have qv1_45 : v1_45.toInt = (σ1_32.1 16 a2_32.toNatClampNeg).toInt := congrArg Int32.toInt ev1_45
      refine ok_ite.mpr ⟨fun h_17 => ?_, fun h_17 => ?_⟩
      · have g18 : (v1_45 &&& (σ1_32.1 47 1)).toInt = (0 : Int32).toInt := by rw [h_17]
        refine ok_some.mpr ?_
        refine ok_ite.mpr ⟨fun h_19 => ?_, fun h_19 => ?_⟩
        · have g20 : (0 : Int32).toInt = (0 : Int32).toInt := by rw [h_19]
          refine ok_nm2 (fun x17_44_46 ex17_44_46 => ?_)
          have f21 : (1 : Int32).toInt = 1 := by decide
          have f22 : (a2_32 + (1 : Int32)).toInt = a2_32.toInt + (1 : Int32).toInt := iadd_toInt (by omega) (by omega)
          have qx17_44_46 : x17_44_46.toInt = (a2_32 + 1).toInt := congrArg Int32.toInt ex17_44_46
          exact hrec_32 _ (x17_44_46, σ1_32) (show (20 + 1 - x17_44_46.toInt).toNat < n_32 by omega) ⟨rfl, hIσ1_32, hfσ1_32, (show 0 ≤ x17_44_46.toInt by omega), (show x17_44_46.toInt ≤ 20 by omega)⟩
        · have g23 : (0 : Int32).toInt ≠ (0 : Int32).toInt := fun z => h_19 (Int32.toInt_inj.mp z)
          exfalso
          omega
      · have g24 : (v1_45 &&& (σ1_32.1 47 1)).toInt ≠ (0 : Int32).toInt := fun z => h_17 (Int32.toInt_inj.mp z)
        refine ok_some.mpr ?_
        refine ok_ite.mpr ⟨fun h_25 => ?_, fun h_25 => ?_⟩
        · have f26 : (1 : Int32).toInt = 1 := by decide
          have g27 : (1 : Int32).toInt = (0 : Int32).toInt := by rw [h_25]
          exfalso
          omega
        · have f28 : (1 : Int32).toInt = 1 := by decide
          have g29 : (1 : Int32).toInt ≠ (0 : Int32).toInt := fun z => h_25 (Int32.toInt_inj.mp z)
          refine ok_gd.mpr ⟨gb_of (by omega) (by omega), ?_⟩
          refine ok_nm2 (fun σ18_44_47 eσ18_44_47 => ?_)
          have hIσ18_44_47 : JC σ18_44_47 := by rw [eσ18_44_47]; exact JC_l hIσ1_32
          have hfσ18_44_47 : Fr fr_fX1_movePoints σ σ18_44_47 := by rw [eσ18_44_47]; exact Fr_l0 hfσ1_32 (by decide)
          refine ok_nm2 (fun x19_44_47 ex19_44_47 => ?_)
          have f30 : (a2_32 + (1 : Int32)).toInt = a2_32.toInt + (1 : Int32).toInt := iadd_toInt (by omega) (by omega)
          have qx19_44_47 : x19_44_47.toInt = (a2_32 + 1).toInt := congrArg Int32.toInt ex19_44_47
          exact hrec_32 _ (x19_44_47, σ18_44_47) (show (20 + 1 - x19_44_47.toInt).toNat < n_32 by omega) ⟨rfl, hIσ18_44_47, hfσ18_44_47, (show 0 ≤ x19_44_47.toInt by omega), (show x19_44_47.toInt ≤ 20 by omega)⟩
  · have g31 : ¬ v4_31.toInt ≤ a2_1.toInt := fun z => h_6 (Int32.le_iff_toInt_le.mpr z)
    refine ok_bd.mpr ?_
    try unfold fX5_uses_47
    refine ok_gd.mpr ⟨gb_of (by omega) (by omega), ?_⟩
    refine ok_nm2 (fun v1_48 ev1_48 => ?_)
    have qv1_48 : v1_48.toInt = (σ1_1.1 58 a2_1.toNatClampNeg).toInt := congrArg Int32.toInt ev1_48
    refine ok_ite.mpr ⟨fun h_32 => ?_, fun h_32 => ?_⟩
    · have g33 : v1_48.toInt = (0 : Int32).toInt := by rw [h_32]
      refine ok_some.mpr ?_
      refine ok_ite.mpr ⟨fun h_34 => ?_, fun h_34 => ?_⟩
      · have f35 : (1 : Int32).toInt = 1 := by decide
        have g36 : (1 : Int32).toInt = (0 : Int32).toInt := by rw [h_34]
        exfalso
        omega
      · have f37 : (1 : Int32).toInt = 1 := by decide
        have g38 : (1 : Int32).toInt ≠ (0 : Int32).toInt := fun z => h_34 (Int32.toInt_inj.mp z)
        refine ok_gd.mpr ⟨gb_of (by omega) (by omega), ?_⟩
        refine ok_gd.mpr ⟨gb_of (by omega) (by omega), ?_⟩
        refine ok_nm2 (fun v24_31_49 ev24_31_49 => ?_)
        have f39 : 0 ≤ (σ1_1.1 10 a2_1.toNatClampNeg).toInt ∧ (σ1_1.1 10 a2_1.toNatClampNeg).toInt ≤ 11 := hIσ1_1 10 _
        have qv24_31_49 : v24_31_49.toInt = (σ1_1.1 10 a2_1.toNatClampNeg).toInt := congrArg Int32.toInt ev24_31_49
        refine ok_gd.mpr ⟨gb_of (by omega) (by omega), ?_⟩
        refine ok_nm2 (fun v25_31_49 ev25_31_49 => ?_)
        have qv25_31_49 : v25_31_49.toInt = (σ1_1.1 (50 + p1.toNatClampNeg) v24_31_49.toNatClampNeg).toInt := congrArg Int32.toInt ev25_31_49
        refine ok_gd.mpr ⟨gb_of (by omega) (by omega), ?_⟩
        refine ok_gd.mpr ⟨gb_of (by omega) (by omega), ?_⟩
        refine ok_nm2 (fun v27_31_49 ev27_31_49 => ?_)
        have qv27_31_49 : v27_31_49.toInt = (σ1_1.1 (94 + p1.toNatClampNeg) a2_1.toNatClampNeg).toInt := congrArg Int32.toInt ev27_31_49
        refine ok_nm2 (fun x28_31_49 ex28_31_49 => ?_)
        have qx28_31_49 : x28_31_49.toInt = (v25_31_49 + v27_31_49).toInt := congrArg Int32.toInt ex28_31_49
        refine ok_gd.mpr ⟨gb_of (by omega) (by omega), ?_⟩
        refine ok_nm2 (fun v29_31_49 ev29_31_49 => ?_)
        have f40 : 0 ≤ (σ1_1.1 11 a2_1.toNatClampNeg).toInt ∧ (σ1_1.1 11 a2_1.toNatClampNeg).toInt ≤ 19 := hIσ1_1 11 _
        have qv29_31_49 : v29_31_49.toInt = (σ1_1.1 11 a2_1.toNatClampNeg).toInt := congrArg Int32.toInt ev29_31_49
        refine ok_gd.mpr ⟨gb_of (by omega) (by omega), ?_⟩
        refine ok_nm2 (fun v30_31_49 ev30_31_49 => ?_)
        have qv30_31_49 : v30_31_49.toInt = (σ1_1.1 15 a2_1.toNatClampNeg).toInt := congrArg Int32.toInt ev30_31_49
        refine ok_bd.mpr ((o_fX1_addPull hIσ1_1 (p1 := v29_31_49) (p2 := v30_31_49) (p3 := x28_31_49) (by omega) (by omega)).mono (fun σ32_31_49 ho_42 => ?_))
        obtain ⟨hIσ32_31_49, hcσ32_31_49⟩ := ho_42
        have hfσ32_31_49 : Fr fr_fX1_movePoints σ σ32_31_49 := Fr_c hfσ1_1 hcσ32_31_49 (by decide)
        refine ok_nm2 (fun x33_31_49 ex33_31_49 => ?_)
        have f43 : (a2_1 + (1 : Int32)).toInt = a2_1.toInt + (1 : Int32).toInt := iadd_toInt (by omega) (by omega)
        have qx33_31_49 : x33_31_49.toInt = (a2_1 + 1).toInt := congrArg Int32.toInt ex33_31_49
        exact hrec_1 _ (x33_31_49, σ32_31_49) (show (60 + 1 - x33_31_49.toInt).toNat < n_1 by omega) ⟨rfl, hIσ32_31_49, hfσ32_31_49, (show 0 ≤ x33_31_49.toInt by omega), (show x33_31_49.toInt ≤ 60 by omega)⟩
    · have g44 : v1_48.toInt ≠ (0 : Int32).toInt := fun z => h_32 (Int32.toInt_inj.mp z)
      refine ok_some.mpr ?_
      refine ok_ite.mpr ⟨fun h_45 => ?_, fun h_45 => ?_⟩
      · have g46 : (0 : Int32).toInt = (0 : Int32).toInt := by rw [h_45]
        refine ok_nm2 (fun x34_31_50 ex34_31_50 => ?_)
        have f47 : (1 : Int32).toInt = 1 := by decide
        have f48 : (a2_1 + (1 : Int32)).toInt = a2_1.toInt + (1 : Int32).toInt := iadd_toInt (by omega) (by omega)
        have qx34_31_50 : x34_31_50.toInt = (a2_1 + 1).toInt := congrArg Int32.toInt ex34_31_50
        exact hrec_1 _ (x34_31_50, σ1_1) (show (60 + 1 - x34_31_50.toInt).toNat < n_1 by omega) ⟨rfl, hIσ1_1, hfσ1_1, (show 0 ≤ x34_31_50.toInt by omega), (show x34_31_50.toInt ≤ 60 by omega)⟩
      · have g49 : (0 : Int32).toInt ≠ (0 : Int32).toInt := fun z => h_45 (Int32.toInt_inj.mp z)
        exfalso
        omega
set_option maxRecDepth 20000 in
set_option maxHeartbeats 2000000 in
theorem o_fX5_centreAt_47 {σ : gS} (hIσ : JC σ) {p1 : Int32} {p2 : Int32} (h0p1 : 0 ≤ p1.toInt) (h1p1 : p1.toInt ≤ 11) (h0p2 : 0 ≤ p2.toInt) (h1p2 : p2.toInt ≤ 1) : Ok (fX5_centreAt_47 σ p1 p2) (fun _ => True) := by
  unfold fX5_centreAt_47
  refine ok_gd.mpr ⟨gb_of (by omega) (by omega), ?_⟩
  refine ok_gd.mpr ⟨gb_of (by omega) (by omega), ?_⟩
  refine ok_nm2 (fun v2 ev2 => ?_)
  have f2 : p1.toNatClampNeg = p1.toInt.toNat := rfl
  have f2_ : (p1.toNatClampNeg = 0 ∧ 0 ≤ (σ.1 8 p1.toNatClampNeg).toInt ∧ (σ.1 8 p1.toNatClampNeg).toInt ≤ 5) ∨ (p1.toNatClampNeg = 1 ∧ 0 ≤ (σ.1 8 p1.toNatClampNeg).toInt ∧ (σ.1 8 p1.toNatClampNeg).toInt ≤ 5) ∨ (p1.toNatClampNeg = 2 ∧ 0 ≤ (σ.1 8 p1.toNatClampNeg).toInt ∧ (σ.1 8 p1.toNatClampNeg).toInt ≤ 5) ∨ (p1.toNatClampNeg = 3 ∧ 0 ≤ (σ.1 8 p1.toNatClampNeg).toInt ∧ (σ.1 8 p1.toNatClampNeg).toInt ≤ 5) ∨ (p1.toNatClampNeg = 4 ∧ 0 ≤ (σ.1 8 p1.toNatClampNeg).toInt ∧ (σ.1 8 p1.toNatClampNeg).toInt ≤ 5) ∨ (p1.toNatClampNeg = 5 ∧ 0 ≤ (σ.1 8 p1.toNatClampNeg).toInt ∧ (σ.1 8 p1.toNatClampNeg).toInt ≤ 5) ∨ (p1.toNatClampNeg = 6 ∧ 0 ≤ (σ.1 8 p1.toNatClampNeg).toInt ∧ (σ.1 8 p1.toNatClampNeg).toInt ≤ 5) ∨ (p1.toNatClampNeg = 7 ∧ 0 ≤ (σ.1 8 p1.toNatClampNeg).toInt ∧ (σ.1 8 p1.toNatClampNeg).toInt ≤ 5) ∨ (p1.toNatClampNeg = 8 ∧ 0 ≤ (σ.1 8 p1.toNatClampNeg).toInt ∧ (σ.1 8 p1.toNatClampNeg).toInt ≤ 5) ∨ (p1.toNatClampNeg = 9 ∧ 0 ≤ (σ.1 8 p1.toNatClampNeg).toInt ∧ (σ.1 8 p1.toNatClampNeg).toInt ≤ 5) ∨ (p1.toNatClampNeg = 10 ∧ 0 ≤ (σ.1 8 p1.toNatClampNeg).toInt ∧ (σ.1 8 p1.toNatClampNeg).toInt ≤ 5) ∨ (p1.toNatClampNeg = 11 ∧ 0 ≤ (σ.1 8 p1.toNatClampNeg).toInt ∧ (σ.1 8 p1.toNatClampNeg).toInt ≤ 5) := by
    have hb := hIσ 8 p1.toNatClampNeg
    have hj : p1.toNatClampNeg = 0 ∨ p1.toNatClampNeg = 1 ∨ p1.toNatClampNeg = 2 ∨ p1.toNatClampNeg = 3 ∨ p1.toNatClampNeg = 4 ∨ p1.toNatClampNeg = 5 ∨ p1.toNatClampNeg = 6 ∨ p1.toNatClampNeg = 7 ∨ p1.toNatClampNeg = 8 ∨ p1.toNatClampNeg = 9 ∨ p1.toNatClampNeg = 10 ∨ p1.toNatClampNeg = 11 := by omega
    generalize p1.toNatClampNeg = j at hb hj ⊢
    rcases hj with rfl | rfl | rfl | rfl | rfl | rfl | rfl | rfl | rfl | rfl | rfl | rfl
    · exact .inl ⟨rfl, hb.1, hb.2⟩
    · exact .inr (.inl ⟨rfl, hb.1, hb.2⟩)
    · exact .inr (.inr (.inl ⟨rfl, hb.1, hb.2⟩))
    · exact .inr (.inr (.inr (.inl ⟨rfl, hb.1, hb.2⟩)))
    · exact .inr (.inr (.inr (.inr (.inl ⟨rfl, hb.1, hb.2⟩))))
    · exact .inr (.inr (.inr (.inr (.inr (.inl ⟨rfl, hb.1, hb.2⟩)))))
    · exact .inr (.inr (.inr (.inr (.inr (.inr (.inl ⟨rfl, hb.1, hb.2⟩))))))
    · exact .inr (.inr (.inr (.inr (.inr (.inr (.inr (.inl ⟨rfl, hb.1, hb.2⟩)))))))
    · exact .inr (.inr (.inr (.inr (.inr (.inr (.inr (.inr (.inl ⟨rfl, hb.1, hb.2⟩))))))))
    · exact .inr (.inr (.inr (.inr (.inr (.inr (.inr (.inr (.inr (.inl ⟨rfl, hb.1, hb.2⟩)))))))))
    · exact .inr (.inr (.inr (.inr (.inr (.inr (.inr (.inr (.inr (.inr (.inl ⟨rfl, hb.1, hb.2⟩))))))))))
    · exact .inr (.inr (.inr (.inr (.inr (.inr (.inr (.inr (.inr (.inr (.inr (⟨rfl, hb.1, hb.2⟩)))))))))))
  have qv2 : v2.toInt = (σ.1 8 p1.toNatClampNeg).toInt := congrArg Int32.toInt ev2
  refine ok_gd.mpr ⟨gb_of (by omega) (by omega), ?_⟩
  refine ok_nm2 (fun v3 ev3 => ?_)
  have qv3 : v3.toInt = (σ.1 (56 + p2.toNatClampNeg) v2.toNatClampNeg).toInt := congrArg Int32.toInt ev3
  refine ok_gd.mpr ⟨gb_of (by omega) (by omega), ?_⟩
  refine ok_gd.mpr ⟨gb_of (by omega) (by omega), ?_⟩
  refine ok_nm2 (fun v5 ev5 => ?_)
  have qv5 : v5.toInt = (σ.1 (22 + p2.toNatClampNeg) p1.toNatClampNeg).toInt := congrArg Int32.toInt ev5
  refine ok_some.mpr ?_
  have f3 : (100 : Int32).toInt = 100 := by decide
  exact trivial
set_option maxRecDepth 20000 in
set_option maxHeartbeats 2000000 in
theorem o_fX1_movePictures {σ : gS} (hIσ : JC σ) {p1 : Int32} (h0p1 : 0 ≤ p1.toInt) (h1p1 : p1.toInt ≤ 1) : Ok (fX1_movePictures σ p1) (fun out => JC out.2 ∧ Fr fr_fX1_movePictures σ out.2 ∧ 0 ≤ out.1.toInt ∧ out.1.toInt ≤ 1) := by
  unfold fX1_movePictures
  have hfσ : Fr fr_fX1_movePictures σ σ := Fr_r
  refine ok_bd.mpr ((o_fX1_clearPulls hIσ  ).mono (fun σ2 ho_2 => ?_))
  obtain ⟨hIσ2, hcσ2⟩ := ho_2
  have hfσ2 : Fr fr_fX1_movePictures σ σ2 := Fr_c hfσ hcσ2 (by decide)
  refine ok_nm2 (fun x3 ex3 => ?_)
  have f3 : (0 : Int32).toInt = 0 := by decide
  have qx3 : x3.toInt = 0 := by rw [ex3]; decide
  refine ok_lpc (I := fun n s => n = (60 + 1 - s.1.toInt).toNat ∧ JC s.2 ∧ Fr fr_fX1_movePictures σ s.2 ∧ 0 ≤ s.1.toInt ∧ s.1.toInt ≤ 60) (fun rec6_1r n_1 s_1 hs_1 hrec_1 => ?_) K9 ((60 + 1 - x3.toInt).toNat) (x3, σ2) ⟨rfl, hIσ2, hfσ2, (show 0 ≤ x3.toInt by omega), (show x3.toInt ≤ 60 by omega)⟩ (by unfold K9; omega)
  obtain ⟨a2_1, σ1_1⟩ := s_1
  obtain ⟨hn_1, hIσ1_1, hfσ1_1, b0a2_1, b1a2_1⟩ := hs_1
  dsimp only at hn_1 hIσ1_1 hfσ1_1 b0a2_1 b1a2_1
  unfold bX1_movePictures_6
  try dsimp only
  have f4 : (3 : Int32).toInt = 3 := by decide
  refine ok_gd.mpr ⟨gb_of (by omega) (by omega), ?_⟩
  refine ok_nm2 (fun v4_29 ev4_29 => ?_)
  have f5 : 0 ≤ (σ1_1.1 3 3).toInt ∧ (σ1_1.1 3 3).toInt ≤ 60 := hIσ1_1 3 3
  have qv4_29 : v4_29.toInt = (σ1_1.1 3 3).toInt := congrArg Int32.toInt ev4_29
  refine ok_ite.mpr ⟨fun h_6 => ?_, fun h_6 => ?_⟩
  · have g7 : v4_29.toInt ≤ a2_1.toInt := Int32.le_iff_toInt_le.mp h_6
    refine ok_nm2 (fun x6_29 ex6_29 => ?_)
    have qx6_29 : x6_29.toInt = 0 := by rw [ex6_29]; decide
    refine ok_lpc (I := fun n s => n = (12 + 1 - s.1.toInt).toNat ∧ JC s.2 ∧ Fr fr_fX1_movePictures σ s.2 ∧ 0 ≤ s.1.toInt ∧ s.1.toInt ≤ 12) (fun rec93_30r n_30 s_30 hs_30 hrec_30 => ?_) K9 ((12 + 1 - x6_29.toInt).toNat) (x6_29, σ1_1) ⟨rfl, hIσ1_1, hfσ1_1, (show 0 ≤ x6_29.toInt by omega), (show x6_29.toInt ≤ 12 by omega)⟩ (by unfold K9; omega)
    obtain ⟨a2_30, σ1_30⟩ := s_30
    obtain ⟨hn_30, hIσ1_30, hfσ1_30, b0a2_30, b1a2_30⟩ := hs_30
    dsimp only at hn_30 hIσ1_30 hfσ1_30 b0a2_30 b1a2_30
    unfold bX1_movePictures_93
    try dsimp only
    have f8 : (1 : Int32).toInt = 1 := by decide
    refine ok_gd.mpr ⟨gb_of (by omega) (by omega), ?_⟩
    refine ok_nm2 (fun v7_40 ev7_40 => ?_)
    have f9 : 0 ≤ (σ1_30.1 3 1).toInt ∧ (σ1_30.1 3 1).toInt ≤ 12 := hIσ1_30 3 1
    have qv7_40 : v7_40.toInt = (σ1_30.1 3 1).toInt := congrArg Int32.toInt ev7_40
    refine ok_ite.mpr ⟨fun h_10 => ?_, fun h_10 => ?_⟩
    · have g11 : v7_40.toInt ≤ a2_30.toInt := Int32.le_iff_toInt_le.mp h_10
      refine ok_gd.mpr ⟨gb_of (by omega) (by omega), ?_⟩
      refine ok_gd.mpr ⟨gb_of (by omega) (by omega), ?_⟩
      refine ok_nm2 (fun v10_40 ev10_40 => ?_)
      have qv10_40 : v10_40.toInt = (σ1_30.1 3 1).toInt := congrArg Int32.toInt ev10_40
      have f12 : p1.toNatClampNeg = p1.toInt.toNat := rfl
      refine ok_bd2.mpr ((o_fX1_moveEach hIσ1_30 (p1 := (50 + p1.toNatClampNeg)) (p2 := v10_40) (by omega) (by omega) (by omega) (by omega) (by omega)).mono (fun o_13 ho_14 => ?_))
      obtain ⟨r12_40, σ13_40⟩ := o_13
      obtain ⟨hIσ13_40, hcσ13_40, r0r12_40, r1r12_40⟩ := ho_14
      dsimp only at hIσ13_40 hcσ13_40 r0r12_40 r1r12_40 ⊢
      have hfσ13_40 : Fr fr_fX1_movePictures σ σ13_40 := Fr_c hfσ1_30 hcσ13_40 (by decide)
      refine ok_some.mpr ?_
      have f15 : (vp_nar .boolean r12_40).toInt = r12_40.toInt := nar_bool2 (by omega) (by omega)
      exact ⟨hIσ13_40, hfσ13_40, (show 0 ≤ (vp_nar .boolean r12_40).toInt by omega), (show (vp_nar .boolean r12_40).toInt ≤ 1 by omega)⟩
    · have g16 : ¬ v7_40.toInt ≤ a2_30.toInt := fun z => h_10 (Int32.le_iff_toInt_le.mpr z)
      refine ok_gd.mpr ⟨gb_of (by omega) (by omega), ?_⟩
      refine ok_nm2 (fun v14_40 ev14_40 => ?_)
      have qv14_40 : v14_40.toInt = (σ1_30.1 20 a2_30.toNatClampNeg).toInt := congrArg Int32.toInt ev14_40
      refine ok_bd.mpr ?_
      try unfold fX5_centreAt_47
      refine ok_gd.mpr ⟨gb_of (by omega) (by omega), ?_⟩
      refine ok_gd.mpr ⟨gb_of (by omega) (by omega), ?_⟩
      refine ok_nm2 (fun v2_41 ev2_41 => ?_)
      have f18 : a2_30.toNatClampNeg = a2_30.toInt.toNat := rfl
      have f18_ : (a2_30.toNatClampNeg = 0 ∧ 0 ≤ (σ1_30.1 8 a2_30.toNatClampNeg).toInt ∧ (σ1_30.1 8 a2_30.toNatClampNeg).toInt ≤ 5) ∨ (a2_30.toNatClampNeg = 1 ∧ 0 ≤ (σ1_30.1 8 a2_30.toNatClampNeg).toInt ∧ (σ1_30.1 8 a2_30.toNatClampNeg).toInt ≤ 5) ∨ (a2_30.toNatClampNeg = 2 ∧ 0 ≤ (σ1_30.1 8 a2_30.toNatClampNeg).toInt ∧ (σ1_30.1 8 a2_30.toNatClampNeg).toInt ≤ 5) ∨ (a2_30.toNatClampNeg = 3 ∧ 0 ≤ (σ1_30.1 8 a2_30.toNatClampNeg).toInt ∧ (σ1_30.1 8 a2_30.toNatClampNeg).toInt ≤ 5) ∨ (a2_30.toNatClampNeg = 4 ∧ 0 ≤ (σ1_30.1 8 a2_30.toNatClampNeg).toInt ∧ (σ1_30.1 8 a2_30.toNatClampNeg).toInt ≤ 5) ∨ (a2_30.toNatClampNeg = 5 ∧ 0 ≤ (σ1_30.1 8 a2_30.toNatClampNeg).toInt ∧ (σ1_30.1 8 a2_30.toNatClampNeg).toInt ≤ 5) ∨ (a2_30.toNatClampNeg = 6 ∧ 0 ≤ (σ1_30.1 8 a2_30.toNatClampNeg).toInt ∧ (σ1_30.1 8 a2_30.toNatClampNeg).toInt ≤ 5) ∨ (a2_30.toNatClampNeg = 7 ∧ 0 ≤ (σ1_30.1 8 a2_30.toNatClampNeg).toInt ∧ (σ1_30.1 8 a2_30.toNatClampNeg).toInt ≤ 5) ∨ (a2_30.toNatClampNeg = 8 ∧ 0 ≤ (σ1_30.1 8 a2_30.toNatClampNeg).toInt ∧ (σ1_30.1 8 a2_30.toNatClampNeg).toInt ≤ 5) ∨ (a2_30.toNatClampNeg = 9 ∧ 0 ≤ (σ1_30.1 8 a2_30.toNatClampNeg).toInt ∧ (σ1_30.1 8 a2_30.toNatClampNeg).toInt ≤ 5) ∨ (a2_30.toNatClampNeg = 10 ∧ 0 ≤ (σ1_30.1 8 a2_30.toNatClampNeg).toInt ∧ (σ1_30.1 8 a2_30.toNatClampNeg).toInt ≤ 5) ∨ (a2_30.toNatClampNeg = 11 ∧ 0 ≤ (σ1_30.1 8 a2_30.toNatClampNeg).toInt ∧ (σ1_30.1 8 a2_30.toNatClampNeg).toInt ≤ 5) := by
        have hb := hIσ1_30 8 a2_30.toNatClampNeg
        have hj : a2_30.toNatClampNeg = 0 ∨ a2_30.toNatClampNeg = 1 ∨ a2_30.toNatClampNeg = 2 ∨ a2_30.toNatClampNeg = 3 ∨ a2_30.toNatClampNeg = 4 ∨ a2_30.toNatClampNeg = 5 ∨ a2_30.toNatClampNeg = 6 ∨ a2_30.toNatClampNeg = 7 ∨ a2_30.toNatClampNeg = 8 ∨ a2_30.toNatClampNeg = 9 ∨ a2_30.toNatClampNeg = 10 ∨ a2_30.toNatClampNeg = 11 := by omega
        generalize a2_30.toNatClampNeg = j at hb hj ⊢
        rcases hj with rfl | rfl | rfl | rfl | rfl | rfl | rfl | rfl | rfl | rfl | rfl | rfl
        · exact .inl ⟨rfl, hb.1, hb.2⟩
        · exact .inr (.inl ⟨rfl, hb.1, hb.2⟩)
        · exact .inr (.inr (.inl ⟨rfl, hb.1, hb.2⟩))
        · exact .inr (.inr (.inr (.inl ⟨rfl, hb.1, hb.2⟩)))
        · exact .inr (.inr (.inr (.inr (.inl ⟨rfl, hb.1, hb.2⟩))))
        · exact .inr (.inr (.inr (.inr (.inr (.inl ⟨rfl, hb.1, hb.2⟩)))))
        · exact .inr (.inr (.inr (.inr (.inr (.inr (.inl ⟨rfl, hb.1, hb.2⟩))))))
        · exact .inr (.inr (.inr (.inr (.inr (.inr (.inr (.inl ⟨rfl, hb.1, hb.2⟩)))))))
        · exact .inr (.inr (.inr (.inr (.inr (.inr (.inr (.inr (.inl ⟨rfl, hb.1, hb.2⟩))))))))
        · exact .inr (.inr (.inr (.inr (.inr (.inr (.inr (.inr (.inr (.inl ⟨rfl, hb.1, hb.2⟩)))))))))
        · exact .inr (.inr (.inr (.inr (.inr (.inr (.inr (.inr (.inr (.inr (.inl ⟨rfl, hb.1, hb.2⟩))))))))))
        · exact .inr (.inr (.inr (.inr (.inr (.inr (.inr (.inr (.inr (.inr (.inr (⟨rfl, hb.1, hb.2⟩)))))))))))
      have qv2_41 : v2_41.toInt = (σ1_30.1 8 a2_30.toNatClampNeg).toInt := congrArg Int32.toInt ev2_41
      refine ok_gd.mpr ⟨gb_of (by omega) (by omega), ?_⟩
      refine ok_nm2 (fun v3_41 ev3_41 => ?_)
      have qv3_41 : v3_41.toInt = (σ1_30.1 (56 + p1.toNatClampNeg) v2_41.toNatClampNeg).toInt := congrArg Int32.toInt ev3_41
      refine ok_gd.mpr ⟨gb_of (by omega) (by omega), ?_⟩
      refine ok_gd.mpr ⟨gb_of (by omega) (by omega), ?_⟩
      refine ok_nm2 (fun v5_41 ev5_41 => ?_)
      have qv5_41 : v5_41.toInt = (σ1_30.1 (22 + p1.toNatClampNeg) a2_30.toNatClampNeg).toInt := congrArg Int32.toInt ev5_41
      refine ok_some.mpr ?_
      have f19 : (100 : Int32).toInt = 100 := by decide
      refine ok_bd.mpr ((o_fX1_addPull hIσ1_30 (p1 := a2_30) (p2 := v14_40) (p3 := (v3_41 + (100 * v5_41))) (by omega) (by omega)).mono (fun σ18_40_42 ho_21 => ?_))
      obtain ⟨hIσ18_40_42, hcσ18_40_42⟩ := ho_21
      have hfσ18_40_42 : Fr fr_fX1_movePictures σ σ18_40_42 := Fr_c hfσ1_30 hcσ18_40_42 (by decide)
      refine ok_nm2 (fun x19_40_42 ex19_40_42 => ?_)
      have f22 : (a2_30 + (1 : Int32)).toInt = a2_30.toInt + (1 : Int32).toInt := iadd_toInt (by omega) (by omega)
      have qx19_40_42 : x19_40_42.toInt = (a2_30 + 1).toInt := congrArg Int32.toInt ex19_40_42
      exact hrec_30 _ (x19_40_42, σ18_40_42) (show (12 + 1 - x19_40_42.toInt).toNat < n_30 by omega) ⟨rfl, hIσ18_40_42, hfσ18_40_42, (show 0 ≤ x19_40_42.toInt by omega), (show x19_40_42.toInt ≤ 12 by omega)⟩
  · have g23 : ¬ v4_29.toInt ≤ a2_1.toInt := fun z => h_6 (Int32.le_iff_toInt_le.mpr z)
    refine ok_bd.mpr ?_
    try unfold fX5_uses_47
    refine ok_gd.mpr ⟨gb_of (by omega) (by omega), ?_⟩
    refine ok_nm2 (fun v1_43 ev1_43 => ?_)
    have qv1_43 : v1_43.toInt = (σ1_1.1 58 a2_1.toNatClampNeg).toInt := congrArg Int32.toInt ev1_43
    refine ok_ite.mpr ⟨fun h_24 => ?_, fun h_24 => ?_⟩
    · have g25 : v1_43.toInt = (0 : Int32).toInt := by rw [h_24]
      refine ok_some.mpr ?_
      refine ok_ite.mpr ⟨fun h_26 => ?_, fun h_26 => ?_⟩
      · have f27 : (1 : Int32).toInt = 1 := by decide
        have g28 : (1 : Int32).toInt = (0 : Int32).toInt := by rw [h_26]
        exfalso
        omega
      · have f29 : (1 : Int32).toInt = 1 := by decide
        have g30 : (1 : Int32).toInt ≠ (0 : Int32).toInt := fun z => h_26 (Int32.toInt_inj.mp z)
        refine ok_gd.mpr ⟨gb_of (by omega) (by omega), ?_⟩
        refine ok_gd.mpr ⟨gb_of (by omega) (by omega), ?_⟩
        refine ok_nm2 (fun v24_29_44 ev24_29_44 => ?_)
        have f31 : 0 ≤ (σ1_1.1 11 a2_1.toNatClampNeg).toInt ∧ (σ1_1.1 11 a2_1.toNatClampNeg).toInt ≤ 19 := hIσ1_1 11 _
        have qv24_29_44 : v24_29_44.toInt = (σ1_1.1 11 a2_1.toNatClampNeg).toInt := congrArg Int32.toInt ev24_29_44
        refine ok_gd.mpr ⟨gb_of (by omega) (by omega), ?_⟩
        refine ok_nm2 (fun v25_29_44 ev25_29_44 => ?_)
        have qv25_29_44 : v25_29_44.toInt = (σ1_1.1 (53 + p1.toNatClampNeg) v24_29_44.toNatClampNeg).toInt := congrArg Int32.toInt ev25_29_44
        refine ok_gd.mpr ⟨gb_of (by omega) (by omega), ?_⟩
        refine ok_gd.mpr ⟨gb_of (by omega) (by omega), ?_⟩
        refine ok_nm2 (fun v27_29_44 ev27_29_44 => ?_)
        have qv27_29_44 : v27_29_44.toInt = (σ1_1.1 (94 + p1.toNatClampNeg) a2_1.toNatClampNeg).toInt := congrArg Int32.toInt ev27_29_44
        refine ok_nm2 (fun x28_29_44 ex28_29_44 => ?_)
        have qx28_29_44 : x28_29_44.toInt = (v25_29_44 - v27_29_44).toInt := congrArg Int32.toInt ex28_29_44
        refine ok_gd.mpr ⟨gb_of (by omega) (by omega), ?_⟩
        refine ok_nm2 (fun v29_29_44 ev29_29_44 => ?_)
        have f32 : 0 ≤ (σ1_1.1 10 a2_1.toNatClampNeg).toInt ∧ (σ1_1.1 10 a2_1.toNatClampNeg).toInt ≤ 11 := hIσ1_1 10 _
        have qv29_29_44 : v29_29_44.toInt = (σ1_1.1 10 a2_1.toNatClampNeg).toInt := congrArg Int32.toInt ev29_29_44
        refine ok_gd.mpr ⟨gb_of (by omega) (by omega), ?_⟩
        refine ok_nm2 (fun v30_29_44 ev30_29_44 => ?_)
        have qv30_29_44 : v30_29_44.toInt = (σ1_1.1 15 a2_1.toNatClampNeg).toInt := congrArg Int32.toInt ev30_29_44
        refine ok_bd.mpr ((o_fX1_addPull hIσ1_1 (p1 := v29_29_44) (p2 := v30_29_44) (p3 := x28_29_44) (by omega) (by omega)).mono (fun σ32_29_44 ho_34 => ?_))
        obtain ⟨hIσ32_29_44, hcσ32_29_44⟩ := ho_34
        have hfσ32_29_44 : Fr fr_fX1_movePictures σ σ32_29_44 := Fr_c hfσ1_1 hcσ32_29_44 (by decide)
        refine ok_nm2 (fun x33_29_44 ex33_29_44 => ?_)
        have f35 : (a2_1 + (1 : Int32)).toInt = a2_1.toInt + (1 : Int32).toInt := iadd_toInt (by omega) (by omega)
        have qx33_29_44 : x33_29_44.toInt = (a2_1 + 1).toInt := congrArg Int32.toInt ex33_29_44
        exact hrec_1 _ (x33_29_44, σ32_29_44) (show (60 + 1 - x33_29_44.toInt).toNat < n_1 by omega) ⟨rfl, hIσ32_29_44, hfσ32_29_44, (show 0 ≤ x33_29_44.toInt by omega), (show x33_29_44.toInt ≤ 60 by omega)⟩
    · have g36 : v1_43.toInt ≠ (0 : Int32).toInt := fun z => h_24 (Int32.toInt_inj.mp z)
      refine ok_some.mpr ?_
      refine ok_ite.mpr ⟨fun h_37 => ?_, fun h_37 => ?_⟩
      · have g38 : (0 : Int32).toInt = (0 : Int32).toInt := by rw [h_37]
        refine ok_nm2 (fun x34_29_45 ex34_29_45 => ?_)
        have f39 : (1 : Int32).toInt = 1 := by decide
        have f40 : (a2_1 + (1 : Int32)).toInt = a2_1.toInt + (1 : Int32).toInt := iadd_toInt (by omega) (by omega)
        have qx34_29_45 : x34_29_45.toInt = (a2_1 + 1).toInt := congrArg Int32.toInt ex34_29_45
        exact hrec_1 _ (x34_29_45, σ1_1) (show (60 + 1 - x34_29_45.toInt).toNat < n_1 by omega) ⟨rfl, hIσ1_1, hfσ1_1, (show 0 ≤ x34_29_45.toInt by omega), (show x34_29_45.toInt ≤ 60 by omega)⟩
      · have g41 : (0 : Int32).toInt ≠ (0 : Int32).toInt := fun z => h_37 (Int32.toInt_inj.mp z)
        exfalso
        omega
set_option maxRecDepth 20000 in
set_option maxHeartbeats 2000000 in
theorem o_fX1_moveDrifts {σ : gS} (hIσ : JC σ) {p1 : Int32} (h0p1 : 0 ≤ p1.toInt) (h1p1 : p1.toInt ≤ 1) : Ok (fX1_moveDrifts σ p1) (fun out => JC out.2 ∧ Fr fr_fX1_moveDrifts σ out.2 ∧ 0 ≤ out.1.toInt ∧ out.1.toInt ≤ 1) := by
  unfold fX1_moveDrifts
  have hfσ : Fr fr_fX1_moveDrifts σ σ := Fr_r
  refine ok_bd.mpr ((o_fX1_clearPulls hIσ  ).mono (fun σ2 ho_2 => ?_))
  obtain ⟨hIσ2, hcσ2⟩ := ho_2
  have hfσ2 : Fr fr_fX1_moveDrifts σ σ2 := Fr_c hfσ hcσ2 (by decide)
  refine ok_nm2 (fun x3 ex3 => ?_)
  have f3 : (0 : Int32).toInt = 0 := by decide
  have qx3 : x3.toInt = 0 := by rw [ex3]; decide
  refine ok_lpc (I := fun n s => n = (12 + 1 - s.1.toInt).toNat ∧ JC s.2 ∧ Fr fr_fX1_moveDrifts σ s.2 ∧ 0 ≤ s.1.toInt ∧ s.1.toInt ≤ 12) (fun rec6_1r n_1 s_1 hs_1 hrec_1 => ?_) K9 ((12 + 1 - x3.toInt).toNat) (x3, σ2) ⟨rfl, hIσ2, hfσ2, (show 0 ≤ x3.toInt by omega), (show x3.toInt ≤ 12 by omega)⟩ (by unfold K9; omega)
  obtain ⟨a2_1, σ1_1⟩ := s_1
  obtain ⟨hn_1, hIσ1_1, hfσ1_1, b0a2_1, b1a2_1⟩ := hs_1
  dsimp only at hn_1 hIσ1_1 hfσ1_1 b0a2_1 b1a2_1
  unfold bX1_moveDrifts_6
  try dsimp only
  have f4 : (1 : Int32).toInt = 1 := by decide
  refine ok_gd.mpr ⟨gb_of (by omega) (by omega), ?_⟩
  refine ok_nm2 (fun v4_2 ev4_2 => ?_)
  have f5 : 0 ≤ (σ1_1.1 3 1).toInt ∧ (σ1_1.1 3 1).toInt ≤ 12 := hIσ1_1 3 1
  have qv4_2 : v4_2.toInt = (σ1_1.1 3 1).toInt := congrArg Int32.toInt ev4_2
  refine ok_ite.mpr ⟨fun h_6 => ?_, fun h_6 => ?_⟩
  · have g7 : v4_2.toInt ≤ a2_1.toInt := Int32.le_iff_toInt_le.mp h_6
    refine ok_gd.mpr ⟨gb_of (by omega) (by omega), ?_⟩
    refine ok_gd.mpr ⟨gb_of (by omega) (by omega), ?_⟩
    refine ok_nm2 (fun v7_2 ev7_2 => ?_)
    have f8 : 0 ≤ (σ1_1.1 3 0).toInt ∧ (σ1_1.1 3 0).toInt ≤ 6 := hIσ1_1 3 0
    have qv7_2 : v7_2.toInt = (σ1_1.1 3 0).toInt := congrArg Int32.toInt ev7_2
    have f9 : p1.toNatClampNeg = p1.toInt.toNat := rfl
    refine ok_bd2.mpr ((o_fX1_moveEach hIσ1_1 (p1 := (56 + p1.toNatClampNeg)) (p2 := v7_2) (by omega) (by omega) (by omega) (by omega) (by omega)).mono (fun o_10 ho_11 => ?_))
    obtain ⟨r9_2, σ10_2⟩ := o_10
    obtain ⟨hIσ10_2, hcσ10_2, r0r9_2, r1r9_2⟩ := ho_11
    dsimp only at hIσ10_2 hcσ10_2 r0r9_2 r1r9_2 ⊢
    have hfσ10_2 : Fr fr_fX1_moveDrifts σ σ10_2 := Fr_c hfσ1_1 hcσ10_2 (by decide)
    refine ok_some.mpr ?_
    have f12 : (vp_nar .boolean r9_2).toInt = r9_2.toInt := nar_bool2 (by omega) (by omega)
    exact ⟨hIσ10_2, hfσ10_2, (show 0 ≤ (vp_nar .boolean r9_2).toInt by omega), (show (vp_nar .boolean r9_2).toInt ≤ 1 by omega)⟩
  · have g13 : ¬ v4_2.toInt ≤ a2_1.toInt := fun z => h_6 (Int32.le_iff_toInt_le.mpr z)
    refine ok_gd.mpr ⟨gb_of (by omega) (by omega), ?_⟩
    refine ok_gd.mpr ⟨gb_of (by omega) (by omega), ?_⟩
    refine ok_nm2 (fun v12_2 ev12_2 => ?_)
    have qv12_2 : v12_2.toInt = (σ1_1.1 (50 + p1.toNatClampNeg) a2_1.toNatClampNeg).toInt := congrArg Int32.toInt ev12_2
    refine ok_gd.mpr ⟨gb_of (by omega) (by omega), ?_⟩
    refine ok_gd.mpr ⟨gb_of (by omega) (by omega), ?_⟩
    refine ok_nm2 (fun v14_2 ev14_2 => ?_)
    have qv14_2 : v14_2.toInt = (σ1_1.1 (22 + p1.toNatClampNeg) a2_1.toNatClampNeg).toInt := congrArg Int32.toInt ev14_2
    refine ok_nm2 (fun x15_2 ex15_2 => ?_)
    have f14 : (100 : Int32).toInt = 100 := by decide
    have qx15_2 : x15_2.toInt = (v12_2 - (100 * v14_2)).toInt := congrArg Int32.toInt ex15_2
    refine ok_gd.mpr ⟨gb_of (by omega) (by omega), ?_⟩
    refine ok_nm2 (fun v16_2 ev16_2 => ?_)
    have f16 : a2_1.toNatClampNeg = a2_1.toInt.toNat := rfl
    have f16_ : (a2_1.toNatClampNeg = 0 ∧ 0 ≤ (σ1_1.1 8 a2_1.toNatClampNeg).toInt ∧ (σ1_1.1 8 a2_1.toNatClampNeg).toInt ≤ 5) ∨ (a2_1.toNatClampNeg = 1 ∧ 0 ≤ (σ1_1.1 8 a2_1.toNatClampNeg).toInt ∧ (σ1_1.1 8 a2_1.toNatClampNeg).toInt ≤ 5) ∨ (a2_1.toNatClampNeg = 2 ∧ 0 ≤ (σ1_1.1 8 a2_1.toNatClampNeg).toInt ∧ (σ1_1.1 8 a2_1.toNatClampNeg).toInt ≤ 5) ∨ (a2_1.toNatClampNeg = 3 ∧ 0 ≤ (σ1_1.1 8 a2_1.toNatClampNeg).toInt ∧ (σ1_1.1 8 a2_1.toNatClampNeg).toInt ≤ 5) ∨ (a2_1.toNatClampNeg = 4 ∧ 0 ≤ (σ1_1.1 8 a2_1.toNatClampNeg).toInt ∧ (σ1_1.1 8 a2_1.toNatClampNeg).toInt ≤ 5) ∨ (a2_1.toNatClampNeg = 5 ∧ 0 ≤ (σ1_1.1 8 a2_1.toNatClampNeg).toInt ∧ (σ1_1.1 8 a2_1.toNatClampNeg).toInt ≤ 5) ∨ (a2_1.toNatClampNeg = 6 ∧ 0 ≤ (σ1_1.1 8 a2_1.toNatClampNeg).toInt ∧ (σ1_1.1 8 a2_1.toNatClampNeg).toInt ≤ 5) ∨ (a2_1.toNatClampNeg = 7 ∧ 0 ≤ (σ1_1.1 8 a2_1.toNatClampNeg).toInt ∧ (σ1_1.1 8 a2_1.toNatClampNeg).toInt ≤ 5) ∨ (a2_1.toNatClampNeg = 8 ∧ 0 ≤ (σ1_1.1 8 a2_1.toNatClampNeg).toInt ∧ (σ1_1.1 8 a2_1.toNatClampNeg).toInt ≤ 5) ∨ (a2_1.toNatClampNeg = 9 ∧ 0 ≤ (σ1_1.1 8 a2_1.toNatClampNeg).toInt ∧ (σ1_1.1 8 a2_1.toNatClampNeg).toInt ≤ 5) ∨ (a2_1.toNatClampNeg = 10 ∧ 0 ≤ (σ1_1.1 8 a2_1.toNatClampNeg).toInt ∧ (σ1_1.1 8 a2_1.toNatClampNeg).toInt ≤ 5) ∨ (a2_1.toNatClampNeg = 11 ∧ 0 ≤ (σ1_1.1 8 a2_1.toNatClampNeg).toInt ∧ (σ1_1.1 8 a2_1.toNatClampNeg).toInt ≤ 5) := by
      have hb := hIσ1_1 8 a2_1.toNatClampNeg
      have hj : a2_1.toNatClampNeg = 0 ∨ a2_1.toNatClampNeg = 1 ∨ a2_1.toNatClampNeg = 2 ∨ a2_1.toNatClampNeg = 3 ∨ a2_1.toNatClampNeg = 4 ∨ a2_1.toNatClampNeg = 5 ∨ a2_1.toNatClampNeg = 6 ∨ a2_1.toNatClampNeg = 7 ∨ a2_1.toNatClampNeg = 8 ∨ a2_1.toNatClampNeg = 9 ∨ a2_1.toNatClampNeg = 10 ∨ a2_1.toNatClampNeg = 11 := by omega
      generalize a2_1.toNatClampNeg = j at hb hj ⊢
      rcases hj with rfl | rfl | rfl | rfl | rfl | rfl | rfl | rfl | rfl | rfl | rfl | rfl
      · exact .inl ⟨rfl, hb.1, hb.2⟩
      · exact .inr (.inl ⟨rfl, hb.1, hb.2⟩)
      · exact .inr (.inr (.inl ⟨rfl, hb.1, hb.2⟩))
      · exact .inr (.inr (.inr (.inl ⟨rfl, hb.1, hb.2⟩)))
      · exact .inr (.inr (.inr (.inr (.inl ⟨rfl, hb.1, hb.2⟩))))
      · exact .inr (.inr (.inr (.inr (.inr (.inl ⟨rfl, hb.1, hb.2⟩)))))
      · exact .inr (.inr (.inr (.inr (.inr (.inr (.inl ⟨rfl, hb.1, hb.2⟩))))))
      · exact .inr (.inr (.inr (.inr (.inr (.inr (.inr (.inl ⟨rfl, hb.1, hb.2⟩)))))))
      · exact .inr (.inr (.inr (.inr (.inr (.inr (.inr (.inr (.inl ⟨rfl, hb.1, hb.2⟩))))))))
      · exact .inr (.inr (.inr (.inr (.inr (.inr (.inr (.inr (.inr (.inl ⟨rfl, hb.1, hb.2⟩)))))))))
      · exact .inr (.inr (.inr (.inr (.inr (.inr (.inr (.inr (.inr (.inr (.inl ⟨rfl, hb.1, hb.2⟩))))))))))
      · exact .inr (.inr (.inr (.inr (.inr (.inr (.inr (.inr (.inr (.inr (.inr (⟨rfl, hb.1, hb.2⟩)))))))))))
    have qv16_2 : v16_2.toInt = (σ1_1.1 8 a2_1.toNatClampNeg).toInt := congrArg Int32.toInt ev16_2
    refine ok_gd.mpr ⟨gb_of (by omega) (by omega), ?_⟩
    refine ok_nm2 (fun v17_2 ev17_2 => ?_)
    have qv17_2 : v17_2.toInt = (σ1_1.1 20 a2_1.toNatClampNeg).toInt := congrArg Int32.toInt ev17_2
    refine ok_bd.mpr ((o_fX1_addPull hIσ1_1 (p1 := v16_2) (p2 := v17_2) (p3 := x15_2) (by omega) (by omega)).mono (fun σ19_2 ho_18 => ?_))
    obtain ⟨hIσ19_2, hcσ19_2⟩ := ho_18
    have hfσ19_2 : Fr fr_fX1_moveDrifts σ σ19_2 := Fr_c hfσ1_1 hcσ19_2 (by decide)
    refine ok_nm2 (fun x20_2 ex20_2 => ?_)
    have f19 : (a2_1 + (1 : Int32)).toInt = a2_1.toInt + (1 : Int32).toInt := iadd_toInt (by omega) (by omega)
    have qx20_2 : x20_2.toInt = (a2_1 + 1).toInt := congrArg Int32.toInt ex20_2
    exact hrec_1 _ (x20_2, σ19_2) (show (12 + 1 - x20_2.toInt).toNat < n_1 by omega) ⟨rfl, hIσ19_2, hfσ19_2, (show 0 ≤ x20_2.toInt by omega), (show x20_2.toInt ≤ 12 by omega)⟩
set_option maxRecDepth 20000 in
set_option maxHeartbeats 2000000 in
theorem o_fX1_makeRound {σ : gS} (hIσ : JC σ)   : Ok (fX1_makeRound σ ) (fun out => JC out.2 ∧ Fr fr_fX1_makeRound σ out.2 ∧ 0 ≤ out.1.toInt ∧ out.1.toInt ≤ 1) := by
  unfold fX1_makeRound
  have hfσ : Fr fr_fX1_makeRound σ σ := Fr_r
  refine ok_nm2 (fun x1 ex1 => ?_)
  have f1 : (0 : Int32).toInt = 0 := by decide
  have qx1 : x1.toInt = 0 := by rw [ex1]; decide
  refine ok_nm2 (fun x2 ex2 => ?_)
  have qx2 : x2.toInt = 0 := by rw [ex2]; decide
  refine ok_lpc (I := fun n s => n = (3 + 1 - s.2.1.toInt).toNat ∧ JC s.2.2 ∧ Fr fr_fX1_makeRound σ s.2.2 ∧ 0 ≤ s.1.toInt ∧ s.1.toInt ≤ 1 ∧ 0 ≤ s.2.1.toInt ∧ s.2.1.toInt ≤ 3) (fun rec4_1r n_1 s_1 hs_1 hrec_1 => ?_) K9 ((3 + 1 - x2.toInt).toNat) (x1, x2, σ) ⟨rfl, hIσ, hfσ, (show 0 ≤ x1.toInt by omega), (show x1.toInt ≤ 1 by omega), (show 0 ≤ x2.toInt by omega), (show x2.toInt ≤ 3 by omega)⟩ (by unfold K9; omega)
  obtain ⟨a1_1, a2_1, σ1_1⟩ := s_1
  obtain ⟨hn_1, hIσ1_1, hfσ1_1, b0a1_1, b1a1_1, b0a2_1, b1a2_1⟩ := hs_1
  dsimp only at hn_1 hIσ1_1 hfσ1_1 b0a1_1 b1a1_1 b0a2_1 b1a2_1
  unfold bX1_makeRound_4
  try dsimp only
  refine ok_ite.mpr ⟨fun h_2 => ?_, fun h_2 => ?_⟩
  · have f3 : (2 : Int32).toInt = 2 := by decide
    have g4 : (2 : Int32).toInt ≤ a2_1.toInt := Int32.le_iff_toInt_le.mp h_2
    refine ok_some.mpr ?_
    have f5 : (vp_nar .boolean a1_1).toInt = a1_1.toInt := nar_bool2 (by omega) (by omega)
    exact ⟨hIσ1_1, hfσ1_1, (show 0 ≤ (vp_nar .boolean a1_1).toInt by omega), (show (vp_nar .boolean a1_1).toInt ≤ 1 by omega)⟩
  · have f6 : (2 : Int32).toInt = 2 := by decide
    have g7 : ¬ (2 : Int32).toInt ≤ a2_1.toInt := fun z => h_2 (Int32.le_iff_toInt_le.mpr z)
    refine ok_bd2.mpr ((o_fX1_movePoints hIσ1_1 (p1 := a2_1) (by omega) (by omega)).mono (fun o_8 ho_9 => ?_))
    obtain ⟨r5_2, σ6_2⟩ := o_8
    obtain ⟨hIσ6_2, hcσ6_2, r0r5_2, r1r5_2⟩ := ho_9
    dsimp only at hIσ6_2 hcσ6_2 r0r5_2 r1r5_2 ⊢
    have hfσ6_2 : Fr fr_fX1_makeRound σ σ6_2 := Fr_c hfσ1_1 hcσ6_2 (by decide)
    refine ok_ite.mpr ⟨fun h_10 => ?_, fun h_10 => ?_⟩
    · have g11 : r5_2.toInt = (0 : Int32).toInt := by rw [h_10]
      try unfold jX1_makeRound_19
      refine ok_bd2.mpr ((o_fX1_movePictures hIσ6_2 (p1 := a2_1) (by omega) (by omega)).mono (fun o_12 ho_13 => ?_))
      obtain ⟨r9_9, σ10_9⟩ := o_12
      obtain ⟨hIσ10_9, hcσ10_9, r0r9_9, r1r9_9⟩ := ho_13
      dsimp only at hIσ10_9 hcσ10_9 r0r9_9 r1r9_9 ⊢
      have hfσ10_9 : Fr fr_fX1_makeRound σ σ10_9 := Fr_c hfσ6_2 hcσ10_9 (by decide)
      refine ok_ite.mpr ⟨fun h_14 => ?_, fun h_14 => ?_⟩
      · have g15 : r9_9.toInt = (0 : Int32).toInt := by rw [h_14]
        try unfold jX1_makeRound_29
        refine ok_bd2.mpr ((o_fX1_moveDrifts hIσ10_9 (p1 := a2_1) (by omega) (by omega)).mono (fun o_16 ho_17 => ?_))
        obtain ⟨r13_10, σ14_10⟩ := o_16
        obtain ⟨hIσ14_10, hcσ14_10, r0r13_10, r1r13_10⟩ := ho_17
        dsimp only at hIσ14_10 hcσ14_10 r0r13_10 r1r13_10 ⊢
        have hfσ14_10 : Fr fr_fX1_makeRound σ σ14_10 := Fr_c hfσ10_9 hcσ14_10 (by decide)
        refine ok_ite.mpr ⟨fun h_18 => ?_, fun h_18 => ?_⟩
        · have g19 : r13_10.toInt = (0 : Int32).toInt := by rw [h_18]
          refine ok_nm2 (fun x16_10 ex16_10 => ?_)
          have f20 : (1 : Int32).toInt = 1 := by decide
          have f21 : (a2_1 + (1 : Int32)).toInt = a2_1.toInt + (1 : Int32).toInt := iadd_toInt (by omega) (by omega)
          have qx16_10 : x16_10.toInt = (a2_1 + 1).toInt := congrArg Int32.toInt ex16_10
          exact hrec_1 _ (a1_1, x16_10, σ14_10) (show (3 + 1 - x16_10.toInt).toNat < n_1 by omega) ⟨rfl, hIσ14_10, hfσ14_10, (show 0 ≤ a1_1.toInt by omega), (show a1_1.toInt ≤ 1 by omega), (show 0 ≤ x16_10.toInt by omega), (show x16_10.toInt ≤ 3 by omega)⟩
        · have g22 : r13_10.toInt ≠ (0 : Int32).toInt := fun z => h_18 (Int32.toInt_inj.mp z)
          refine ok_nm2 (fun x17_10 ex17_10 => ?_)
          have f23 : (1 : Int32).toInt = 1 := by decide
          have qx17_10 : x17_10.toInt = 1 := by rw [ex17_10]; decide
          refine ok_nm2 (fun x18_10 ex18_10 => ?_)
          have f24 : (a2_1 + (1 : Int32)).toInt = a2_1.toInt + (1 : Int32).toInt := iadd_toInt (by omega) (by omega)
          have qx18_10 : x18_10.toInt = (a2_1 + 1).toInt := congrArg Int32.toInt ex18_10
          exact hrec_1 _ (x17_10, x18_10, σ14_10) (show (3 + 1 - x18_10.toInt).toNat < n_1 by omega) ⟨rfl, hIσ14_10, hfσ14_10, (show 0 ≤ x17_10.toInt by omega), (show x17_10.toInt ≤ 1 by omega), (show 0 ≤ x18_10.toInt by omega), (show x18_10.toInt ≤ 3 by omega)⟩
      · have g25 : r9_9.toInt ≠ (0 : Int32).toInt := fun z => h_14 (Int32.toInt_inj.mp z)
        refine ok_nm2 (fun x19_9 ex19_9 => ?_)
        have f26 : (1 : Int32).toInt = 1 := by decide
        have qx19_9 : x19_9.toInt = 1 := by rw [ex19_9]; decide
        try unfold jX1_makeRound_29
        refine ok_bd2.mpr ((o_fX1_moveDrifts hIσ10_9 (p1 := a2_1) (by omega) (by omega)).mono (fun o_27 ho_28 => ?_))
        obtain ⟨r13_11, σ14_11⟩ := o_27
        obtain ⟨hIσ14_11, hcσ14_11, r0r13_11, r1r13_11⟩ := ho_28
        dsimp only at hIσ14_11 hcσ14_11 r0r13_11 r1r13_11 ⊢
        have hfσ14_11 : Fr fr_fX1_makeRound σ σ14_11 := Fr_c hfσ10_9 hcσ14_11 (by decide)
        refine ok_ite.mpr ⟨fun h_29 => ?_, fun h_29 => ?_⟩
        · have g30 : r13_11.toInt = (0 : Int32).toInt := by rw [h_29]
          refine ok_nm2 (fun x16_11 ex16_11 => ?_)
          have f31 : (a2_1 + (1 : Int32)).toInt = a2_1.toInt + (1 : Int32).toInt := iadd_toInt (by omega) (by omega)
          have qx16_11 : x16_11.toInt = (a2_1 + 1).toInt := congrArg Int32.toInt ex16_11
          exact hrec_1 _ (x19_9, x16_11, σ14_11) (show (3 + 1 - x16_11.toInt).toNat < n_1 by omega) ⟨rfl, hIσ14_11, hfσ14_11, (show 0 ≤ x19_9.toInt by omega), (show x19_9.toInt ≤ 1 by omega), (show 0 ≤ x16_11.toInt by omega), (show x16_11.toInt ≤ 3 by omega)⟩
        · have g32 : r13_11.toInt ≠ (0 : Int32).toInt := fun z => h_29 (Int32.toInt_inj.mp z)
          refine ok_nm2 (fun x17_11 ex17_11 => ?_)
          have qx17_11 : x17_11.toInt = 1 := by rw [ex17_11]; decide
          refine ok_nm2 (fun x18_11 ex18_11 => ?_)
          have f33 : (a2_1 + (1 : Int32)).toInt = a2_1.toInt + (1 : Int32).toInt := iadd_toInt (by omega) (by omega)
          have qx18_11 : x18_11.toInt = (a2_1 + 1).toInt := congrArg Int32.toInt ex18_11
          exact hrec_1 _ (x17_11, x18_11, σ14_11) (show (3 + 1 - x18_11.toInt).toNat < n_1 by omega) ⟨rfl, hIσ14_11, hfσ14_11, (show 0 ≤ x17_11.toInt by omega), (show x17_11.toInt ≤ 1 by omega), (show 0 ≤ x18_11.toInt by omega), (show x18_11.toInt ≤ 3 by omega)⟩
    · have g34 : r5_2.toInt ≠ (0 : Int32).toInt := fun z => h_10 (Int32.toInt_inj.mp z)
      refine ok_nm2 (fun x20_2 ex20_2 => ?_)
      have f35 : (1 : Int32).toInt = 1 := by decide
      have qx20_2 : x20_2.toInt = 1 := by rw [ex20_2]; decide
      try unfold jX1_makeRound_19
      refine ok_bd2.mpr ((o_fX1_movePictures hIσ6_2 (p1 := a2_1) (by omega) (by omega)).mono (fun o_36 ho_37 => ?_))
      obtain ⟨r9_12, σ10_12⟩ := o_36
      obtain ⟨hIσ10_12, hcσ10_12, r0r9_12, r1r9_12⟩ := ho_37
      dsimp only at hIσ10_12 hcσ10_12 r0r9_12 r1r9_12 ⊢
      have hfσ10_12 : Fr fr_fX1_makeRound σ σ10_12 := Fr_c hfσ6_2 hcσ10_12 (by decide)
      refine ok_ite.mpr ⟨fun h_38 => ?_, fun h_38 => ?_⟩
      · have g39 : r9_12.toInt = (0 : Int32).toInt := by rw [h_38]
        try unfold jX1_makeRound_29
        refine ok_bd2.mpr ((o_fX1_moveDrifts hIσ10_12 (p1 := a2_1) (by omega) (by omega)).mono (fun o_40 ho_41 => ?_))
        obtain ⟨r13_13, σ14_13⟩ := o_40
        obtain ⟨hIσ14_13, hcσ14_13, r0r13_13, r1r13_13⟩ := ho_41
        dsimp only at hIσ14_13 hcσ14_13 r0r13_13 r1r13_13 ⊢
        have hfσ14_13 : Fr fr_fX1_makeRound σ σ14_13 := Fr_c hfσ10_12 hcσ14_13 (by decide)
        refine ok_ite.mpr ⟨fun h_42 => ?_, fun h_42 => ?_⟩
        · have g43 : r13_13.toInt = (0 : Int32).toInt := by rw [h_42]
          refine ok_nm2 (fun x16_13 ex16_13 => ?_)
          have f44 : (a2_1 + (1 : Int32)).toInt = a2_1.toInt + (1 : Int32).toInt := iadd_toInt (by omega) (by omega)
          have qx16_13 : x16_13.toInt = (a2_1 + 1).toInt := congrArg Int32.toInt ex16_13
          exact hrec_1 _ (x20_2, x16_13, σ14_13) (show (3 + 1 - x16_13.toInt).toNat < n_1 by omega) ⟨rfl, hIσ14_13, hfσ14_13, (show 0 ≤ x20_2.toInt by omega), (show x20_2.toInt ≤ 1 by omega), (show 0 ≤ x16_13.toInt by omega), (show x16_13.toInt ≤ 3 by omega)⟩
        · have g45 : r13_13.toInt ≠ (0 : Int32).toInt := fun z => h_42 (Int32.toInt_inj.mp z)
          refine ok_nm2 (fun x17_13 ex17_13 => ?_)
          have qx17_13 : x17_13.toInt = 1 := by rw [ex17_13]; decide
          refine ok_nm2 (fun x18_13 ex18_13 => ?_)
          have f46 : (a2_1 + (1 : Int32)).toInt = a2_1.toInt + (1 : Int32).toInt := iadd_toInt (by omega) (by omega)
          have qx18_13 : x18_13.toInt = (a2_1 + 1).toInt := congrArg Int32.toInt ex18_13
          exact hrec_1 _ (x17_13, x18_13, σ14_13) (show (3 + 1 - x18_13.toInt).toNat < n_1 by omega) ⟨rfl, hIσ14_13, hfσ14_13, (show 0 ≤ x17_13.toInt by omega), (show x17_13.toInt ≤ 1 by omega), (show 0 ≤ x18_13.toInt by omega), (show x18_13.toInt ≤ 3 by omega)⟩
      · have g47 : r9_12.toInt ≠ (0 : Int32).toInt := fun z => h_38 (Int32.toInt_inj.mp z)
        refine ok_nm2 (fun x19_12 ex19_12 => ?_)
        have qx19_12 : x19_12.toInt = 1 := by rw [ex19_12]; decide
        try unfold jX1_makeRound_29
        refine ok_bd2.mpr ((o_fX1_moveDrifts hIσ10_12 (p1 := a2_1) (by omega) (by omega)).mono (fun o_48 ho_49 => ?_))
        obtain ⟨r13_14, σ14_14⟩ := o_48
        obtain ⟨hIσ14_14, hcσ14_14, r0r13_14, r1r13_14⟩ := ho_49
        dsimp only at hIσ14_14 hcσ14_14 r0r13_14 r1r13_14 ⊢
        have hfσ14_14 : Fr fr_fX1_makeRound σ σ14_14 := Fr_c hfσ10_12 hcσ14_14 (by decide)
        refine ok_ite.mpr ⟨fun h_50 => ?_, fun h_50 => ?_⟩
        · have g51 : r13_14.toInt = (0 : Int32).toInt := by rw [h_50]
          refine ok_nm2 (fun x16_14 ex16_14 => ?_)
          have f52 : (a2_1 + (1 : Int32)).toInt = a2_1.toInt + (1 : Int32).toInt := iadd_toInt (by omega) (by omega)
          have qx16_14 : x16_14.toInt = (a2_1 + 1).toInt := congrArg Int32.toInt ex16_14
          exact hrec_1 _ (x19_12, x16_14, σ14_14) (show (3 + 1 - x16_14.toInt).toNat < n_1 by omega) ⟨rfl, hIσ14_14, hfσ14_14, (show 0 ≤ x19_12.toInt by omega), (show x19_12.toInt ≤ 1 by omega), (show 0 ≤ x16_14.toInt by omega), (show x16_14.toInt ≤ 3 by omega)⟩
        · have g53 : r13_14.toInt ≠ (0 : Int32).toInt := fun z => h_50 (Int32.toInt_inj.mp z)
          refine ok_nm2 (fun x17_14 ex17_14 => ?_)
          have qx17_14 : x17_14.toInt = 1 := by rw [ex17_14]; decide
          refine ok_nm2 (fun x18_14 ex18_14 => ?_)
          have f54 : (a2_1 + (1 : Int32)).toInt = a2_1.toInt + (1 : Int32).toInt := iadd_toInt (by omega) (by omega)
          have qx18_14 : x18_14.toInt = (a2_1 + 1).toInt := congrArg Int32.toInt ex18_14
          exact hrec_1 _ (x17_14, x18_14, σ14_14) (show (3 + 1 - x18_14.toInt).toNat < n_1 by omega) ⟨rfl, hIσ14_14, hfσ14_14, (show 0 ≤ x17_14.toInt by omega), (show x17_14.toInt ≤ 1 by omega), (show 0 ≤ x18_14.toInt by omega), (show x18_14.toInt ≤ 3 by omega)⟩
set_option maxRecDepth 20000 in
set_option maxHeartbeats 2000000 in
theorem o_fX1_settle {σ : gS} (hIσ : JC σ) {p1 : Int32} (h0p1 : 0 ≤ p1.toInt) (h1p1 : p1.toInt ≤ 500) : Ok (fX1_settle σ p1) (fun out => JC out.2 ∧ Fr fr_fX1_settle σ out.2 ∧ 0 ≤ out.1.toInt ∧ out.1.toInt ≤ 500) := by
  unfold fX1_settle
  have hfσ : Fr fr_fX1_settle σ σ := Fr_r
  refine ok_nm2 (fun x1 ex1 => ?_)
  have f1 : (0 : Int32).toInt = 0 := by decide
  have qx1 : x1.toInt = 0 := by rw [ex1]; decide
  refine ok_lpc (I := fun n s => n = (60 + 1 - s.1.toInt).toNat ∧ JC s.2 ∧ Fr fr_fX1_settle σ s.2 ∧ 0 ≤ s.1.toInt ∧ s.1.toInt ≤ 60) (fun rec2_1r n_1 s_1 hs_1 hrec_1 => ?_) K9 ((60 + 1 - x1.toInt).toNat) (x1, σ) ⟨rfl, hIσ, hfσ, (show 0 ≤ x1.toInt by omega), (show x1.toInt ≤ 60 by omega)⟩ (by unfold K9; omega)
  obtain ⟨a2_1, σ1_1⟩ := s_1
  obtain ⟨hn_1, hIσ1_1, hfσ1_1, b0a2_1, b1a2_1⟩ := hs_1
  dsimp only at hn_1 hIσ1_1 hfσ1_1 b0a2_1 b1a2_1
  unfold bX1_settle_2
  try dsimp only
  have f2 : (3 : Int32).toInt = 3 := by decide
  refine ok_gd.mpr ⟨gb_of (by omega) (by omega), ?_⟩
  refine ok_nm2 (fun v2_2 ev2_2 => ?_)
  have f3 : 0 ≤ (σ1_1.1 3 3).toInt ∧ (σ1_1.1 3 3).toInt ≤ 60 := hIσ1_1 3 3
  have qv2_2 : v2_2.toInt = (σ1_1.1 3 3).toInt := congrArg Int32.toInt ev2_2
  refine ok_ite.mpr ⟨fun h_4 => ?_, fun h_4 => ?_⟩
  · have g5 : v2_2.toInt ≤ a2_1.toInt := Int32.le_iff_toInt_le.mp h_4
    refine ok_nm2 (fun x4_2 ex4_2 => ?_)
    have qx4_2 : x4_2.toInt = 0 := by rw [ex4_2]; decide
    refine ok_lpc (I := fun n s => n = (500 + 1 - s.1.toInt).toNat ∧ JC s.2 ∧ Fr fr_fX1_settle σ s.2 ∧ 0 ≤ s.1.toInt ∧ s.1.toInt ≤ 500) (fun rec57_3r n_3 s_3 hs_3 hrec_3 => ?_) K9 ((500 + 1 - x4_2.toInt).toNat) (x4_2, σ1_1) ⟨rfl, hIσ1_1, hfσ1_1, (show 0 ≤ x4_2.toInt by omega), (show x4_2.toInt ≤ 500 by omega)⟩ (by unfold K9; omega)
    obtain ⟨a2_3, σ1_3⟩ := s_3
    obtain ⟨hn_3, hIσ1_3, hfσ1_3, b0a2_3, b1a2_3⟩ := hs_3
    dsimp only at hn_3 hIσ1_3 hfσ1_3 b0a2_3 b1a2_3
    unfold bX1_settle_57
    try dsimp only
    refine ok_ite.mpr ⟨fun h_6 => ?_, fun h_6 => ?_⟩
    · have g7 : p1.toInt ≤ a2_3.toInt := Int32.le_iff_toInt_le.mp h_6
      refine ok_some.mpr ?_
      exact ⟨hIσ1_3, hfσ1_3, (show 0 ≤ p1.toInt by omega), (show p1.toInt ≤ 500 by omega)⟩
    · have g8 : ¬ p1.toInt ≤ a2_3.toInt := fun z => h_6 (Int32.le_iff_toInt_le.mpr z)
      refine ok_bd2.mpr ((o_fX1_makeRound hIσ1_3  ).mono (fun o_9 ho_10 => ?_))
      obtain ⟨r7_4, σ8_4⟩ := o_9
      obtain ⟨hIσ8_4, hcσ8_4, r0r7_4, r1r7_4⟩ := ho_10
      dsimp only at hIσ8_4 hcσ8_4 r0r7_4 r1r7_4 ⊢
      have hfσ8_4 : Fr fr_fX1_settle σ σ8_4 := Fr_c hfσ1_3 hcσ8_4 (by decide)
      refine ok_ite.mpr ⟨fun h_11 => ?_, fun h_11 => ?_⟩
      · have g12 : r7_4.toInt = (0 : Int32).toInt := by rw [h_11]
        refine ok_some.mpr ?_
        exact ⟨hIσ8_4, hfσ8_4, (show 0 ≤ a2_3.toInt by omega), (show a2_3.toInt ≤ 500 by omega)⟩
      · have g13 : r7_4.toInt ≠ (0 : Int32).toInt := fun z => h_11 (Int32.toInt_inj.mp z)
        refine ok_nm2 (fun x10_4 ex10_4 => ?_)
        have f14 : (1 : Int32).toInt = 1 := by decide
        have f15 : (a2_3 + (1 : Int32)).toInt = a2_3.toInt + (1 : Int32).toInt := iadd_toInt (by omega) (by omega)
        have qx10_4 : x10_4.toInt = (a2_3 + 1).toInt := congrArg Int32.toInt ex10_4
        exact hrec_3 _ (x10_4, σ8_4) (show (500 + 1 - x10_4.toInt).toNat < n_3 by omega) ⟨rfl, hIσ8_4, hfσ8_4, (show 0 ≤ x10_4.toInt by omega), (show x10_4.toInt ≤ 500 by omega)⟩
  · have g16 : ¬ v2_2.toInt ≤ a2_1.toInt := fun z => h_4 (Int32.le_iff_toInt_le.mpr z)
    refine ok_gd.mpr ⟨gb_of (by omega) (by omega), ?_⟩
    refine ok_bd.mpr ((o_fX5_turned_47 hIσ1_1 (p1 := a2_1) (p2 := (0 : Int32)) (by omega) (by omega)).mono (fun r13_2 ho_18 => ?_))
    refine ok_gd.mpr ⟨gb_of (by omega) (by omega), ?_⟩
    refine ok_nm2 (fun σ14_2 eσ14_2 => ?_)
    have hIσ14_2 : JC σ14_2 := by rw [eσ14_2]; exact JC_w hIσ1_1 (Int32.le_toInt _) (Int32.toInt_le _)
    have hfσ14_2 : Fr fr_fX1_settle σ σ14_2 := by rw [eσ14_2]; exact Fr_w0 hfσ1_1 (by decide)
    have f19 : (1 : Int32).toInt = 1 := by decide
    refine ok_gd.mpr ⟨gb_of (by omega) (by omega), ?_⟩
    refine ok_bd.mpr ((o_fX5_turned_47 hIσ14_2 (p1 := a2_1) (p2 := (1 : Int32)) (by omega) (by omega)).mono (fun r17_2 ho_21 => ?_))
    refine ok_gd.mpr ⟨gb_of (by omega) (by omega), ?_⟩
    refine ok_nm2 (fun σ18_2 eσ18_2 => ?_)
    have hIσ18_2 : JC σ18_2 := by rw [eσ18_2]; exact JC_w hIσ14_2 (Int32.le_toInt _) (Int32.toInt_le _)
    have hfσ18_2 : Fr fr_fX1_settle σ σ18_2 := by rw [eσ18_2]; exact Fr_w0 hfσ14_2 (by decide)
    refine ok_nm2 (fun x19_2 ex19_2 => ?_)
    have f22 : (a2_1 + (1 : Int32)).toInt = a2_1.toInt + (1 : Int32).toInt := iadd_toInt (by omega) (by omega)
    have qx19_2 : x19_2.toInt = (a2_1 + 1).toInt := congrArg Int32.toInt ex19_2
    exact hrec_1 _ (x19_2, σ18_2) (show (60 + 1 - x19_2.toInt).toNat < n_1 by omega) ⟨rfl, hIσ18_2, hfσ18_2, (show 0 ≤ x19_2.toInt by omega), (show x19_2.toInt ≤ 60 by omega)⟩
