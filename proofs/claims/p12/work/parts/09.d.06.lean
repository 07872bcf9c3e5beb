/-! comes through, c 6 -/
set_option maxRecDepth 20000 in
set_option maxHeartbeats 2000000 in
theorem o_fX9_rounds {σ : gS} (hIσ : JC σ) {p1 : Int32}  : Ok (fX9_rounds σ p1) (fun out => JC out.2 ∧ Fr fr_fX9_rounds σ out.2 ∧ -1 ≤ out.1.toInt ∧ out.1.toInt ≤ 500) := by
  unfold fX9_rounds
  have hfσ : Fr fr_fX9_rounds σ σ := Fr_r
  refine ok_ite.mpr ⟨fun h_1 => ?_, fun h_1 => ?_⟩
  · have f2 : (1 : Int32).toInt = 1 := by decide
    have g3 : p1.toInt < (1 : Int32).toInt := Int32.lt_iff_toInt_lt.mp h_1
    refine ok_some.mpr ?_
    have f4 : (-1 : Int32).toInt = -1 := by decide
    exact ⟨hIσ, hfσ, (show -1 ≤ (-1 : Int32).toInt by omega), (show (-1 : Int32).toInt ≤ 500 by omega)⟩
  · have f5 : (1 : Int32).toInt = 1 := by decide
    have g6 : ¬ p1.toInt < (1 : Int32).toInt := fun z => h_1 (Int32.lt_iff_toInt_lt.mpr z)
    refine ok_ite.mpr ⟨fun h_7 => ?_, fun h_7 => ?_⟩
    · have f8 : (500 : Int32).toInt = 500 := by decide
      have g9 : p1.toInt ≤ (500 : Int32).toInt := Int32.le_iff_toInt_le.mp h_7
      refine ok_bd2.mpr ((o_fX1_settle hIσ (p1 := p1) (by omega) (by omega)).mono (fun o_10 ho_11 => ?_))
      obtain ⟨r4, σ5⟩ := o_10
      obtain ⟨hIσ5, hcσ5, r0r4, r1r4⟩ := ho_11
      dsimp only at hIσ5 hcσ5 r0r4 r1r4 ⊢
      have hfσ5 : Fr fr_fX9_rounds σ σ5 := Fr_c hfσ hcσ5 (by decide)
      refine ok_some.mpr ?_
      exact ⟨hIσ5, hfσ5, (show -1 ≤ r4.toInt by omega), (show r4.toInt ≤ 500 by omega)⟩
    · have f12 : (500 : Int32).toInt = 500 := by decide
      have g13 : ¬ p1.toInt ≤ (500 : Int32).toInt := fun z => h_7 (Int32.le_iff_toInt_le.mpr z)
      refine ok_some.mpr ?_
      have f14 : (-1 : Int32).toInt = -1 := by decide
      exact ⟨hIσ, hfσ, (show -1 ≤ (-1 : Int32).toInt by omega), (show (-1 : Int32).toInt ≤ 500 by omega)⟩
set_option maxRecDepth 20000 in
set_option maxHeartbeats 2000000 in
theorem o_fX5_doubtOf_47 {σ : gS} (hIσ : JC σ) {p1 : Int32} (h0p1 : 0 ≤ p1.toInt) (h1p1 : p1.toInt ≤ 59) : Ok (fX5_doubtOf_47 σ p1) (fun _ => True) := by
  unfold fX5_doubtOf_47
  have f1 : (0 : Int32).toInt = 0 := by decide
  refine ok_bd.mpr ((o_fX5_miss_47 hIσ (p1 := p1) (p2 := (0 : Int32)) (by omega) (by omega) (by omega) (by omega)).mono (fun r2 ho_3 => ?_))
  refine ok_nm2 (fun x3 ex3 => ?_)
  have f4 : r2.toInt64.toInt = r2.toInt := Int32.toInt_toInt64 _
  have qx3 : x3.toInt = r2.toInt64.toInt := congrArg Int64.toInt ex3
  have f5 : (1 : Int32).toInt = 1 := by decide
  refine ok_bd.mpr ((o_fX5_miss_47 hIσ (p1 := p1) (p2 := (1 : Int32)) (by omega) (by omega) (by omega) (by omega)).mono (fun r5 ho_7 => ?_))
  refine ok_nm2 (fun x6 ex6 => ?_)
  have f8 : r5.toInt64.toInt = r5.toInt := Int32.toInt_toInt64 _
  have qx6 : x6.toInt = r5.toInt64.toInt := congrArg Int64.toInt ex6
  refine ok_gd.mpr ⟨gb_of (by omega) (by omega), ?_⟩
  refine ok_nm2 (fun v7 ev7 => ?_)
  have qv7 : v7.toInt = (σ.1 15 p1.toNatClampNeg).toInt := congrArg Int32.toInt ev7
  refine ok_some.mpr ?_
  exact trivial
set_option maxRecDepth 20000 in
set_option maxHeartbeats 2000000 in
theorem o_fX5_squares_47 {σ : gS} (hIσ : JC σ)   : Ok (fX5_squares_47 σ ) (fun _ => True) := by
  unfold fX5_squares_47
  refine ok_nm2 (fun x1 ex1 => ?_)
  have f1 : (0 : Int64).toInt = 0 := by decide
  have qx1 : x1.toInt = (0 : Int64).toInt := congrArg Int64.toInt ex1
  refine ok_nm2 (fun x2 ex2 => ?_)
  have f2 : (0 : Int32).toInt = 0 := by decide
  have qx2 : x2.toInt = 0 := by rw [ex2]; decide
  refine ok_lpc (I := fun n s => n = (60 + 1 - s.2.toInt).toNat ∧ 0 ≤ s.2.toInt ∧ s.2.toInt ≤ 60) (fun rec4_1r n_1 s_1 hs_1 hrec_1 => ?_) K9 ((60 + 1 - x2.toInt).toNat) (x1, x2) ⟨rfl, (show 0 ≤ x2.toInt by omega), (show x2.toInt ≤ 60 by omega)⟩ (by unfold K9; omega)
  obtain ⟨a1_1, a3_1⟩ := s_1
  obtain ⟨hn_1, b0a3_1, b1a3_1⟩ := hs_1
  dsimp only at hn_1 b0a3_1 b1a3_1
  unfold bX5_squares_47_4
  try dsimp only
  have f3 : (3 : Int32).toInt = 3 := by decide
  refine ok_gd.mpr ⟨gb_of (by omega) (by omega), ?_⟩
  refine ok_nm2 (fun v3_38 ev3_38 => ?_)
  have f4 : 0 ≤ (σ.1 3 3).toInt ∧ (σ.1 3 3).toInt ≤ 60 := hIσ 3 3
  have qv3_38 : v3_38.toInt = (σ.1 3 3).toInt := congrArg Int32.toInt ev3_38
  refine ok_ite.mpr ⟨fun h_5 => ?_, fun h_5 => ?_⟩
  · have g6 : v3_38.toInt ≤ a3_1.toInt := Int32.le_iff_toInt_le.mp h_5
    refine ok_nm2 (fun x5_38 ex5_38 => ?_)
    have qx5_38 : x5_38.toInt = 0 := by rw [ex5_38]; decide
    refine ok_lpc (I := fun n s => n = (12 + 1 - s.2.toInt).toNat ∧ 0 ≤ s.2.toInt ∧ s.2.toInt ≤ 12) (fun rec41_39r n_39 s_39 hs_39 hrec_39 => ?_) K9 ((12 + 1 - x5_38.toInt).toNat) (a1_1, x5_38) ⟨rfl, (show 0 ≤ x5_38.toInt by omega), (show x5_38.toInt ≤ 12 by omega)⟩ (by unfold K9; omega)
    obtain ⟨a1_39, a3_39⟩ := s_39
    obtain ⟨hn_39, b0a3_39, b1a3_39⟩ := hs_39
    dsimp only at hn_39 b0a3_39 b1a3_39
    unfold bX5_squares_47_41
    try dsimp only
    have f7 : (1 : Int32).toInt = 1 := by decide
    refine ok_gd.mpr ⟨gb_of (by omega) (by omega), ?_⟩
    refine ok_nm2 (fun v6_58 ev6_58 => ?_)
    have f8 : 0 ≤ (σ.1 3 1).toInt ∧ (σ.1 3 1).toInt ≤ 12 := hIσ 3 1
    have qv6_58 : v6_58.toInt = (σ.1 3 1).toInt := congrArg Int32.toInt ev6_58
    refine ok_ite.mpr ⟨fun h_9 => ?_, fun h_9 => ?_⟩
    · have g10 : v6_58.toInt ≤ a3_39.toInt := Int32.le_iff_toInt_le.mp h_9
      refine ok_some.mpr ?_
      exact trivial
    · have g11 : ¬ v6_58.toInt ≤ a3_39.toInt := fun z => h_9 (Int32.le_iff_toInt_le.mpr z)
      refine ok_gd.mpr ⟨gb_of (by omega) (by omega), ?_⟩
      refine ok_gd.mpr ⟨gb_of (by omega) (by omega), ?_⟩
      refine ok_nm2 (fun v9_58 ev9_58 => ?_)
      have qv9_58 : v9_58.toInt = (σ.1 50 a3_39.toNatClampNeg).toInt := congrArg Int32.toInt ev9_58
      refine ok_bd.mpr ?_
      try unfold fX5_centreAt_47
      refine ok_gd.mpr ⟨gb_of (by omega) (by omega), ?_⟩
      refine ok_gd.mpr ⟨gb_of (by omega) (by omega), ?_⟩
      refine ok_nm2 (fun v2_59 ev2_59 => ?_)
      have f13 : a3_39.toNatClampNeg = a3_39.toInt.toNat := rfl
      have f13_ : (a3_39.toNatClampNeg = 0 ∧ 0 ≤ (σ.1 8 a3_39.toNatClampNeg).toInt ∧ (σ.1 8 a3_39.toNatClampNeg).toInt ≤ 5) ∨ (a3_39.toNatClampNeg = 1 ∧ 0 ≤ (σ.1 8 a3_39.toNatClampNeg).toInt ∧ (σ.1 8 a3_39.toNatClampNeg).toInt ≤ 5) ∨ (a3_39.toNatClampNeg = 2 ∧ 0 ≤ (σ.1 8 a3_39.toNatClampNeg).toInt ∧ (σ.1 8 a3_39.toNatClampNeg).toInt ≤ 5) ∨ (a3_39.toNatClampNeg = 3 ∧ 0 ≤ (σ.1 8 a3_39.toNatClampNeg).toInt ∧ (σ.1 8 a3_39.toNatClampNeg).toInt ≤ 5) ∨ (a3_39.toNatClampNeg = 4 ∧ 0 ≤ (σ.1 8 a3_39.toNatClampNeg).toInt ∧ (σ.1 8 a3_39.toNatClampNeg).toInt ≤ 5) ∨ (a3_39.toNatClampNeg = 5 ∧ 0 ≤ (σ.1 8 a3_39.toNatClampNeg).toInt ∧ (σ.1 8 a3_39.toNatClampNeg).toInt ≤ 5) ∨ (a3_39.toNatClampNeg = 6 ∧ 0 ≤ (σ.1 8 a3_39.toNatClampNeg).toInt ∧ (σ.1 8 a3_39.toNatClampNeg).toInt ≤ 5) ∨ (a3_39.toNatClampNeg = 7 ∧ 0 ≤ (σ.1 8 a3_39.toNatClampNeg).toInt ∧ (σ.1 8 a3_39.toNatClampNeg).toInt ≤ 5) ∨ (a3_39.toNatClampNeg = 8 ∧ 0 ≤ (σ.1 8 a3_39.toNatClampNeg).toInt ∧ (σ.1 8 a3_39.toNatClampNeg).toInt ≤ 5) ∨ (a3_39.toNatClampNeg = 9 ∧ 0 ≤ (σ.1 8 a3_39.toNatClampNeg).toInt ∧ (σ.1 8 a3_39.toNatClampNeg).toInt ≤ 5) ∨ (a3_39.toNatClampNeg = 10 ∧ 0 ≤ (σ.1 8 a3_39.toNatClampNeg).toInt ∧ (σ.1 8 a3_39.toNatClampNeg).toInt ≤ 5) ∨ (a3_39.toNatClampNeg = 11 ∧ 0 ≤ (σ.1 8 a3_39.toNatClampNeg).toInt ∧ (σ.1 8 a3_39.toNatClampNeg).toInt ≤ 5) := by
        have hb := hIσ 8 a3_39.toNatClampNeg
        have hj : a3_39.toNatClampNeg = 0 ∨ a3_39.toNatClampNeg = 1 ∨ a3_39.toNatClampNeg = 2 ∨ a3_39.toNatClampNeg = 3 ∨ a3_39.toNatClampNeg = 4 ∨ a3_39.toNatClampNeg = 5 ∨ a3_39.toNatClampNeg = 6 ∨ a3_39.toNatClampNeg = 7 ∨ a3_39.toNatClampNeg = 8 ∨ a3_39.toNatClampNeg = 9 ∨ a3_39.toNatClampNeg = 10 ∨ a3_39.toNatClampNeg = 11 := by omega
        generalize a3_39.toNatClampNeg = j at hb hj ⊢
        rcases hj with rfl | rfl | rfl | rfl | rfl | rfl | rfl | rfl | rfl | rfl | rfl | rfl
        · exact .inl ⟨rfl, hb.1, hb.2⟩
        · exact .inr (.inl ⟨rfl, hb.1, hb.2⟩)
        · exact .inr (.inr (.inl ⟨rfl, hb.1, hb.2⟩))
        · exact .inr (.inr (.inr (.inl ⟨rfl, hb.1, hb.2⟩)))
        · exact .inr (.inr (.inr (.inr (.inl ⟨rfl, hb.1, hb.2⟩))))
        · exact .inr (.inr (.inr (.inr (.inr (.inl ⟨rfl, hb.1, hb.2⟩)))))
        · exact .inr (.inr (.inr (.inr (.inr (.inr (.inl ⟨rfl, hb.1, hb.2⟩))))))
        · exact .inr (.inr (.inr (.inr (.inr (.inr (.inr (.inl ⟨rfl, hb.1, hb.2⟩)))))))
        · exact .inr (.inr (.inr (.inr (.inr (.inr (.inr (.inr (.inl ⟨rfl, hb.1, hb.2⟩))))))))
        · exact .inr (.inr (.inr (.inr (.inr (.inr (.inr (.inr (.inr (.inl ⟨rfl, hb.1, hb.2⟩)))))))))
        · exact .inr (.inr (.inr (.inr (.inr (.inr (.inr (.inr (.inr (.inr (.inl ⟨rfl, hb.1, hb.2⟩))))))))))
        · exact .inr (.inr (.inr (.inr (.inr (.inr (.inr (.inr (.inr (.inr (.inr (⟨rfl, hb.1, hb.2⟩)))))))))))
      have qv2_59 : v2_59.toInt = (σ.1 8 a3_39.toNatClampNeg).toInt := congrArg Int32.toInt ev2_59
      refine ok_gd.mpr ⟨gb_of (by omega) (by omega), ?_⟩
      refine ok_nm2 (fun v3_59 ev3_59 => ?_)
      have qv3_59 : v3_59.toInt = (σ.1 (56 + (0 : Int32).toNatClampNeg) v2_59.toNatClampNeg).toInt := congrArg Int32.toInt ev3_59
      refine ok_gd.mpr ⟨gb_of (by omega) (by omega), ?_⟩
      refine ok_gd.mpr ⟨gb_of (by omega) (by omega), ?_⟩
      refine ok_nm2 (fun v5_59 ev5_59 => ?_)
      have qv5_59 : v5_59.toInt = (σ.1 (22 + (0 : Int32).toNatClampNeg) a3_39.toNatClampNeg).toInt := congrArg Int32.toInt ev5_59
      refine ok_some.mpr ?_
      refine ok_nm2 (fun x12_58_60 ex12_58_60 => ?_)
      have f14 : (100 : Int32).toInt = 100 := by decide
      have f15 : (v9_58 - (v3_59 + (100 * v5_59))).toInt64.toInt = (v9_58 - (v3_59 + (100 * v5_59))).toInt := Int32.toInt_toInt64 _
      have qx12_58_60 : x12_58_60.toInt = (v9_58 - (v3_59 + (100 * v5_59))).toInt64.toInt := congrArg Int64.toInt ex12_58_60
      refine ok_gd.mpr ⟨gb_of (by omega) (by omega), ?_⟩
      refine ok_gd.mpr ⟨gb_of (by omega) (by omega), ?_⟩
      refine ok_nm2 (fun v14_58_60 ev14_58_60 => ?_)
      have qv14_58_60 : v14_58_60.toInt = (σ.1 51 a3_39.toNatClampNeg).toInt := congrArg Int32.toInt ev14_58_60
      refine ok_bd.mpr ?_
      try unfold fX5_centreAt_47
      refine ok_gd.mpr ⟨gb_of (by omega) (by omega), ?_⟩
      refine ok_gd.mpr ⟨gb_of (by omega) (by omega), ?_⟩
      refine ok_nm2 (fun v2_61 ev2_61 => ?_)
      have qv2_61 : v2_61.toInt = (σ.1 8 a3_39.toNatClampNeg).toInt := congrArg Int32.toInt ev2_61
      refine ok_gd.mpr ⟨gb_of (by omega) (by omega), ?_⟩
      refine ok_nm2 (fun v3_61 ev3_61 => ?_)
      have qv3_61 : v3_61.toInt = (σ.1 (56 + (1 : Int32).toNatClampNeg) v2_61.toNatClampNeg).toInt := congrArg Int32.toInt ev3_61
      refine ok_gd.mpr ⟨gb_of (by omega) (by omega), ?_⟩
      refine ok_gd.mpr ⟨gb_of (by omega) (by omega), ?_⟩
      refine ok_nm2 (fun v5_61 ev5_61 => ?_)
      have qv5_61 : v5_61.toInt = (σ.1 (22 + (1 : Int32).toNatClampNeg) a3_39.toNatClampNeg).toInt := congrArg Int32.toInt ev5_61
      refine ok_some.mpr ?_
      refine ok_nm2 (fun x17_58_60_62 ex17_58_60_62 => ?_)
      have f16 : (v14_58_60 - (v3_61 + (100 * v5_61))).toInt64.toInt = (v14_58_60 - (v3_61 + (100 * v5_61))).toInt := Int32.toInt_toInt64 _
      have qx17_58_60_62 : x17_58_60_62.toInt = (v14_58_60 - (v3_61 + (100 * v5_61))).toInt64.toInt := congrArg Int64.toInt ex17_58_60_62
      refine ok_gd.mpr ⟨gb_of (by omega) (by omega), ?_⟩
      refine ok_nm2 (fun v18_58_60_62 ev18_58_60_62 => ?_)
      have qv18_58_60_62 : v18_58_60_62.toInt = (σ.1 20 a3_39.toNatClampNeg).toInt := congrArg Int32.toInt ev18_58_60_62
      refine ok_nm2 (fun x19_58_60_62 ex19_58_60_62 => ?_)
      refine ok_nm2 (fun x20_58_60_62 ex20_58_60_62 => ?_)
      have f17 : (a3_39 + (1 : Int32)).toInt = a3_39.toInt + (1 : Int32).toInt := iadd_toInt (by omega) (by omega)
      have qx20_58_60_62 : x20_58_60_62.toInt = (a3_39 + 1).toInt := congrArg Int32.toInt ex20_58_60_62
      exact hrec_39 _ (x19_58_60_62, x20_58_60_62) (show (12 + 1 - x20_58_60_62.toInt).toNat < n_39 by omega) ⟨rfl, (show 0 ≤ x20_58_60_62.toInt by omega), (show x20_58_60_62.toInt ≤ 12 by omega)⟩
  · have g18 : ¬ v3_38.toInt ≤ a3_1.toInt := fun z => h_5 (Int32.le_iff_toInt_le.mpr z)
    refine ok_bd.mpr ?_
    try unfold fX5_uses_47
    refine ok_gd.mpr ⟨gb_of (by omega) (by omega), ?_⟩
    refine ok_nm2 (fun v1_63 ev1_63 => ?_)
    have qv1_63 : v1_63.toInt = (σ.1 58 a3_1.toNatClampNeg).toInt := congrArg Int32.toInt ev1_63
    refine ok_ite.mpr ⟨fun h_19 => ?_, fun h_19 => ?_⟩
    · have g20 : v1_63.toInt = (0 : Int32).toInt := by rw [h_19]
      refine ok_some.mpr ?_
      refine ok_ite.mpr ⟨fun h_21 => ?_, fun h_21 => ?_⟩
      · have f22 : (1 : Int32).toInt = 1 := by decide
        have g23 : (1 : Int32).toInt = (0 : Int32).toInt := by rw [h_21]
        exfalso
        omega
      · have f24 : (1 : Int32).toInt = 1 := by decide
        have g25 : (1 : Int32).toInt ≠ (0 : Int32).toInt := fun z => h_21 (Int32.toInt_inj.mp z)
        refine ok_bd.mpr ((o_fX5_doubtOf_47 hIσ (p1 := a3_1) (by omega) (by omega)).mono (fun r26_38_64 ho_27 => ?_))
        refine ok_nm2 (fun x27_38_64 ex27_38_64 => ?_)
        refine ok_nm2 (fun x28_38_64 ex28_38_64 => ?_)
        have f28 : (a3_1 + (1 : Int32)).toInt = a3_1.toInt + (1 : Int32).toInt := iadd_toInt (by omega) (by omega)
        have qx28_38_64 : x28_38_64.toInt = (a3_1 + 1).toInt := congrArg Int32.toInt ex28_38_64
        exact hrec_1 _ (x27_38_64, x28_38_64) (show (60 + 1 - x28_38_64.toInt).toNat < n_1 by omega) ⟨rfl, (show 0 ≤ x28_38_64.toInt by omega), (show x28_38_64.toInt ≤ 60 by omega)⟩
    · have g29 : v1_63.toInt ≠ (0 : Int32).toInt := fun z => h_19 (Int32.toInt_inj.mp z)
      refine ok_some.mpr ?_
      refine ok_ite.mpr ⟨fun h_30 => ?_, fun h_30 => ?_⟩
      · have g31 : (0 : Int32).toInt = (0 : Int32).toInt := by rw [h_30]
        refine ok_nm2 (fun x24_38_65 ex24_38_65 => ?_)
        have f32 : (1 : Int32).toInt = 1 := by decide
        have f33 : (a3_1 + (1 : Int32)).toInt = a3_1.toInt + (1 : Int32).toInt := iadd_toInt (by omega) (by omega)
        have qx24_38_65 : x24_38_65.toInt = (a3_1 + 1).toInt := congrArg Int32.toInt ex24_38_65
        exact hrec_1 _ (a1_1, x24_38_65) (show (60 + 1 - x24_38_65.toInt).toNat < n_1 by omega) ⟨rfl, (show 0 ≤ x24_38_65.toInt by omega), (show x24_38_65.toInt ≤ 60 by omega)⟩
      · have g34 : (0 : Int32).toInt ≠ (0 : Int32).toInt := fun z => h_30 (Int32.toInt_inj.mp z)
        exfalso
        omega
set_option maxRecDepth 20000 in
set_option maxHeartbeats 2000000 in
theorem o_fX9_sum {σ : gS} (hIσ : JC σ)   : Ok (fX9_sum σ ) (fun _ => True) := by
  unfold fX9_sum
  refine ok_bd.mpr ((o_fX5_squares_47 hIσ  ).mono (fun r2 ho_2 => ?_))
  refine ok_some.mpr ?_
  exact trivial
set_option maxRecDepth 20000 in
set_option maxHeartbeats 2000000 in
theorem o_fX4_driftOf {σ : gS} (hIσ : JC σ) {p1 : Int32} (h0p1 : 0 ≤ p1.toInt) (h1p1 : p1.toInt ≤ 11) : Ok (fX4_driftOf σ p1) (fun out => 32 ≤ out.toInt ∧ out.toInt ≤ 37) := by
  unfold fX4_driftOf
  refine ok_gd.mpr ⟨gb_of (by omega) (by omega), ?_⟩
  refine ok_nm2 (fun v1 ev1 => ?_)
  have f2 : p1.toNatClampNeg = p1.toInt.toNat := rfl
  have f2_ : (p1.toNatClampNeg = 0 ∧ 0 ≤ (σ.1 8 p1.toNatClampNeg).toInt ∧ (σ.1 8 p1.toNatClampNeg).toInt ≤ 5) ∨ (p1.toNatClampNeg = 1 ∧ 0 ≤ (σ.1 8 p1.toNatClampNeg).toInt ∧ (σ.1 8 p1.toNatClampNeg).toInt ≤ 5) ∨ (p1.toNatClampNeg = 2 ∧ 0 ≤ (σ.1 8 p1.toNatClampNeg).toInt ∧ (σ.1 8 p1.toNatClampNeg).toInt ≤ 5) ∨ (p1.toNatClampNeg = 3 ∧ 0 ≤ (σ.1 8 p1.toNatClampNeg).toInt ∧ (σ.1 8 p1.toNatClampNeg).toInt ≤ 5) ∨ (p1.toNatClampNeg = 4 ∧ 0 ≤ (σ.1 8 p1.toNatClampNeg).toInt ∧ (σ.1 8 p1.toNatClampNeg).toInt ≤ 5) ∨ (p1.toNatClampNeg = 5 ∧ 0 ≤ (σ.1 8 p1.toNatClampNeg).toInt ∧ (σ.1 8 p1.toNatClampNeg).toInt ≤ 5) ∨ (p1.toNatClampNeg = 6 ∧ 0 ≤ (σ.1 8 p1.toNatClampNeg).toInt ∧ (σ.1 8 p1.toNatClampNeg).toInt ≤ 5) ∨ (p1.toNatClampNeg = 7 ∧ 0 ≤ (σ.1 8 p1.toNatClampNeg).toInt ∧ (σ.1 8 p1.toNatClampNeg).toInt ≤ 5) ∨ (p1.toNatClampNeg = 8 ∧ 0 ≤ (σ.1 8 p1.toNatClampNeg).toInt ∧ (σ.1 8 p1.toNatClampNeg).toInt ≤ 5) ∨ (p1.toNatClampNeg = 9 ∧ 0 ≤ (σ.1 8 p1.toNatClampNeg).toInt ∧ (σ.1 8 p1.toNatClampNeg).toInt ≤ 5) ∨ (p1.toNatClampNeg = 10 ∧ 0 ≤ (σ.1 8 p1.toNatClampNeg).toInt ∧ (σ.1 8 p1.toNatClampNeg).toInt ≤ 5) ∨ (p1.toNatClampNeg = 11 ∧ 0 ≤ (σ.1 8 p1.toNatClampNeg).toInt ∧ (σ.1 8 p1.toNatClampNeg).toInt ≤ 5) := by
    have hb := hIσ 8 p1.toNatClampNeg
    have hj : p1.toNatClampNeg = 0 ∨ p1.toNatClampNeg = 1 ∨ p1.toNatClampNeg = 2 ∨ p1.toNatClampNeg = 3 ∨ p1.toNatClampNeg = 4 ∨ p1.toNatClampNeg = 5 ∨ p1.toNatClampNeg = 6 ∨ p1.toNatClampNeg = 7 ∨ p1.toNatClampNeg = 8 ∨ p1.toNatClampNeg = 9 ∨ p1.toNatClampNeg = 10 ∨ p1.toNatClampNeg = 11 := by omega
    generalize p1.toNatClampNeg = j at hb hj ⊢
    rcases hj with rfl | rfl | rfl | rfl | rfl | rfl | rfl | rfl | rfl | rfl | rfl | rfl
    · exact .inl ⟨rfl, hb.1, hb.2⟩
    · exact .inr (.inl ⟨rfl, hb.1, hb.2⟩)
    · exact .inr (.inr (.inl ⟨rfl, hb.1, hb.2⟩))
    · exact .inr (.inr (.inr (.inl ⟨rfl, hb.1, hb.2⟩)))
    · exact .inr (.inr (.inr (.inr (.inl ⟨rfl, hb.1, hb.2⟩))))
    · exact .inr (.inr (.inr (.inr (.inr (.inl ⟨rfl, hb.1, hb.2⟩)))))
    · exact .inr (.inr (.inr (.inr (.inr (.inr (.inl ⟨rfl, hb.1, hb.2⟩))))))
    · exact .inr (.inr (.inr (.inr (.inr (.inr (.inr (.inl ⟨rfl, hb.1, hb.2⟩)))))))
    · exact .inr (.inr (.inr (.inr (.inr (.inr (.inr (.inr (.inl ⟨rfl, hb.1, hb.2⟩))))))))
    · exact .inr (.inr (.inr (.inr (.inr (.inr (.inr (.inr (.inr (.inl ⟨rfl, hb.1, hb.2⟩)))))))))
    · exact .inr (.inr (.inr (.inr (.inr (.inr (.inr (.inr (.inr (.inr (.inl ⟨rfl, hb.1, hb.2⟩))))))))))
    · exact .inr (.inr (.inr (.inr (.inr (.inr (.inr (.inr (.inr (.inr (.inr (⟨rfl, hb.1, hb.2⟩)))))))))))
  have qv1 : v1.toInt = (σ.1 8 p1.toNatClampNeg).toInt := congrArg Int32.toInt ev1
  refine ok_some.mpr ?_
  have f3 : (32 : Int32).toInt = 32 := by decide
  have f4 : ((32 : Int32) + v1).toInt = (32 : Int32).toInt + v1.toInt := iadd_toInt (by omega) (by omega)
  exact ⟨(show 32 ≤ (32 + v1).toInt by omega), (show (32 + v1).toInt ≤ 37 by omega)⟩
set_option maxRecDepth 20000 in
set_option maxHeartbeats 2000000 in
theorem o_fX4_numberUnknowns {σ : gS} (hIσ : JC σ)   : Ok (fX4_numberUnknowns σ ) (fun out => JC out ∧ Fr fr_fX4_numberUnknowns σ out) := by
  unfold fX4_numberUnknowns
  have hfσ : Fr fr_fX4_numberUnknowns σ σ := Fr_r
  have f1 : 0 ≤ (σ.1 96 4).toInt ∧ (σ.1 96 4).toInt ≤ 38 := hIσ 96 4
  refine ok_bd.mpr ((o_fill (c := 97) (v := (-1 : Int32)) hIσ (by decide) (fun i => ⟨show -1 ≤ (-1 : Int32).toInt by decide, show (-1 : Int32).toInt ≤ 37 by decide⟩)).mono (fun σ2 ho_2 => ?_))
  obtain ⟨hIσ2, hcσ2, hvσ2⟩ := ho_2
  have hfσ2 : Fr fr_fX4_numberUnknowns σ σ2 := Fr_c hfσ hcσ2 (by decide)
  have sσ2_96_4 : (σ2.1 96 4).toInt = (σ.1 96 4).toInt := by rw [(hcσ2 96 4 (by simp) (by simp)).1]
  refine ok_nm2 (fun x3 ex3 => ?_)
  have f3 : (0 : Int32).toInt = 0 := by decide
  have qx3 : x3.toInt = 0 := by rw [ex3]; decide
  refine ok_lpc (I := fun n s => n = (60 + 1 - s.1.toInt).toNat ∧ JC s.2 ∧ Fr fr_fX4_numberUnknowns σ s.2 ∧ 0 ≤ s.1.toInt ∧ s.1.toInt ≤ 60) (fun rec10_1r n_1 s_1 hs_1 hrec_1 => ?_) K9 ((60 + 1 - x3.toInt).toNat) (x3, σ2) ⟨rfl, hIσ2, hfσ2, (show 0 ≤ x3.toInt by omega), (show x3.toInt ≤ 60 by omega)⟩ (by unfold K9; omega)
  obtain ⟨a1_1, σ1_1⟩ := s_1
  obtain ⟨hn_1, hIσ1_1, hfσ1_1, b0a1_1, b1a1_1⟩ := hs_1
  dsimp only at hn_1 hIσ1_1 hfσ1_1 b0a1_1 b1a1_1
  unfold bX4_numberUnknowns_10
  try dsimp only
  have f4 : (3 : Int32).toInt = 3 := by decide
  refine ok_gd.mpr ⟨gb_of (by omega) (by omega), ?_⟩
  refine ok_nm2 (fun v4_47 ev4_47 => ?_)
  have f5 : 0 ≤ (σ1_1.1 3 3).toInt ∧ (σ1_1.1 3 3).toInt ≤ 60 := hIσ1_1 3 3
  have qv4_47 : v4_47.toInt = (σ1_1.1 3 3).toInt := congrArg Int32.toInt ev4_47
  refine ok_ite.mpr ⟨fun h_6 => ?_, fun h_6 => ?_⟩
  · have g7 : v4_47.toInt ≤ a1_1.toInt := Int32.le_iff_toInt_le.mp h_6
    refine ok_nm2 (fun x6_47 ex6_47 => ?_)
    have qx6_47 : x6_47.toInt = 0 := by rw [ex6_47]; decide
    refine ok_lpc (I := fun n s => n = (12 + 1 - s.1.toInt).toNat ∧ JC s.2 ∧ Fr fr_fX4_numberUnknowns σ s.2 ∧ 0 ≤ s.1.toInt ∧ s.1.toInt ≤ 12) (fun rec97_48r n_48 s_48 hs_48 hrec_48 => ?_) K9 ((12 + 1 - x6_47.toInt).toNat) (x6_47, σ1_1) ⟨rfl, hIσ1_1, hfσ1_1, (show 0 ≤ x6_47.toInt by omega), (show x6_47.toInt ≤ 12 by omega)⟩ (by unfold K9; omega)
    obtain ⟨a1_48, σ1_48⟩ := s_48
    obtain ⟨hn_48, hIσ1_48, hfσ1_48, b0a1_48, b1a1_48⟩ := hs_48
    dsimp only at hn_48 hIσ1_48 hfσ1_48 b0a1_48 b1a1_48
    unfold bX4_numberUnknowns_97
    try dsimp only
    have f8 : (1 : Int32).toInt = 1 := by decide
    refine ok_gd.mpr ⟨gb_of (by omega) (by omega), ?_⟩
    refine ok_nm2 (fun v7_58 ev7_58 => ?_)
    have f9 : 0 ≤ (σ1_48.1 3 1).toInt ∧ (σ1_48.1 3 1).toInt ≤ 12 := hIσ1_48 3 1
    have qv7_58 : v7_58.toInt = (σ1_48.1 3 1).toInt := congrArg Int32.toInt ev7_58
    refine ok_ite.mpr ⟨fun h_10 => ?_, fun h_10 => ?_⟩
    · have g11 : v7_58.toInt ≤ a1_48.toInt := Int32.le_iff_toInt_le.mp h_10
      refine ok_nm2 (fun σ9_58 eσ9_58 => ?_)
      have hIσ9_58 : JC σ9_58 := by rw [eσ9_58]; exact JC_w hIσ1_48 (show 0 ≤ _ by omega) (show _ ≤ 38 by omega)
      have hfσ9_58 : Fr fr_fX4_numberUnknowns σ σ9_58 := by rw [eσ9_58]; exact Fr_w hfσ1_48 (by decide)
      have sσ9_58_96_4 : (σ9_58.1 96 4).toInt = (0 : Int32).toInt := by rw [eσ9_58]; rfl
      refine ok_nm2 (fun x10_58 ex10_58 => ?_)
      have qx10_58 : x10_58.toInt = 0 := by rw [ex10_58]; decide
      have f12 : 0 ≤ (σ9_58.1 96 4).toInt ∧ (σ9_58.1 96 4).toInt ≤ 38 := hIσ9_58 96 4
      refine ok_lpc (I := fun n s => n = (38 + 1 - s.1.toInt).toNat ∧ JC s.2 ∧ Fr fr_fX4_numberUnknowns σ s.2 ∧ 0 ≤ s.1.toInt ∧ s.1.toInt ≤ 38 ∧ (s.2.1 96 4).toInt ≤ s.1.toInt) (fun rec156_59r n_59 s_59 hs_59 hrec_59 => ?_) K9 ((38 + 1 - x10_58.toInt).toNat) (x10_58, σ9_58) ⟨rfl, hIσ9_58, hfσ9_58, (show 0 ≤ x10_58.toInt by omega), (show x10_58.toInt ≤ 38 by omega), (show (σ9_58.1 96 4).toInt ≤ x10_58.toInt by omega)⟩ (by unfold K9; omega)
      obtain ⟨a1_59, σ1_59⟩ := s_59
      obtain ⟨hn_59, hIσ1_59, hfσ1_59, b0a1_59, b1a1_59, iv0_59⟩ := hs_59
      dsimp only at hn_59 hIσ1_59 hfσ1_59 b0a1_59 b1a1_59 iv0_59
      unfold bX4_numberUnknowns_156
      try dsimp only
      refine ok_ite.mpr ⟨fun h_13 => ?_, fun h_13 => ?_⟩
      · have f14 : (38 : Int32).toInt = 38 := by decide
        have g15 : (38 : Int32).toInt ≤ a1_59.toInt := Int32.le_iff_toInt_le.mp h_13
        refine ok_some.mpr ?_
        exact ⟨hIσ1_59, hfσ1_59⟩
      · have f16 : (38 : Int32).toInt = 38 := by decide
        have g17 : ¬ (38 : Int32).toInt ≤ a1_59.toInt := fun z => h_13 (Int32.le_iff_toInt_le.mpr z)
        refine ok_gd.mpr ⟨gb_of (by omega) (by omega), ?_⟩
        refine ok_nm2 (fun v12_60 ev12_60 => ?_)
        have f18 : -1 ≤ (σ1_59.1 97 a1_59.toNatClampNeg).toInt ∧ (σ1_59.1 97 a1_59.toNatClampNeg).toInt ≤ 37 := hIσ1_59 97 _
        have qv12_60 : v12_60.toInt = (σ1_59.1 97 a1_59.toNatClampNeg).toInt := congrArg Int32.toInt ev12_60
        refine ok_ite.mpr ⟨fun h_19 => ?_, fun h_19 => ?_⟩
        · have f20 : (-1 : Int32).toInt = -1 := by decide
          have g21 : v12_60.toInt = (-1 : Int32).toInt := by rw [h_19]
          refine ok_nm2 (fun x17_60 ex17_60 => ?_)
          have f22 : (a1_59 + (1 : Int32)).toInt = a1_59.toInt + (1 : Int32).toInt := iadd_toInt (by omega) (by omega)
          have qx17_60 : x17_60.toInt = (a1_59 + 1).toInt := congrArg Int32.toInt ex17_60
          have f23 : 0 ≤ (σ1_59.1 96 4).toInt ∧ (σ1_59.1 96 4).toInt ≤ 38 := hIσ1_59 96 4
          exact hrec_59 _ (x17_60, σ1_59) (show (38 + 1 - x17_60.toInt).toNat < n_59 by omega) ⟨rfl, hIσ1_59, hfσ1_59, (show 0 ≤ x17_60.toInt by omega), (show x17_60.toInt ≤ 38 by omega), (show (σ1_59.1 96 4).toInt ≤ x17_60.toInt by omega)⟩
        · have f24 : (-1 : Int32).toInt = -1 := by decide
          have g25 : v12_60.toInt ≠ (-1 : Int32).toInt := fun z => h_19 (Int32.toInt_inj.mp z)
          refine ok_gd.mpr ⟨gb_of (by omega) (by omega), ?_⟩
          refine ok_nm2 (fun σ14_60 eσ14_60 => ?_)
          have f26 : 0 ≤ (σ1_59.1 96 4).toInt ∧ (σ1_59.1 96 4).toInt ≤ 38 := hIσ1_59 96 4
          have hIσ14_60 : JC σ14_60 := by rw [eσ14_60]; exact JC_w hIσ1_59 (show -1 ≤ _ by omega) (show _ ≤ 37 by omega)
          have hfσ14_60 : Fr fr_fX4_numberUnknowns σ σ14_60 := by rw [eσ14_60]; exact Fr_w0 hfσ1_59 (by decide)
          have sσ14_60_96_4 : (σ14_60.1 96 4).toInt = (σ1_59.1 96 4).toInt := by rw [eσ14_60]; rfl
          refine ok_nm2 (fun σ15_60 eσ15_60 => ?_)
          have f27 : 0 ≤ (σ14_60.1 96 4).toInt ∧ (σ14_60.1 96 4).toInt ≤ 38 := hIσ14_60 96 4
          have f28 : ((σ14_60.1 96 4) + (1 : Int32)).toInt = (σ14_60.1 96 4).toInt + (1 : Int32).toInt := iadd_toInt (by omega) (by omega)
          have hIσ15_60 : JC σ15_60 := by rw [eσ15_60]; exact JC_w hIσ14_60 (show 0 ≤ _ by omega) (show _ ≤ 38 by omega)
          have hfσ15_60 : Fr fr_fX4_numberUnknowns σ σ15_60 := by rw [eσ15_60]; exact Fr_w hfσ14_60 (by decide)
          have sσ15_60_96_4 : (σ15_60.1 96 4).toInt = ((σ14_60.1 96 4) + 1).toInt := by rw [eσ15_60]; rfl
          refine ok_nm2 (fun x16_60 ex16_60 => ?_)
          have f29 : (a1_59 + (1 : Int32)).toInt = a1_59.toInt + (1 : Int32).toInt := iadd_toInt (by omega) (by omega)
          have qx16_60 : x16_60.toInt = (a1_59 + 1).toInt := congrArg Int32.toInt ex16_60
          have f30 : 0 ≤ (σ15_60.1 96 4).toInt ∧ (σ15_60.1 96 4).toInt ≤ 38 := hIσ15_60 96 4
          exact hrec_59 _ (x16_60, σ15_60) (show (38 + 1 - x16_60.toInt).toNat < n_59 by omega) ⟨rfl, hIσ15_60, hfσ15_60, (show 0 ≤ x16_60.toInt by omega), (show x16_60.toInt ≤ 38 by omega), (show (σ15_60.1 96 4).toInt ≤ x16_60.toInt by omega)⟩
    · have g31 : ¬ v7_58.toInt ≤ a1_48.toInt := fun z => h_10 (Int32.le_iff_toInt_le.mpr z)
      refine ok_gd.mpr ⟨gb_of (by omega) (by omega), ?_⟩
      refine ok_nm2 (fun v18_58 ev18_58 => ?_)
      have qv18_58 : v18_58.toInt = (σ1_48.1 20 a1_48.toNatClampNeg).toInt := congrArg Int32.toInt ev18_58
      refine ok_ite.mpr ⟨fun h_32 => ?_, fun h_32 => ?_⟩
      · have g33 : v18_58.toInt = (0 : Int32).toInt := by rw [h_32]
        refine ok_nm2 (fun x25_58 ex25_58 => ?_)
        have f34 : (a1_48 + (1 : Int32)).toInt = a1_48.toInt + (1 : Int32).toInt := iadd_toInt (by omega) (by omega)
        have qx25_58 : x25_58.toInt = (a1_48 + 1).toInt := congrArg Int32.toInt ex25_58
        exact hrec_48 _ (x25_58, σ1_48) (show (12 + 1 - x25_58.toInt).toNat < n_48 by omega) ⟨rfl, hIσ1_48, hfσ1_48, (show 0 ≤ x25_58.toInt by omega), (show x25_58.toInt ≤ 12 by omega)⟩
      · have g35 : v18_58.toInt ≠ (0 : Int32).toInt := fun z => h_32 (Int32.toInt_inj.mp z)
        refine ok_gd.mpr ⟨gb_of (by omega) (by omega), ?_⟩
        refine ok_nm2 (fun σ20_58 eσ20_58 => ?_)
        have hIσ20_58 : JC σ20_58 := by rw [eσ20_58]; exact JC_w hIσ1_48 (show -1 ≤ _ by omega) (show _ ≤ 37 by omega)
        have hfσ20_58 : Fr fr_fX4_numberUnknowns σ σ20_58 := by rw [eσ20_58]; exact Fr_w0 hfσ1_48 (by decide)
        have sσ20_58_96_4 : (σ20_58.1 96 4).toInt = (σ1_48.1 96 4).toInt := by rw [eσ20_58]; rfl
        refine ok_bd.mpr ?_
        try unfold fX4_driftOf
        refine ok_gd.mpr ⟨gb_of (by omega) (by omega), ?_⟩
        refine ok_nm2 (fun v1_61 ev1_61 => ?_)
        have f37 : a1_48.toNatClampNeg = a1_48.toInt.toNat := rfl
        have f37_ : (a1_48.toNatClampNeg = 0 ∧ 0 ≤ (σ20_58.1 8 a1_48.toNatClampNeg).toInt ∧ (σ20_58.1 8 a1_48.toNatClampNeg).toInt ≤ 5) ∨ (a1_48.toNatClampNeg = 1 ∧ 0 ≤ (σ20_58.1 8 a1_48.toNatClampNeg).toInt ∧ (σ20_58.1 8 a1_48.toNatClampNeg).toInt ≤ 5) ∨ (a1_48.toNatClampNeg = 2 ∧ 0 ≤ (σ20_58.1 8 a1_48.toNatClampNeg).toInt ∧ (σ20_58.1 8 a1_48.toNatClampNeg).toInt ≤ 5) ∨ (a1_48.toNatClampNeg = 3 ∧ 0 ≤ (σ20_58.1 8 a1_48.toNatClampNeg).toInt ∧ (σ20_58.1 8 a1_48.toNatClampNeg).toInt ≤ 5) ∨ (a1_48.toNatClampNeg = 4 ∧ 0 ≤ (σ20_58.1 8 a1_48.toNatClampNeg).toInt ∧ (σ20_58.1 8 a1_48.toNatClampNeg).toInt ≤ 5) ∨ (a1_48.toNatClampNeg = 5 ∧ 0 ≤ (σ20_58.1 8 a1_48.toNatClampNeg).toInt ∧ (σ20_58.1 8 a1_48.toNatClampNeg).toInt ≤ 5) ∨ (a1_48.toNatClampNeg = 6 ∧ 0 ≤ (σ20_58.1 8 a1_48.toNatClampNeg).toInt ∧ (σ20_58.1 8 a1_48.toNatClampNeg).toInt ≤ 5) ∨ (a1_48.toNatClampNeg = 7 ∧ 0 ≤ (σ20_58.1 8 a1_48.toNatClampNeg).toInt ∧ (σ20_58.1 8 a1_48.toNatClampNeg).toInt ≤ 5) ∨ (a1_48.toNatClampNeg = 8 ∧ 0 ≤ (σ20_58.1 8 a1_48.toNatClampNeg).toInt ∧ (σ20_58.1 8 a1_48.toNatClampNeg).toInt ≤ 5) ∨ (a1_48.toNatClampNeg = 9 ∧ 0 ≤ (σ20_58.1 8 a1_48.toNatClampNeg).toInt ∧ (σ20_58.1 8 a1_48.toNatClampNeg).toInt ≤ 5) ∨ (a1_48.toNatClampNeg = 10 ∧ 0 ≤ (σ20_58.1 8 a1_48.toNatClampNeg).toInt ∧ (σ20_58.1 8 a1_48.toNatClampNeg).toInt ≤ 5) ∨ (a1_48.toNatClampNeg = 11 ∧ 0 ≤ (σ20_58.1 8 a1_48.toNatClampNeg).toInt ∧ (σ20_58.1 8 a1_48.toNatClampNeg).toInt ≤ 5) := by
          have hb := hIσ20_58 8 a1_48.toNatClampNeg
          have hj : a1_48.toNatClampNeg = 0 ∨ a1_48.toNatClampNeg = 1 ∨ a1_48.toNatClampNeg = 2 ∨ a1_48.toNatClampNeg = 3 ∨ a1_48.toNatClampNeg = 4 ∨ a1_48.toNatClampNeg = 5 ∨ a1_48.toNatClampNeg = 6 ∨ a1_48.toNatClampNeg = 7 ∨ a1_48.toNatClampNeg = 8 ∨ a1_48.toNatClampNeg = 9 ∨ a1_48.toNatClampNeg = 10 ∨ a1_48.toNatClampNeg = 11 := by omega
          generalize a1_48.toNatClampNeg = j at hb hj ⊢
          rcases hj with rfl | rfl | rfl | rfl | rfl | rfl | rfl | rfl | rfl | rfl | rfl | rfl
          · exact .inl ⟨rfl, hb.1, hb.2⟩
          · exact .inr (.inl ⟨rfl, hb.1, hb.2⟩)
          · exact .inr (.inr (.inl ⟨rfl, hb.1, hb.2⟩))
          · exact .inr (.inr (.inr (.inl ⟨rfl, hb.1, hb.2⟩)))
          · exact .inr (.inr (.inr (.inr (.inl ⟨rfl, hb.1, hb.2⟩))))
          · exact .inr (.inr (.inr (.inr (.inr (.inl ⟨rfl, hb.1, hb.2⟩)))))
          · exact .inr (.inr (.inr (.inr (.inr (.inr (.inl ⟨rfl, hb.1, hb.2⟩))))))
          · exact .inr (.inr (.inr (.inr (.inr (.inr (.inr (.inl ⟨rfl, hb.1, hb.2⟩)))))))
          · exact .inr (.inr (.inr (.inr (.inr (.inr (.inr (.inr (.inl ⟨rfl, hb.1, hb.2⟩))))))))
          · exact .inr (.inr (.inr (.inr (.inr (.inr (.inr (.inr (.inr (.inl ⟨rfl, hb.1, hb.2⟩)))))))))
          · exact .inr (.inr (.inr (.inr (.inr (.inr (.inr (.inr (.inr (.inr (.inl ⟨rfl, hb.1, hb.2⟩))))))))))
          · exact .inr (.inr (.inr (.inr (.inr (.inr (.inr (.inr (.inr (.inr (.inr (⟨rfl, hb.1, hb.2⟩)))))))))))
        have qv1_61 : v1_61.toInt = (σ20_58.1 8 a1_48.toNatClampNeg).toInt := congrArg Int32.toInt ev1_61
        refine ok_some.mpr ?_
        have f38 : (32 : Int32).toInt = 32 := by decide
        have f39 : ((32 : Int32) + v1_61).toInt = (32 : Int32).toInt + v1_61.toInt := iadd_toInt (by omega) (by omega)
        refine ok_gd.mpr ⟨gb_of (by omega) (by omega), ?_⟩
        refine ok_nm2 (fun σ23_58_62 eσ23_58_62 => ?_)
        have hIσ23_58_62 : JC σ23_58_62 := by rw [eσ23_58_62]; exact JC_w hIσ20_58 (show -1 ≤ _ by omega) (show _ ≤ 37 by omega)
        have hfσ23_58_62 : Fr fr_fX4_numberUnknowns σ σ23_58_62 := by rw [eσ23_58_62]; exact Fr_w0 hfσ20_58 (by decide)
        have sσ23_58_62_96_4 : (σ23_58_62.1 96 4).toInt = (σ20_58.1 96 4).toInt := by rw [eσ23_58_62]; rfl
        refine ok_nm2 (fun x24_58_62 ex24_58_62 => ?_)
        have f40 : (a1_48 + (1 : Int32)).toInt = a1_48.toInt + (1 : Int32).toInt := iadd_toInt (by omega) (by omega)
        have qx24_58_62 : x24_58_62.toInt = (a1_48 + 1).toInt := congrArg Int32.toInt ex24_58_62
        exact hrec_48 _ (x24_58_62, σ23_58_62) (show (12 + 1 - x24_58_62.toInt).toNat < n_48 by omega) ⟨rfl, hIσ23_58_62, hfσ23_58_62, (show 0 ≤ x24_58_62.toInt by omega), (show x24_58_62.toInt ≤ 12 by omega)⟩
  · have g41 : ¬ v4_47.toInt ≤ a1_1.toInt := fun z => h_6 (Int32.le_iff_toInt_le.mpr z)
    refine ok_bd.mpr ?_
    try unfold fX5_uses_47
    refine ok_gd.mpr ⟨gb_of (by omega) (by omega), ?_⟩
    refine ok_nm2 (fun v1_63 ev1_63 => ?_)
    have qv1_63 : v1_63.toInt = (σ1_1.1 58 a1_1.toNatClampNeg).toInt := congrArg Int32.toInt ev1_63
    refine ok_ite.mpr ⟨fun h_42 => ?_, fun h_42 => ?_⟩
    · have g43 : v1_63.toInt = (0 : Int32).toInt := by rw [h_42]
      refine ok_some.mpr ?_
      refine ok_ite.mpr ⟨fun h_44 => ?_, fun h_44 => ?_⟩
      · have f45 : (1 : Int32).toInt = 1 := by decide
        have g46 : (1 : Int32).toInt = (0 : Int32).toInt := by rw [h_44]
        exfalso
        omega
      · have f47 : (1 : Int32).toInt = 1 := by decide
        have g48 : (1 : Int32).toInt ≠ (0 : Int32).toInt := fun z => h_44 (Int32.toInt_inj.mp z)
        refine ok_gd.mpr ⟨gb_of (by omega) (by omega), ?_⟩
        refine ok_nm2 (fun v29_47_64 ev29_47_64 => ?_)
        have f49 : 0 ≤ (σ1_1.1 10 a1_1.toNatClampNeg).toInt ∧ (σ1_1.1 10 a1_1.toNatClampNeg).toInt ≤ 11 := hIσ1_1 10 _
        have qv29_47_64 : v29_47_64.toInt = (σ1_1.1 10 a1_1.toNatClampNeg).toInt := congrArg Int32.toInt ev29_47_64
        refine ok_gd.mpr ⟨gb_of (by omega) (by omega), ?_⟩
        refine ok_nm2 (fun σ30_47_64 eσ30_47_64 => ?_)
        have hIσ30_47_64 : JC σ30_47_64 := by rw [eσ30_47_64]; exact JC_w hIσ1_1 (show -1 ≤ _ by omega) (show _ ≤ 37 by omega)
        have hfσ30_47_64 : Fr fr_fX4_numberUnknowns σ σ30_47_64 := by rw [eσ30_47_64]; exact Fr_w0 hfσ1_1 (by decide)
        have sσ30_47_64_96_4 : (σ30_47_64.1 96 4).toInt = (σ1_1.1 96 4).toInt := by rw [eσ30_47_64]; rfl
        refine ok_gd.mpr ⟨gb_of (by omega) (by omega), ?_⟩
        refine ok_nm2 (fun v31_47_64 ev31_47_64 => ?_)
        have f50 : 0 ≤ (σ30_47_64.1 11 a1_1.toNatClampNeg).toInt ∧ (σ30_47_64.1 11 a1_1.toNatClampNeg).toInt ≤ 19 := hIσ30_47_64 11 _
        have qv31_47_64 : v31_47_64.toInt = (σ30_47_64.1 11 a1_1.toNatClampNeg).toInt := congrArg Int32.toInt ev31_47_64
        refine ok_bd.mpr ?_
        try unfold fX5_isFixed_47
        refine ok_gd.mpr ⟨gb_of (by omega) (by omega), ?_⟩
        refine ok_nm2 (fun v1_65 ev1_65 => ?_)
        have qv1_65 : v1_65.toInt = (σ30_47_64.1 16 v31_47_64.toNatClampNeg).toInt := congrArg Int32.toInt ev1_65
        refine ok_ite.mpr ⟨fun h_51 => ?_, fun h_51 => ?_⟩
        · have g52 : (v1_65 &&& (σ30_47_64.1 47 1)).toInt = (0 : Int32).toInt := by rw [h_51]
          refine ok_some.mpr ?_
          refine ok_ite.mpr ⟨fun h_53 => ?_, fun h_53 => ?_⟩
          · have g54 : (0 : Int32).toInt = (0 : Int32).toInt := by rw [h_53]
            refine ok_gd.mpr ⟨gb_of (by omega) (by omega), ?_⟩
            refine ok_nm2 (fun v36_47_64_66 ev36_47_64_66 => ?_)
            have qv36_47_64_66 : v36_47_64_66.toInt = (σ30_47_64.1 11 a1_1.toNatClampNeg).toInt := congrArg Int32.toInt ev36_47_64_66
            have f55 : (12 : Int32).toInt = 12 := by decide
            have f56 : ((12 : Int32) + v36_47_64_66).toInt = (12 : Int32).toInt + v36_47_64_66.toInt := iadd_toInt (by omega) (by omega)
            refine ok_gd.mpr ⟨gb_of (by omega) (by omega), ?_⟩
            refine ok_nm2 (fun σ37_47_64_66 eσ37_47_64_66 => ?_)
            have hIσ37_47_64_66 : JC σ37_47_64_66 := by rw [eσ37_47_64_66]; exact JC_w hIσ30_47_64 (show -1 ≤ _ by omega) (show _ ≤ 37 by omega)
            have hfσ37_47_64_66 : Fr fr_fX4_numberUnknowns σ σ37_47_64_66 := by rw [eσ37_47_64_66]; exact Fr_w0 hfσ30_47_64 (by decide)
            have sσ37_47_64_66_96_4 : (σ37_47_64_66.1 96 4).toInt = (σ30_47_64.1 96 4).toInt := by rw [eσ37_47_64_66]; rfl
            refine ok_nm2 (fun x38_47_64_66 ex38_47_64_66 => ?_)
            have f57 : (a1_1 + (1 : Int32)).toInt = a1_1.toInt + (1 : Int32).toInt := iadd_toInt (by omega) (by omega)
            have qx38_47_64_66 : x38_47_64_66.toInt = (a1_1 + 1).toInt := congrArg Int32.toInt ex38_47_64_66
            exact hrec_1 _ (x38_47_64_66, σ37_47_64_66) (show (60 + 1 - x38_47_64_66.toInt).toNat < n_1 by omega) ⟨rfl, hIσ37_47_64_66, hfσ37_47_64_66, (show 0 ≤ x38_47_64_66.toInt by omega), (show x38_47_64_66.toInt ≤ 60 by omega)⟩
          · have g58 : (0 : Int32).toInt ≠ (0 : Int32).toInt := fun z => h_53 (Int32.toInt_inj.mp z)
            exfalso
            omega
        · have g59 : (v1_65 &&& (σ30_47_64.1 47 1)).toInt ≠ (0 : Int32).toInt := fun z => h_51 (Int32.toInt_inj.mp z)
          refine ok_some.mpr ?_
          refine ok_ite.mpr ⟨fun h_60 => ?_, fun h_60 => ?_⟩
          · have g61 : (1 : Int32).toInt = (0 : Int32).toInt := by rw [h_60]
            exfalso
            omega
          · have g62 : (1 : Int32).toInt ≠ (0 : Int32).toInt := fun z => h_60 (Int32.toInt_inj.mp z)
            refine ok_nm2 (fun x35_47_64_67 ex35_47_64_67 => ?_)
            have f63 : (a1_1 + (1 : Int32)).toInt = a1_1.toInt + (1 : Int32).toInt := iadd_toInt (by omega) (by omega)
            have qx35_47_64_67 : x35_47_64_67.toInt = (a1_1 + 1).toInt := congrArg Int32.toInt ex35_47_64_67
            exact hrec_1 _ (x35_47_64_67, σ30_47_64) (show (60 + 1 - x35_47_64_67.toInt).toNat < n_1 by omega) ⟨rfl, hIσ30_47_64, hfσ30_47_64, (show 0 ≤ x35_47_64_67.toInt by omega), (show x35_47_64_67.toInt ≤ 60 by omega)⟩
    · have g64 : v1_63.toInt ≠ (0 : Int32).toInt := fun z => h_42 (Int32.toInt_inj.mp z)
      refine ok_some.mpr ?_
      refine ok_ite.mpr ⟨fun h_65 => ?_, fun h_65 => ?_⟩
      · have g66 : (0 : Int32).toInt = (0 : Int32).toInt := by rw [h_65]
        refine ok_nm2 (fun x39_47_68 ex39_47_68 => ?_)
        have f67 : (1 : Int32).toInt = 1 := by decide
        have f68 : (a1_1 + (1 : Int32)).toInt = a1_1.toInt + (1 : Int32).toInt := iadd_toInt (by omega) (by omega)
        have qx39_47_68 : x39_47_68.toInt = (a1_1 + 1).toInt := congrArg Int32.toInt ex39_47_68
        exact hrec_1 _ (x39_47_68, σ1_1) (show (60 + 1 - x39_47_68.toInt).toNat < n_1 by omega) ⟨rfl, hIσ1_1, hfσ1_1, (show 0 ≤ x39_47_68.toInt by omega), (show x39_47_68.toInt ≤ 60 by omega)⟩
      · have g69 : (0 : Int32).toInt ≠ (0 : Int32).toInt := fun z => h_65 (Int32.toInt_inj.mp z)
        exfalso
        omega
set_option maxRecDepth 20000 in
set_option maxHeartbeats 2000000 in
theorem o_fJ9_floorMod_f86c9 {σ : gS} (hIσ : JC σ) {p0 : Int64} {p2 : Int64} (pre0 : p2.toInt ≠ 0) : Ok (fJ9_floorMod_f86c9 σ p0 p2) (fun _ => True) := by
  unfold fJ9_floorMod_f86c9
  refine ok_gd.mpr ⟨decide_eq_true (fun h_1 => ?_), ?_⟩
  · have f2 : (0 : Int64).toInt = 0 := by decide
    have g3 : p2.toInt = (0 : Int64).toInt := by rw [h_1]
    exfalso
    omega
  refine ok_nm2 (fun x2 ex2 => ?_)
  refine ok_ite.mpr ⟨fun h_4 => ?_, fun h_4 => ?_⟩
  · have f5 : (0 : Int64).toInt = 0 := by decide
    refine ok_some.mpr ?_
    exact trivial
  · have f6 : (0 : Int64).toInt = 0 := by decide
    refine ok_ite.mpr ⟨fun h_7 => ?_, fun h_7 => ?_⟩
    · have g8 : x2.toInt = (0 : Int64).toInt := by rw [h_7]
      refine ok_some.mpr ?_
      exact trivial
    · have g9 : x2.toInt ≠ (0 : Int64).toInt := fun z => h_7 (Int64.toInt_inj.mp z)
      refine ok_some.mpr ?_
      exact trivial
set_option maxRecDepth 20000 in
set_option maxHeartbeats 2000000 in
theorem o_fX4_addHold {σ : gS} (hIσ : JC σ) {p1 : Int32} {p2 : Int32} {p3 : Int32} (h0p1 : 0 ≤ p1.toInt) (h1p1 : p1.toInt ≤ 37) : Ok (fX4_addHold σ p1 p2 p3) (fun out => JC out ∧ Fr fr_fX4_addHold σ out) := by
  unfold fX4_addHold
  have hfσ : Fr fr_fX4_addHold σ σ := Fr_r
  have f1 : 0 ≤ (σ.1 96 4).toInt ∧ (σ.1 96 4).toInt ≤ 38 := hIσ 96 4
  refine ok_gd.mpr ⟨gb_of (by omega) (by omega), ?_⟩
  refine ok_nm2 (fun v1 ev1 => ?_)
  have f2 : -1 ≤ (σ.1 97 p1.toNatClampNeg).toInt ∧ (σ.1 97 p1.toNatClampNeg).toInt ≤ 37 := hIσ 97 _
  have qv1 : v1.toInt = (σ.1 97 p1.toNatClampNeg).toInt := congrArg Int32.toInt ev1
  refine ok_nm.mpr ?_
  refine ok_ite.mpr ⟨fun h_3 => ?_, fun h_3 => ?_⟩
  · have f4 : (-1 : Int32).toInt = -1 := by decide
    have g5 : v1.toInt = (-1 : Int32).toInt := by rw [h_3]
    refine ok_some.mpr ?_
    exact ⟨hIσ, hfσ⟩
  · have f6 : (-1 : Int32).toInt = -1 := by decide
    have g7 : v1.toInt ≠ (-1 : Int32).toInt := fun z => h_3 (Int32.toInt_inj.mp z)
    refine ok_gd.mpr ⟨gb_of (by omega) (by omega), ?_⟩
    refine ok_gd.mpr ⟨gb_of (by omega) (by omega), ?_⟩
    refine ok_nm2 (fun v5_1 ev5_1 => ?_)
    refine ok_gd.mpr ⟨gb_of (by omega) (by omega), ?_⟩
    refine ok_nm2 (fun σ6_1 eσ6_1 => ?_)
    have hIσ6_1 : JC σ6_1 := by rw [eσ6_1]; exact JC_l hIσ
    have f8 : v1.toNatClampNeg = v1.toInt.toNat := rfl
    have hfσ6_1 : Fr fr_fX4_addHold σ σ6_1 := by
      have hj : (99 + v1.toNatClampNeg) = 99 ∨ (99 + v1.toNatClampNeg) = 100 ∨ (99 + v1.toNatClampNeg) = 101 ∨ (99 + v1.toNatClampNeg) = 102 ∨ (99 + v1.toNatClampNeg) = 103 ∨ (99 + v1.toNatClampNeg) = 104 ∨ (99 + v1.toNatClampNeg) = 105 ∨ (99 + v1.toNatClampNeg) = 106 ∨ (99 + v1.toNatClampNeg) = 107 ∨ (99 + v1.toNatClampNeg) = 108 ∨ (99 + v1.toNatClampNeg) = 109 ∨ (99 + v1.toNatClampNeg) = 110 ∨ (99 + v1.toNatClampNeg) = 111 ∨ (99 + v1.toNatClampNeg) = 112 ∨ (99 + v1.toNatClampNeg) = 113 ∨ (99 + v1.toNatClampNeg) = 114 ∨ (99 + v1.toNatClampNeg) = 115 ∨ (99 + v1.toNatClampNeg) = 116 ∨ (99 + v1.toNatClampNeg) = 117 ∨ (99 + v1.toNatClampNeg) = 118 ∨ (99 + v1.toNatClampNeg) = 119 ∨ (99 + v1.toNatClampNeg) = 120 ∨ (99 + v1.toNatClampNeg) = 121 ∨ (99 + v1.toNatClampNeg) = 122 ∨ (99 + v1.toNatClampNeg) = 123 ∨ (99 + v1.toNatClampNeg) = 124 ∨ (99 + v1.toNatClampNeg) = 125 ∨ (99 + v1.toNatClampNeg) = 126 ∨ (99 + v1.toNatClampNeg) = 127 ∨ (99 + v1.toNatClampNeg) = 128 ∨ (99 + v1.toNatClampNeg) = 129 ∨ (99 + v1.toNatClampNeg) = 130 ∨ (99 + v1.toNatClampNeg) = 131 ∨ (99 + v1.toNatClampNeg) = 132 ∨ (99 + v1.toNatClampNeg) = 133 ∨ (99 + v1.toNatClampNeg) = 134 ∨ (99 + v1.toNatClampNeg) = 135 ∨ (99 + v1.toNatClampNeg) = 136 := by omega
      rw [eσ6_1]; exact Fr_l0 hfσ (by rcases hj with hj | hj | hj | hj | hj | hj | hj | hj | hj | hj | hj | hj | hj | hj | hj | hj | hj | hj | hj | hj | hj | hj | hj | hj | hj | hj | hj | hj | hj | hj | hj | hj | hj | hj | hj | hj | hj | hj <;> rw [hj] <;> decide)
    have sσ6_1_96_4 : (σ6_1.1 96 4).toInt = (σ.1 96 4).toInt := by rw [eσ6_1]; rfl
    refine ok_gd.mpr ⟨gb_of (by omega) (by omega), ?_⟩
    have f9 : 0 ≤ (σ6_1.1 96 4).toInt ∧ (σ6_1.1 96 4).toInt ≤ 38 := hIσ6_1 96 4
    refine ok_gd.mpr ⟨gb_of (by omega) (by omega), ?_⟩
    refine ok_nm2 (fun v8_1 ev8_1 => ?_)
    refine ok_gd.mpr ⟨gb_of (by omega) (by omega), ?_⟩
    refine ok_nm2 (fun σ9_1 eσ9_1 => ?_)
    have hIσ9_1 : JC σ9_1 := by rw [eσ9_1]; exact JC_l hIσ6_1
    have hfσ9_1 : Fr fr_fX4_addHold σ σ9_1 := by
      have hj : (99 + v1.toNatClampNeg) = 99 ∨ (99 + v1.toNatClampNeg) = 100 ∨ (99 + v1.toNatClampNeg) = 101 ∨ (99 + v1.toNatClampNeg) = 102 ∨ (99 + v1.toNatClampNeg) = 103 ∨ (99 + v1.toNatClampNeg) = 104 ∨ (99 + v1.toNatClampNeg) = 105 ∨ (99 + v1.toNatClampNeg) = 106 ∨ (99 + v1.toNatClampNeg) = 107 ∨ (99 + v1.toNatClampNeg) = 108 ∨ (99 + v1.toNatClampNeg) = 109 ∨ (99 + v1.toNatClampNeg) = 110 ∨ (99 + v1.toNatClampNeg) = 111 ∨ (99 + v1.toNatClampNeg) = 112 ∨ (99 + v1.toNatClampNeg) = 113 ∨ (99 + v1.toNatClampNeg) = 114 ∨ (99 + v1.toNatClampNeg) = 115 ∨ (99 + v1.toNatClampNeg) = 116 ∨ (99 + v1.toNatClampNeg) = 117 ∨ (99 + v1.toNatClampNeg) = 118 ∨ (99 + v1.toNatClampNeg) = 119 ∨ (99 + v1.toNatClampNeg) = 120 ∨ (99 + v1.toNatClampNeg) = 121 ∨ (99 + v1.toNatClampNeg) = 122 ∨ (99 + v1.toNatClampNeg) = 123 ∨ (99 + v1.toNatClampNeg) = 124 ∨ (99 + v1.toNatClampNeg) = 125 ∨ (99 + v1.toNatClampNeg) = 126 ∨ (99 + v1.toNatClampNeg) = 127 ∨ (99 + v1.toNatClampNeg) = 128 ∨ (99 + v1.toNatClampNeg) = 129 ∨ (99 + v1.toNatClampNeg) = 130 ∨ (99 + v1.toNatClampNeg) = 131 ∨ (99 + v1.toNatClampNeg) = 132 ∨ (99 + v1.toNatClampNeg) = 133 ∨ (99 + v1.toNatClampNeg) = 134 ∨ (99 + v1.toNatClampNeg) = 135 ∨ (99 + v1.toNatClampNeg) = 136 := by omega
      rw [eσ9_1]; exact Fr_l0 hfσ6_1 (by rcases hj with hj | hj | hj | hj | hj | hj | hj | hj | hj | hj | hj | hj | hj | hj | hj | hj | hj | hj | hj | hj | hj | hj | hj | hj | hj | hj | hj | hj | hj | hj | hj | hj | hj | hj | hj | hj | hj | hj <;> rw [hj] <;> decide)
    have sσ9_1_96_4 : (σ9_1.1 96 4).toInt = (σ6_1.1 96 4).toInt := by rw [eσ9_1]; rfl
    refine ok_some.mpr ?_
    exact ⟨hIσ9_1, hfσ9_1⟩
set_option maxRecDepth 20000 in
set_option maxHeartbeats 2000000 in
theorem o_fX4_addTerm {σ : gS} (hIσ : JC σ) {p1 : Int32} {p2 : Int32} {p3 : Int32} {p4 : Int32} (h0p1 : 0 ≤ p1.toInt) (h1p1 : p1.toInt ≤ 37) (h0p2 : 0 ≤ p2.toInt) (h1p2 : p2.toInt ≤ 37) : Ok (fX4_addTerm σ p1 p2 p3 p4) (fun out => JC out ∧ Fr fr_fX4_addTerm σ out) := by
  unfold fX4_addTerm
  have hfσ : Fr fr_fX4_addTerm σ σ := Fr_r
  refine ok_gd.mpr ⟨gb_of (by omega) (by omega), ?_⟩
  refine ok_nm2 (fun v1 ev1 => ?_)
  have f1 : -1 ≤ (σ.1 97 p1.toNatClampNeg).toInt ∧ (σ.1 97 p1.toNatClampNeg).toInt ≤ 37 := hIσ 97 _
  have qv1 : v1.toInt = (σ.1 97 p1.toNatClampNeg).toInt := congrArg Int32.toInt ev1
  refine ok_nm.mpr ?_
  refine ok_gd.mpr ⟨gb_of (by omega) (by omega), ?_⟩
  refine ok_nm2 (fun v3_1 ev3_1 => ?_)
  have f2 : -1 ≤ (σ.1 97 p2.toNatClampNeg).toInt ∧ (σ.1 97 p2.toNatClampNeg).toInt ≤ 37 := hIσ 97 _
  have qv3_1 : v3_1.toInt = (σ.1 97 p2.toNatClampNeg).toInt := congrArg Int32.toInt ev3_1
  refine ok_nm.mpr ?_
  refine ok_ite.mpr ⟨fun h_3 => ?_, fun h_3 => ?_⟩
  · have f4 : (-1 : Int32).toInt = -1 := by decide
    have g5 : v1.toInt = (-1 : Int32).toInt := by rw [h_3]
    refine ok_some.mpr ?_
    exact ⟨hIσ, hfσ⟩
  · have f6 : (-1 : Int32).toInt = -1 := by decide
    have g7 : v1.toInt ≠ (-1 : Int32).toInt := fun z => h_3 (Int32.toInt_inj.mp z)
    refine ok_ite.mpr ⟨fun h_8 => ?_, fun h_8 => ?_⟩
    · have g9 : v3_1.toInt = (-1 : Int32).toInt := by rw [h_8]
      refine ok_some.mpr ?_
      exact ⟨hIσ, hfσ⟩
    · have g10 : v3_1.toInt ≠ (-1 : Int32).toInt := fun z => h_8 (Int32.toInt_inj.mp z)
      refine ok_bd.mpr ((o_fX4_addHold hIσ (p1 := p1) (p2 := p3) (p3 := p4) (by omega) (by omega)).mono (fun σ8_1_2 ho_12 => ?_))
      obtain ⟨hIσ8_1_2, hcσ8_1_2⟩ := ho_12
      have hfσ8_1_2 : Fr fr_fX4_addTerm σ σ8_1_2 := Fr_c hfσ hcσ8_1_2 (by decide)
      refine ok_bd.mpr ((o_fX4_addHold hIσ8_1_2 (p1 := p2) (p2 := p3) (p3 := (-p4)) (by omega) (by omega)).mono (fun σ10_1_2 ho_14 => ?_))
      obtain ⟨hIσ10_1_2, hcσ10_1_2⟩ := ho_14
      have hfσ10_1_2 : Fr fr_fX4_addTerm σ σ10_1_2 := Fr_c hfσ8_1_2 hcσ10_1_2 (by decide)
      refine ok_gd.mpr ⟨gb_of (by omega) (by omega), ?_⟩
      refine ok_gd.mpr ⟨gb_of (by omega) (by omega), ?_⟩
      refine ok_nm2 (fun v12_1_2 ev12_1_2 => ?_)
      refine ok_gd.mpr ⟨gb_of (by omega) (by omega), ?_⟩
      refine ok_nm2 (fun σ13_1_2 eσ13_1_2 => ?_)
      have hIσ13_1_2 : JC σ13_1_2 := by rw [eσ13_1_2]; exact JC_l hIσ10_1_2
      have f15 : v1.toNatClampNeg = v1.toInt.toNat := rfl
      have hfσ13_1_2 : Fr fr_fX4_addTerm σ σ13_1_2 := by
        have hj : (99 + v1.toNatClampNeg) = 99 ∨ (99 + v1.toNatClampNeg) = 100 ∨ (99 + v1.toNatClampNeg) = 101 ∨ (99 + v1.toNatClampNeg) = 102 ∨ (99 + v1.toNatClampNeg) = 103 ∨ (99 + v1.toNatClampNeg) = 104 ∨ (99 + v1.toNatClampNeg) = 105 ∨ (99 + v1.toNatClampNeg) = 106 ∨ (99 + v1.toNatClampNeg) = 107 ∨ (99 + v1.toNatClampNeg) = 108 ∨ (99 + v1.toNatClampNeg) = 109 ∨ (99 + v1.toNatClampNeg) = 110 ∨ (99 + v1.toNatClampNeg) = 111 ∨ (99 + v1.toNatClampNeg) = 112 ∨ (99 + v1.toNatClampNeg) = 113 ∨ (99 + v1.toNatClampNeg) = 114 ∨ (99 + v1.toNatClampNeg) = 115 ∨ (99 + v1.toNatClampNeg) = 116 ∨ (99 + v1.toNatClampNeg) = 117 ∨ (99 + v1.toNatClampNeg) = 118 ∨ (99 + v1.toNatClampNeg) = 119 ∨ (99 + v1.toNatClampNeg) = 120 ∨ (99 + v1.toNatClampNeg) = 121 ∨ (99 + v1.toNatClampNeg) = 122 ∨ (99 + v1.toNatClampNeg) = 123 ∨ (99 + v1.toNatClampNeg) = 124 ∨ (99 + v1.toNatClampNeg) = 125 ∨ (99 + v1.toNatClampNeg) = 126 ∨ (99 + v1.toNatClampNeg) = 127 ∨ (99 + v1.toNatClampNeg) = 128 ∨ (99 + v1.toNatClampNeg) = 129 ∨ (99 + v1.toNatClampNeg) = 130 ∨ (99 + v1.toNatClampNeg) = 131 ∨ (99 + v1.toNatClampNeg) = 132 ∨ (99 + v1.toNatClampNeg) = 133 ∨ (99 + v1.toNatClampNeg) = 134 ∨ (99 + v1.toNatClampNeg) = 135 ∨ (99 + v1.toNatClampNeg) = 136 := by omega
        rw [eσ13_1_2]; exact Fr_l0 hfσ10_1_2 (by rcases hj with hj | hj | hj | hj | hj | hj | hj | hj | hj | hj | hj | hj | hj | hj | hj | hj | hj | hj | hj | hj | hj | hj | hj | hj | hj | hj | hj | hj | hj | hj | hj | hj | hj | hj | hj | hj | hj | hj <;> rw [hj] <;> decide)
      refine ok_gd.mpr ⟨gb_of (by omega) (by omega), ?_⟩
      refine ok_gd.mpr ⟨gb_of (by omega) (by omega), ?_⟩
      refine ok_nm2 (fun v15_1_2 ev15_1_2 => ?_)
      refine ok_gd.mpr ⟨gb_of (by omega) (by omega), ?_⟩
      refine ok_nm2 (fun σ16_1_2 eσ16_1_2 => ?_)
      have hIσ16_1_2 : JC σ16_1_2 := by rw [eσ16_1_2]; exact JC_l hIσ13_1_2
      have f16 : v3_1.toNatClampNeg = v3_1.toInt.toNat := rfl
      have hfσ16_1_2 : Fr fr_fX4_addTerm σ σ16_1_2 := by
        have hj : (99 + v3_1.toNatClampNeg) = 99 ∨ (99 + v3_1.toNatClampNeg) = 100 ∨ (99 + v3_1.toNatClampNeg) = 101 ∨ (99 + v3_1.toNatClampNeg) = 102 ∨ (99 + v3_1.toNatClampNeg) = 103 ∨ (99 + v3_1.toNatClampNeg) = 104 ∨ (99 + v3_1.toNatClampNeg) = 105 ∨ (99 + v3_1.toNatClampNeg) = 106 ∨ (99 + v3_1.toNatClampNeg) = 107 ∨ (99 + v3_1.toNatClampNeg) = 108 ∨ (99 + v3_1.toNatClampNeg) = 109 ∨ (99 + v3_1.toNatClampNeg) = 110 ∨ (99 + v3_1.toNatClampNeg) = 111 ∨ (99 + v3_1.toNatClampNeg) = 112 ∨ (99 + v3_1.toNatClampNeg) = 113 ∨ (99 + v3_1.toNatClampNeg) = 114 ∨ (99 + v3_1.toNatClampNeg) = 115 ∨ (99 + v3_1.toNatClampNeg) = 116 ∨ (99 + v3_1.toNatClampNeg) = 117 ∨ (99 + v3_1.toNatClampNeg) = 118 ∨ (99 + v3_1.toNatClampNeg) = 119 ∨ (99 + v3_1.toNatClampNeg) = 120 ∨ (99 + v3_1.toNatClampNeg) = 121 ∨ (99 + v3_1.toNatClampNeg) = 122 ∨ (99 + v3_1.toNatClampNeg) = 123 ∨ (99 + v3_1.toNatClampNeg) = 124 ∨ (99 + v3_1.toNatClampNeg) = 125 ∨ (99 + v3_1.toNatClampNeg) = 126 ∨ (99 + v3_1.toNatClampNeg) = 127 ∨ (99 + v3_1.toNatClampNeg) = 128 ∨ (99 + v3_1.toNatClampNeg) = 129 ∨ (99 + v3_1.toNatClampNeg) = 130 ∨ (99 + v3_1.toNatClampNeg) = 131 ∨ (99 + v3_1.toNatClampNeg) = 132 ∨ (99 + v3_1.toNatClampNeg) = 133 ∨ (99 + v3_1.toNatClampNeg) = 134 ∨ (99 + v3_1.toNatClampNeg) = 135 ∨ (99 + v3_1.toNatClampNeg) = 136 := by omega
        rw [eσ16_1_2]; exact Fr_l0 hfσ13_1_2 (by rcases hj with hj | hj | hj | hj | hj | hj | hj | hj | hj | hj | hj | hj | hj | hj | hj | hj | hj | hj | hj | hj | hj | hj | hj | hj | hj | hj | hj | hj | hj | hj | hj | hj | hj | hj | hj | hj | hj | hj <;> rw [hj] <;> decide)
      refine ok_some.mpr ?_
      exact ⟨hIσ16_1_2, hfσ16_1_2⟩
set_option maxRecDepth 20000 in
set_option maxHeartbeats 2000000 in
theorem o_fX4_fill {σ : gS} (hIσ : JC σ) {p1 : Int32} (h0p1 : 0 ≤ p1.toInt) (h1p1 : p1.toInt ≤ 1) : Ok (fX4_fill σ p1) (fun out => JC out ∧ Fr fr_fX4_fill σ out) := by
  unfold fX4_fill
  have hfσ : Fr fr_fX4_fill σ σ := Fr_r
  have f1 : 0 ≤ (σ.1 96 4).toInt ∧ (σ.1 96 4).toInt ≤ 38 := hIσ 96 4
  refine ok_nm2 (fun x1 ex1 => ?_)
  have f2 : (0 : Int32).toInt = 0 := by decide
  have qx1 : x1.toInt = 0 := by rw [ex1]; decide
  refine ok_lpc (I := fun n s => n = (38 + 1 - s.1.toInt).toNat ∧ JC s.2 ∧ Fr fr_fX4_fill σ s.2 ∧ 0 ≤ s.1.toInt ∧ s.1.toInt ≤ 38) (fun rec2_1r n_1 s_1 hs_1 hrec_1 => ?_) K9 ((38 + 1 - x1.toInt).toNat) (x1, σ) ⟨rfl, hIσ, hfσ, (show 0 ≤ x1.toInt by omega), (show x1.toInt ≤ 38 by omega)⟩ (by unfold K9; omega)
  obtain ⟨a2_1, σ1_1⟩ := s_1
  obtain ⟨hn_1, hIσ1_1, hfσ1_1, b0a2_1, b1a2_1⟩ := hs_1
  dsimp only at hn_1 hIσ1_1 hfσ1_1 b0a2_1 b1a2_1
  unfold bX4_fill_2
  try dsimp only
  refine ok_ite.mpr ⟨fun h_3 => ?_, fun h_3 => ?_⟩
  · have f4 : 0 ≤ (σ1_1.1 96 4).toInt ∧ (σ1_1.1 96 4).toInt ≤ 38 := hIσ1_1 96 4
    have g5 : (σ1_1.1 96 4).toInt ≤ a2_1.toInt := Int32.le_iff_toInt_le.mp h_3
    refine ok_nm2 (fun x3_65 ex3_65 => ?_)
    have qx3_65 : x3_65.toInt = 0 := by rw [ex3_65]; decide
    refine ok_lpc (I := fun n s => n = (60 + 1 - s.1.toInt).toNat ∧ JC s.2 ∧ Fr fr_fX4_fill σ s.2 ∧ 0 ≤ s.1.toInt ∧ s.1.toInt ≤ 60) (fun rec28_66r n_66 s_66 hs_66 hrec_66 => ?_) K9 ((60 + 1 - x3_65.toInt).toNat) (x3_65, σ1_1) ⟨rfl, hIσ1_1, hfσ1_1, (show 0 ≤ x3_65.toInt by omega), (show x3_65.toInt ≤ 60 by omega)⟩ (by unfold K9; omega)
    obtain ⟨a2_66, σ1_66⟩ := s_66
    obtain ⟨hn_66, hIσ1_66, hfσ1_66, b0a2_66, b1a2_66⟩ := hs_66
    dsimp only at hn_66 hIσ1_66 hfσ1_66 b0a2_66 b1a2_66
    unfold bX4_fill_28
    try dsimp only
    have f6 : (3 : Int32).toInt = 3 := by decide
    refine ok_gd.mpr ⟨gb_of (by omega) (by omega), ?_⟩
    refine ok_nm2 (fun v4_130 ev4_130 => ?_)
    have f7 : 0 ≤ (σ1_66.1 3 3).toInt ∧ (σ1_66.1 3 3).toInt ≤ 60 := hIσ1_66 3 3
    have qv4_130 : v4_130.toInt = (σ1_66.1 3 3).toInt := congrArg Int32.toInt ev4_130
    refine ok_ite.mpr ⟨fun h_8 => ?_, fun h_8 => ?_⟩
    · have g9 : v4_130.toInt ≤ a2_66.toInt := Int32.le_iff_toInt_le.mp h_8
      refine ok_nm2 (fun x6_130 ex6_130 => ?_)
      have qx6_130 : x6_130.toInt = 0 := by rw [ex6_130]; decide
      refine ok_lpc (I := fun n s => n = (12 + 1 - s.1.toInt).toNat ∧ JC s.2 ∧ Fr fr_fX4_fill σ s.2 ∧ 0 ≤ s.1.toInt ∧ s.1.toInt ≤ 12) (fun rec158_131r n_131 s_131 hs_131 hrec_131 => ?_) K9 ((12 + 1 - x6_130.toInt).toNat) (x6_130, σ1_66) ⟨rfl, hIσ1_66, hfσ1_66, (show 0 ≤ x6_130.toInt by omega), (show x6_130.toInt ≤ 12 by omega)⟩ (by unfold K9; omega)
      obtain ⟨a2_131, σ1_131⟩ := s_131
      obtain ⟨hn_131, hIσ1_131, hfσ1_131, b0a2_131, b1a2_131⟩ := hs_131
      dsimp only at hn_131 hIσ1_131 hfσ1_131 b0a2_131 b1a2_131
      unfold bX4_fill_158
      try dsimp only
      have f10 : (1 : Int32).toInt = 1 := by decide
      refine ok_gd.mpr ⟨gb_of (by omega) (by omega), ?_⟩
      refine ok_nm2 (fun v7_141 ev7_141 => ?_)
      have f11 : 0 ≤ (σ1_131.1 3 1).toInt ∧ (σ1_131.1 3 1).toInt ≤ 12 := hIσ1_131 3 1
      have qv7_141 : v7_141.toInt = (σ1_131.1 3 1).toInt := congrArg Int32.toInt ev7_141
      refine ok_ite.mpr ⟨fun h_12 => ?_, fun h_12 => ?_⟩
      · have g13 : v7_141.toInt ≤ a2_131.toInt := Int32.le_iff_toInt_le.mp h_12
        refine ok_nm2 (fun x9_141 ex9_141 => ?_)
        have qx9_141 : x9_141.toInt = 0 := by rw [ex9_141]; decide
        refine ok_lpc (I := fun n s => n = (38 + 1 - s.1.toInt).toNat ∧ JC s.2 ∧ Fr fr_fX4_fill σ s.2 ∧ 0 ≤ s.1.toInt ∧ s.1.toInt ≤ 38) (fun rec227_142r n_142 s_142 hs_142 hrec_142 => ?_) K9 ((38 + 1 - x9_141.toInt).toNat) (x9_141, σ1_131) ⟨rfl, hIσ1_131, hfσ1_131, (show 0 ≤ x9_141.toInt by omega), (show x9_141.toInt ≤ 38 by omega)⟩ (by unfold K9; omega)
        obtain ⟨a2_142, σ1_142⟩ := s_142
        obtain ⟨hn_142, hIσ1_142, hfσ1_142, b0a2_142, b1a2_142⟩ := hs_142
        dsimp only at hn_142 hIσ1_142 hfσ1_142 b0a2_142 b1a2_142
        unfold bX4_fill_227
        try dsimp only
        refine ok_ite.mpr ⟨fun h_14 => ?_, fun h_14 => ?_⟩
        · have f15 : 0 ≤ (σ1_142.1 96 4).toInt ∧ (σ1_142.1 96 4).toInt ≤ 38 := hIσ1_142 96 4
          have g16 : (σ1_142.1 96 4).toInt ≤ a2_142.toInt := Int32.le_iff_toInt_le.mp h_14
          refine ok_some.mpr ?_
          exact ⟨hIσ1_142, hfσ1_142⟩
        · have f17 : 0 ≤ (σ1_142.1 96 4).toInt ∧ (σ1_142.1 96 4).toInt ≤ 38 := hIσ1_142 96 4
          have g18 : ¬ (σ1_142.1 96 4).toInt ≤ a2_142.toInt := fun z => h_14 (Int32.le_iff_toInt_le.mpr z)
          refine ok_nm2 (fun x11_143 ex11_143 => ?_)
          have qx11_143 : x11_143.toInt = 0 := by rw [ex11_143]; decide
          refine ok_lpc (I := fun n s => n = (40 + 1 - s.1.toInt).toNat ∧ JC s.2 ∧ Fr fr_fX4_fill σ s.2 ∧ 0 ≤ s.1.toInt ∧ s.1.toInt ≤ 40) (fun rec237_146r n_146 s_146 hs_146 hrec_146 => ?_) K9 ((40 + 1 - x11_143.toInt).toNat) (x11_143, σ1_142) ⟨rfl, hIσ1_142, hfσ1_142, (show 0 ≤ x11_143.toInt by omega), (show x11_143.toInt ≤ 40 by omega)⟩ (by unfold K9; omega)
          obtain ⟨a3_146, σ1_146⟩ := s_146
          obtain ⟨hn_146, hIσ1_146, hfσ1_146, b0a3_146, b1a3_146⟩ := hs_146
          dsimp only at hn_146 hIσ1_146 hfσ1_146 b0a3_146 b1a3_146
          unfold bX4_fill_237
          try dsimp only
          refine ok_ite.mpr ⟨fun h_19 => ?_, fun h_19 => ?_⟩
          · have f20 : 0 ≤ (σ1_146.1 96 4).toInt ∧ (σ1_146.1 96 4).toInt ≤ 38 := hIσ1_146 96 4
            have g21 : (σ1_146.1 96 4).toInt < a3_146.toInt := Int32.lt_iff_toInt_lt.mp h_19
            refine ok_nm2 (fun x13_147 ex13_147 => ?_)
            have f22 : (a2_142 + (1 : Int32)).toInt = a2_142.toInt + (1 : Int32).toInt := iadd_toInt (by omega) (by omega)
            have qx13_147 : x13_147.toInt = (a2_142 + 1).toInt := congrArg Int32.toInt ex13_147
            exact hrec_142 _ (x13_147, σ1_146) (show (38 + 1 - x13_147.toInt).toNat < n_142 by omega) ⟨rfl, hIσ1_146, hfσ1_146, (show 0 ≤ x13_147.toInt by omega), (show x13_147.toInt ≤ 38 by omega)⟩
          · have f23 : 0 ≤ (σ1_146.1 96 4).toInt ∧ (σ1_146.1 96 4).toInt ≤ 38 := hIσ1_146 96 4
            have g24 : ¬ (σ1_146.1 96 4).toInt < a3_146.toInt := fun z => h_19 (Int32.lt_iff_toInt_lt.mpr z)
            refine ok_gd.mpr ⟨gb_of (by omega) (by omega), ?_⟩
            refine ok_gd.mpr ⟨gb_of (by omega) (by omega), ?_⟩
            refine ok_gd.mpr ⟨gb_of (by omega) (by omega), ?_⟩
            refine ok_nm2 (fun v16_147 ev16_147 => ?_)
            refine ok_bd.mpr ((o_fJ9_floorMod_f86c9 hIσ1_146 (p0 := (v16_147 : Int64)) (p2 := (1000003 : Int64)) (by first | decide | omega | (rw [Int32.toInt_toInt64]; omega))).mono (fun r18_147 ho_26 => ?_))
            refine ok_gd.mpr ⟨gb_of (by omega) (by omega), ?_⟩
            refine ok_nm2 (fun σ19_147 eσ19_147 => ?_)
            have hIσ19_147 : JC σ19_147 := by rw [eσ19_147]; exact JC_l hIσ1_146
            have f27 : a2_142.toNatClampNeg = a2_142.toInt.toNat := rfl
            have hfσ19_147 : Fr fr_fX4_fill σ σ19_147 := by
              have hj : (99 + a2_142.toNatClampNeg) = 99 ∨ (99 + a2_142.toNatClampNeg) = 100 ∨ (99 + a2_142.toNatClampNeg) = 101 ∨ (99 + a2_142.toNatClampNeg) = 102 ∨ (99 + a2_142.toNatClampNeg) = 103 ∨ (99 + a2_142.toNatClampNeg) = 104 ∨ (99 + a2_142.toNatClampNeg) = 105 ∨ (99 + a2_142.toNatClampNeg) = 106 ∨ (99 + a2_142.toNatClampNeg) = 107 ∨ (99 + a2_142.toNatClampNeg) = 108 ∨ (99 + a2_142.toNatClampNeg) = 109 ∨ (99 + a2_142.toNatClampNeg) = 110 ∨ (99 + a2_142.toNatClampNeg) = 111 ∨ (99 + a2_142.toNatClampNeg) = 112 ∨ (99 + a2_142.toNatClampNeg) = 113 ∨ (99 + a2_142.toNatClampNeg) = 114 ∨ (99 + a2_142.toNatClampNeg) = 115 ∨ (99 + a2_142.toNatClampNeg) = 116 ∨ (99 + a2_142.toNatClampNeg) = 117 ∨ (99 + a2_142.toNatClampNeg) = 118 ∨ (99 + a2_142.toNatClampNeg) = 119 ∨ (99 + a2_142.toNatClampNeg) = 120 ∨ (99 + a2_142.toNatClampNeg) = 121 ∨ (99 + a2_142.toNatClampNeg) = 122 ∨ (99 + a2_142.toNatClampNeg) = 123 ∨ (99 + a2_142.toNatClampNeg) = 124 ∨ (99 + a2_142.toNatClampNeg) = 125 ∨ (99 + a2_142.toNatClampNeg) = 126 ∨ (99 + a2_142.toNatClampNeg) = 127 ∨ (99 + a2_142.toNatClampNeg) = 128 ∨ (99 + a2_142.toNatClampNeg) = 129 ∨ (99 + a2_142.toNatClampNeg) = 130 ∨ (99 + a2_142.toNatClampNeg) = 131 ∨ (99 + a2_142.toNatClampNeg) = 132 ∨ (99 + a2_142.toNatClampNeg) = 133 ∨ (99 + a2_142.toNatClampNeg) = 134 ∨ (99 + a2_142.toNatClampNeg) = 135 ∨ (99 + a2_142.toNatClampNeg) = 136 := by omega
              rw [eσ19_147]; exact Fr_l0 hfσ1_146 (by rcases hj with hj | hj | hj | hj | hj | hj | hj | hj | hj | hj | hj | hj | hj | hj | hj | hj | hj | hj | hj | hj | hj | hj | hj | hj | hj | hj | hj | hj | hj | hj | hj | hj | hj | hj | hj | hj | hj | hj <;> rw [hj] <;> decide)
            have sσ19_147_96_4 : (σ19_147.1 96 4).toInt = (σ1_146.1 96 4).toInt := by rw [eσ19_147]; rfl
            refine ok_nm2 (fun x20_147 ex20_147 => ?_)
            have f28 : (a3_146 + (1 : Int32)).toInt = a3_146.toInt + (1 : Int32).toInt := iadd_toInt (by omega) (by omega)
            have qx20_147 : x20_147.toInt = (a3_146 + 1).toInt := congrArg Int32.toInt ex20_147
            exact hrec_146 _ (x20_147, σ19_147) (show (40 + 1 - x20_147.toInt).toNat < n_146 by omega) ⟨rfl, hIσ19_147, hfσ19_147, (show 0 ≤ x20_147.toInt by omega), (show x20_147.toInt ≤ 40 by omega)⟩
      · have g29 : ¬ v7_141.toInt ≤ a2_131.toInt := fun z => h_12 (Int32.le_iff_toInt_le.mpr z)
        refine ok_gd.mpr ⟨gb_of (by omega) (by omega), ?_⟩
        refine ok_nm2 (fun v21_141 ev21_141 => ?_)
        have qv21_141 : v21_141.toInt = (σ1_131.1 20 a2_131.toNatClampNeg).toInt := congrArg Int32.toInt ev21_141
        refine ok_ite.mpr ⟨fun h_30 => ?_, fun h_30 => ?_⟩
        · have g31 : v21_141.toInt = (0 : Int32).toInt := by rw [h_30]
          refine ok_nm2 (fun x31_141 ex31_141 => ?_)
          have f32 : (a2_131 + (1 : Int32)).toInt = a2_131.toInt + (1 : Int32).toInt := iadd_toInt (by omega) (by omega)
          have qx31_141 : x31_141.toInt = (a2_131 + 1).toInt := congrArg Int32.toInt ex31_141
          exact hrec_131 _ (x31_141, σ1_131) (show (12 + 1 - x31_141.toInt).toNat < n_131 by omega) ⟨rfl, hIσ1_131, hfσ1_131, (show 0 ≤ x31_141.toInt by omega), (show x31_141.toInt ≤ 12 by omega)⟩
        · have g33 : v21_141.toInt ≠ (0 : Int32).toInt := fun z => h_30 (Int32.toInt_inj.mp z)
          refine ok_bd.mpr ?_
          try unfold fX4_driftOf
          refine ok_gd.mpr ⟨gb_of (by omega) (by omega), ?_⟩
          refine ok_nm2 (fun v1_148 ev1_148 => ?_)
          have f35 : a2_131.toNatClampNeg = a2_131.toInt.toNat := rfl
          have f35_ : (a2_131.toNatClampNeg = 0 ∧ 0 ≤ (σ1_131.1 8 a2_131.toNatClampNeg).toInt ∧ (σ1_131.1 8 a2_131.toNatClampNeg).toInt ≤ 5) ∨ (a2_131.toNatClampNeg = 1 ∧ 0 ≤ (σ1_131.1 8 a2_131.toNatClampNeg).toInt ∧ (σ1_131.1 8 a2_131.toNatClampNeg).toInt ≤ 5) ∨ (a2_131.toNatClampNeg = 2 ∧ 0 ≤ (σ1_131.1 8 a2_131.toNatClampNeg).toInt ∧ (σ1_131.1 8 a2_131.toNatClampNeg).toInt ≤ 5) ∨ (a2_131.toNatClampNeg = 3 ∧ 0 ≤ (σ1_131.1 8 a2_131.toNatClampNeg).toInt ∧ (σ1_131.1 8 a2_131.toNatClampNeg).toInt ≤ 5) ∨ (a2_131.toNatClampNeg = 4 ∧ 0 ≤ (σ1_131.1 8 a2_131.toNatClampNeg).toInt ∧ (σ1_131.1 8 a2_131.toNatClampNeg).toInt ≤ 5) ∨ (a2_131.toNatClampNeg = 5 ∧ 0 ≤ (σ1_131.1 8 a2_131.toNatClampNeg).toInt ∧ (σ1_131.1 8 a2_131.toNatClampNeg).toInt ≤ 5) ∨ (a2_131.toNatClampNeg = 6 ∧ 0 ≤ (σ1_131.1 8 a2_131.toNatClampNeg).toInt ∧ (σ1_131.1 8 a2_131.toNatClampNeg).toInt ≤ 5) ∨ (a2_131.toNatClampNeg = 7 ∧ 0 ≤ (σ1_131.1 8 a2_131.toNatClampNeg).toInt ∧ (σ1_131.1 8 a2_131.toNatClampNeg).toInt ≤ 5) ∨ (a2_131.toNatClampNeg = 8 ∧ 0 ≤ (σ1_131.1 8 a2_131.toNatClampNeg).toInt ∧ (σ1_131.1 8 a2_131.toNatClampNeg).toInt ≤ 5) ∨ (a2_131.toNatClampNeg = 9 ∧ 0 ≤ (σ1_131.1 8 a2_131.toNatClampNeg).toInt ∧ (σ1_131.1 8 a2_131.toNatClampNeg).toInt ≤ 5) ∨ (a2_131.toNatClampNeg = 10 ∧ 0 ≤ (σ1_131.1 8 a2_131.toNatClampNeg).toInt ∧ (σ1_131.1 8 a2_131.toNatClampNeg).toInt ≤ 5) ∨ (a2_131.toNatClampNeg = 11 ∧ 0 ≤ (σ1_131.1 8 a2_131.toNatClampNeg).toInt ∧ (σ1_131.1 8 a2_131.toNatClampNeg).toInt ≤ 5) := by
            have hb := hIσ1_131 8 a2_131.toNatClampNeg
            have hj : a2_131.toNatClampNeg = 0 ∨ a2_131.toNatClampNeg = 1 ∨ a2_131.toNatClampNeg = 2 ∨ a2_131.toNatClampNeg = 3 ∨ a2_131.toNatClampNeg = 4 ∨ a2_131.toNatClampNeg = 5 ∨ a2_131.toNatClampNeg = 6 ∨ a2_131.toNatClampNeg = 7 ∨ a2_131.toNatClampNeg = 8 ∨ a2_131.toNatClampNeg = 9 ∨ a2_131.toNatClampNeg = 10 ∨ a2_131.toNatClampNeg = 11 := by omega
            generalize a2_131.toNatClampNeg = j at hb hj ⊢
            rcases hj with rfl | rfl | rfl | rfl | rfl | rfl | rfl | rfl | rfl | rfl | rfl | rfl
            · exact .inl ⟨rfl, hb.1, hb.2⟩
            · exact .inr (.inl ⟨rfl, hb.1, hb.2⟩)
            · exact .inr (.inr (.inl ⟨rfl, hb.1, hb.2⟩))
            · exact .inr (.inr (.inr (.inl ⟨rfl, hb.1, hb.2⟩)))
            · exact .inr (.inr (.inr (.inr (.inl ⟨rfl, hb.1, hb.2⟩))))
            · exact .inr (.inr (.inr (.inr (.inr (.inl ⟨rfl, hb.1, hb.2⟩)))))
            · exact .inr (.inr (.inr (.inr (.inr (.inr (.inl ⟨rfl, hb.1, hb.2⟩))))))
            · exact .inr (.inr (.inr (.inr (.inr (.inr (.inr (.inl ⟨rfl, hb.1, hb.2⟩)))))))
            · exact .inr (.inr (.inr (.inr (.inr (.inr (.inr (.inr (.inl ⟨rfl, hb.1, hb.2⟩))))))))
            · exact .inr (.inr (.inr (.inr (.inr (.inr (.inr (.inr (.inr (.inl ⟨rfl, hb.1, hb.2⟩)))))))))
            · exact .inr (.inr (.inr (.inr (.inr (.inr (.inr (.inr (.inr (.inr (.inl ⟨rfl, hb.1, hb.2⟩))))))))))
            · exact .inr (.inr (.inr (.inr (.inr (.inr (.inr (.inr (.inr (.inr (.inr (⟨rfl, hb.1, hb.2⟩)))))))))))
          have qv1_148 : v1_148.toInt = (σ1_131.1 8 a2_131.toNatClampNeg).toInt := congrArg Int32.toInt ev1_148
          refine ok_some.mpr ?_
          refine ok_gd.mpr ⟨gb_of (by omega) (by omega), ?_⟩
          refine ok_nm2 (fun v25_141_149 ev25_141_149 => ?_)
          have qv25_141_149 : v25_141_149.toInt = (σ1_131.1 20 a2_131.toNatClampNeg).toInt := congrArg Int32.toInt ev25_141_149
          refine ok_gd.mpr ⟨gb_of (by omega) (by omega), ?_⟩
          refine ok_gd.mpr ⟨gb_of (by omega) (by omega), ?_⟩
          refine ok_nm2 (fun v27_141_149 ev27_141_149 => ?_)
          have qv27_141_149 : v27_141_149.toInt = (σ1_131.1 (22 + p1.toNatClampNeg) a2_131.toNatClampNeg).toInt := congrArg Int32.toInt ev27_141_149
          have f36 : (32 : Int32).toInt = 32 := by decide
          have f37 : ((32 : Int32) + v1_148).toInt = (32 : Int32).toInt + v1_148.toInt := iadd_toInt (by omega) (by omega)
          have f38 : (100 : Int32).toInt = 100 := by decide
          refine ok_bd.mpr ((o_fX4_addTerm hIσ1_131 (p1 := a2_131) (p2 := (32 + v1_148)) (p3 := v25_141_149) (p4 := (100 * v27_141_149)) (by omega) (by omega) (by omega) (by omega)).mono (fun σ29_141_149 ho_40 => ?_))
          obtain ⟨hIσ29_141_149, hcσ29_141_149⟩ := ho_40
          have hfσ29_141_149 : Fr fr_fX4_fill σ σ29_141_149 := Fr_c hfσ1_131 hcσ29_141_149 (by decide)
          have sσ29_141_149_96_4 : (σ29_141_149.1 96 4).toInt = (σ1_131.1 96 4).toInt := by rw [(hcσ29_141_149 96 4 (by decide) (by decide)).1]
          refine ok_nm2 (fun x30_141_149 ex30_141_149 => ?_)
          have f41 : (a2_131 + (1 : Int32)).toInt = a2_131.toInt + (1 : Int32).toInt := iadd_toInt (by omega) (by omega)
          have qx30_141_149 : x30_141_149.toInt = (a2_131 + 1).toInt := congrArg Int32.toInt ex30_141_149
          exact hrec_131 _ (x30_141_149, σ29_141_149) (show (12 + 1 - x30_141_149.toInt).toNat < n_131 by omega) ⟨rfl, hIσ29_141_149, hfσ29_141_149, (show 0 ≤ x30_141_149.toInt by omega), (show x30_141_149.toInt ≤ 12 by omega)⟩
    · have g42 : ¬ v4_130.toInt ≤ a2_66.toInt := fun z => h_8 (Int32.le_iff_toInt_le.mpr z)
      refine ok_bd.mpr ?_
      try unfold fX5_uses_47
      refine ok_gd.mpr ⟨gb_of (by omega) (by omega), ?_⟩
      refine ok_nm2 (fun v1_150 ev1_150 => ?_)
      have qv1_150 : v1_150.toInt = (σ1_66.1 58 a2_66.toNatClampNeg).toInt := congrArg Int32.toInt ev1_150
      refine ok_ite.mpr ⟨fun h_43 => ?_, fun h_43 => ?_⟩
      · have g44 : v1_150.toInt = (0 : Int32).toInt := by rw [h_43]
        refine ok_some.mpr ?_
        refine ok_ite.mpr ⟨fun h_45 => ?_, fun h_45 => ?_⟩
        · have f46 : (1 : Int32).toInt = 1 := by decide
          have g47 : (1 : Int32).toInt = (0 : Int32).toInt := by rw [h_45]
          exfalso
          omega
        · have f48 : (1 : Int32).toInt = 1 := by decide
          have g49 : (1 : Int32).toInt ≠ (0 : Int32).toInt := fun z => h_45 (Int32.toInt_inj.mp z)
          refine ok_gd.mpr ⟨gb_of (by omega) (by omega), ?_⟩
          refine ok_nm2 (fun v35_130_151 ev35_130_151 => ?_)
          have f50 : 0 ≤ (σ1_66.1 10 a2_66.toNatClampNeg).toInt ∧ (σ1_66.1 10 a2_66.toNatClampNeg).toInt ≤ 11 := hIσ1_66 10 _
          have qv35_130_151 : v35_130_151.toInt = (σ1_66.1 10 a2_66.toNatClampNeg).toInt := congrArg Int32.toInt ev35_130_151
          refine ok_nm.mpr ?_
          refine ok_gd.mpr ⟨gb_of (by omega) (by omega), ?_⟩
          refine ok_nm2 (fun v37_130_151_152 ev37_130_151_152 => ?_)
          have f51 : 0 ≤ (σ1_66.1 11 a2_66.toNatClampNeg).toInt ∧ (σ1_66.1 11 a2_66.toNatClampNeg).toInt ≤ 19 := hIσ1_66 11 _
          have qv37_130_151_152 : v37_130_151_152.toInt = (σ1_66.1 11 a2_66.toNatClampNeg).toInt := congrArg Int32.toInt ev37_130_151_152
          refine ok_nm.mpr ?_
          refine ok_bd.mpr ((o_fX5_turned_47 hIσ1_66 (p1 := a2_66) (p2 := p1) (by omega) (by omega)).mono (fun r40_130_151_152_153 ho_53 => ?_))
          refine ok_nm.mpr ?_
          refine ok_bd.mpr ?_
          try unfold fX5_isFixed_47
          refine ok_gd.mpr ⟨gb_of (by omega) (by omega), ?_⟩
          refine ok_nm2 (fun v1_155 ev1_155 => ?_)
          have qv1_155 : v1_155.toInt = (σ1_66.1 16 v37_130_151_152.toNatClampNeg).toInt := congrArg Int32.toInt ev1_155
          refine ok_ite.mpr ⟨fun h_54 => ?_, fun h_54 => ?_⟩
          · have g55 : (v1_155 &&& (σ1_66.1 47 1)).toInt = (0 : Int32).toInt := by rw [h_54]
            refine ok_some.mpr ?_
            refine ok_ite.mpr ⟨fun h_56 => ?_, fun h_56 => ?_⟩
            · have g57 : (0 : Int32).toInt = (0 : Int32).toInt := by rw [h_56]
              refine ok_gd.mpr ⟨gb_of (by omega) (by omega), ?_⟩
              refine ok_nm2 (fun v45_130_151_152_153_154_156 ev45_130_151_152_153_154_156 => ?_)
              have qv45_130_151_152_153_154_156 : v45_130_151_152_153_154_156.toInt = (σ1_66.1 15 a2_66.toNatClampNeg).toInt := congrArg Int32.toInt ev45_130_151_152_153_154_156
              have f58 : (12 : Int32).toInt = 12 := by decide
              have f59 : ((12 : Int32) + v37_130_151_152).toInt = (12 : Int32).toInt + v37_130_151_152.toInt := iadd_toInt (by omega) (by omega)
              refine ok_bd.mpr ((o_fX4_addTerm hIσ1_66 (p1 := (12 + v37_130_151_152)) (p2 := v35_130_151) (p3 := v45_130_151_152_153_154_156) (p4 := r40_130_151_152_153) (by omega) (by omega) (by omega) (by omega)).mono (fun σ47_130_151_152_153_154_156 ho_61 => ?_))
              obtain ⟨hIσ47_130_151_152_153_154_156, hcσ47_130_151_152_153_154_156⟩ := ho_61
              have hfσ47_130_151_152_153_154_156 : Fr fr_fX4_fill σ σ47_130_151_152_153_154_156 := Fr_c hfσ1_66 hcσ47_130_151_152_153_154_156 (by decide)
              have sσ47_130_151_152_153_154_156_96_4 : (σ47_130_151_152_153_154_156.1 96 4).toInt = (σ1_66.1 96 4).toInt := by rw [(hcσ47_130_151_152_153_154_156 96 4 (by decide) (by decide)).1]
              refine ok_nm2 (fun x48_130_151_152_153_154_156 ex48_130_151_152_153_154_156 => ?_)
              have f62 : (a2_66 + (1 : Int32)).toInt = a2_66.toInt + (1 : Int32).toInt := iadd_toInt (by omega) (by omega)
              have qx48_130_151_152_153_154_156 : x48_130_151_152_153_154_156.toInt = (a2_66 + 1).toInt := congrArg Int32.toInt ex48_130_151_152_153_154_156
              exact hrec_66 _ (x48_130_151_152_153_154_156, σ47_130_151_152_153_154_156) (show (60 + 1 - x48_130_151_152_153_154_156.toInt).toNat < n_66 by omega) ⟨rfl, hIσ47_130_151_152_153_154_156, hfσ47_130_151_152_153_154_156, (show 0 ≤ x48_130_151_152_153_154_156.toInt by omega), (show x48_130_151_152_153_154_156.toInt ≤ 60 by omega)⟩
            · have g63 : (0 : Int32).toInt ≠ (0 : Int32).toInt := fun z => h_56 (Int32.toInt_inj.mp z)
              exfalso
              omega
          · have g64 : (v1_155 &&& (σ1_66.1 47 1)).toInt ≠ (0 : Int32).toInt := fun z => h_54 (Int32.toInt_inj.mp z)
            refine ok_some.mpr ?_
            refine ok_ite.mpr ⟨fun h_65 => ?_, fun h_65 => ?_⟩
            · have g66 : (1 : Int32).toInt = (0 : Int32).toInt := by rw [h_65]
              exfalso
              omega
            · have g67 : (1 : Int32).toInt ≠ (0 : Int32).toInt := fun z => h_65 (Int32.toInt_inj.mp z)
              refine ok_gd.mpr ⟨gb_of (by omega) (by omega), ?_⟩
              refine ok_nm2 (fun v49_130_151_152_153_154_157 ev49_130_151_152_153_154_157 => ?_)
              have qv49_130_151_152_153_154_157 : v49_130_151_152_153_154_157.toInt = (σ1_66.1 15 a2_66.toNatClampNeg).toInt := congrArg Int32.toInt ev49_130_151_152_153_154_157
              refine ok_bd.mpr ?_
              try unfold fX5_fixedAt_47
              refine ok_gd.mpr ⟨gb_of (by omega) (by omega), ?_⟩
              refine ok_gd.mpr ⟨gb_of (by omega) (by omega), ?_⟩
              refine ok_nm2 (fun v2_158 ev2_158 => ?_)
              have qv2_158 : v2_158.toInt = (σ1_66.1 (18 + p1.toNatClampNeg) v37_130_151_152.toNatClampNeg).toInt := congrArg Int32.toInt ev2_158
              refine ok_some.mpr ?_
              have f68 : (100 : Int32).toInt = 100 := by decide
              refine ok_bd.mpr ((o_fX4_addHold hIσ1_66 (p1 := v35_130_151) (p2 := v49_130_151_152_153_154_157) (p3 := ((100 * v2_158) - r40_130_151_152_153)) (by omega) (by omega)).mono (fun σ53_130_151_152_153_154_157_159 ho_70 => ?_))
              obtain ⟨hIσ53_130_151_152_153_154_157_159, hcσ53_130_151_152_153_154_157_159⟩ := ho_70
              have hfσ53_130_151_152_153_154_157_159 : Fr fr_fX4_fill σ σ53_130_151_152_153_154_157_159 := Fr_c hfσ1_66 hcσ53_130_151_152_153_154_157_159 (by decide)
              have sσ53_130_151_152_153_154_157_159_96_4 : (σ53_130_151_152_153_154_157_159.1 96 4).toInt = (σ1_66.1 96 4).toInt := by rw [(hcσ53_130_151_152_153_154_157_159 96 4 (by decide) (by decide)).1]
              refine ok_nm2 (fun x54_130_151_152_153_154_157_159 ex54_130_151_152_153_154_157_159 => ?_)
              have f71 : (a2_66 + (1 : Int32)).toInt = a2_66.toInt + (1 : Int32).toInt := iadd_toInt (by omega) (by omega)
              have qx54_130_151_152_153_154_157_159 : x54_130_151_152_153_154_157_159.toInt = (a2_66 + 1).toInt := congrArg Int32.toInt ex54_130_151_152_153_154_157_159
              exact hrec_66 _ (x54_130_151_152_153_154_157_159, σ53_130_151_152_153_154_157_159) (show (60 + 1 - x54_130_151_152_153_154_157_159.toInt).toNat < n_66 by omega) ⟨rfl, hIσ53_130_151_152_153_154_157_159, hfσ53_130_151_152_153_154_157_159, (show 0 ≤ x54_130_151_152_153_154_157_159.toInt by omega), (show x54_130_151_152_153_154_157_159.toInt ≤ 60 by omega)⟩
      · have g72 : v1_150.toInt ≠ (0 : Int32).toInt := fun z => h_43 (Int32.toInt_inj.mp z)
        refine ok_some.mpr ?_
        refine ok_ite.mpr ⟨fun h_73 => ?_, fun h_73 => ?_⟩
        · have g74 : (0 : Int32).toInt = (0 : Int32).toInt := by rw [h_73]
          refine ok_nm2 (fun x55_130_160 ex55_130_160 => ?_)
          have f75 : (1 : Int32).toInt = 1 := by decide
          have f76 : (a2_66 + (1 : Int32)).toInt = a2_66.toInt + (1 : Int32).toInt := iadd_toInt (by omega) (by omega)
          have qx55_130_160 : x55_130_160.toInt = (a2_66 + 1).toInt := congrArg Int32.toInt ex55_130_160
          exact hrec_66 _ (x55_130_160, σ1_66) (show (60 + 1 - x55_130_160.toInt).toNat < n_66 by omega) ⟨rfl, hIσ1_66, hfσ1_66, (show 0 ≤ x55_130_160.toInt by omega), (show x55_130_160.toInt ≤ 60 by omega)⟩
        · have g77 : (0 : Int32).toInt ≠ (0 : Int32).toInt := fun z => h_73 (Int32.toInt_inj.mp z)
          exfalso
          omega
  · have f78 : 0 ≤ (σ1_1.1 96 4).toInt ∧ (σ1_1.1 96 4).toInt ≤ 38 := hIσ1_1 96 4
    have g79 : ¬ (σ1_1.1 96 4).toInt ≤ a2_1.toInt := fun z => h_3 (Int32.le_iff_toInt_le.mpr z)
    refine ok_gd.mpr ⟨gb_of (by omega) (by omega), ?_⟩
    have f80 : a2_1.toNatClampNeg = a2_1.toInt.toNat := rfl
    refine ok_bd.mpr ((o_fillL (c := (99 + a2_1.toNatClampNeg)) (v := (0 : Int64)) hIσ1_1 (by (have hj : (99 + a2_1.toNatClampNeg) = 99 ∨ (99 + a2_1.toNatClampNeg) = 100 ∨ (99 + a2_1.toNatClampNeg) = 101 ∨ (99 + a2_1.toNatClampNeg) = 102 ∨ (99 + a2_1.toNatClampNeg) = 103 ∨ (99 + a2_1.toNatClampNeg) = 104 ∨ (99 + a2_1.toNatClampNeg) = 105 ∨ (99 + a2_1.toNatClampNeg) = 106 ∨ (99 + a2_1.toNatClampNeg) = 107 ∨ (99 + a2_1.toNatClampNeg) = 108 ∨ (99 + a2_1.toNatClampNeg) = 109 ∨ (99 + a2_1.toNatClampNeg) = 110 ∨ (99 + a2_1.toNatClampNeg) = 111 ∨ (99 + a2_1.toNatClampNeg) = 112 ∨ (99 + a2_1.toNatClampNeg) = 113 ∨ (99 + a2_1.toNatClampNeg) = 114 ∨ (99 + a2_1.toNatClampNeg) = 115 ∨ (99 + a2_1.toNatClampNeg) = 116 ∨ (99 + a2_1.toNatClampNeg) = 117 ∨ (99 + a2_1.toNatClampNeg) = 118 ∨ (99 + a2_1.toNatClampNeg) = 119 ∨ (99 + a2_1.toNatClampNeg) = 120 ∨ (99 + a2_1.toNatClampNeg) = 121 ∨ (99 + a2_1.toNatClampNeg) = 122 ∨ (99 + a2_1.toNatClampNeg) = 123 ∨ (99 + a2_1.toNatClampNeg) = 124 ∨ (99 + a2_1.toNatClampNeg) = 125 ∨ (99 + a2_1.toNatClampNeg) = 126 ∨ (99 + a2_1.toNatClampNeg) = 127 ∨ (99 + a2_1.toNatClampNeg) = 128 ∨ (99 + a2_1.toNatClampNeg) = 129 ∨ (99 + a2_1.toNatClampNeg) = 130 ∨ (99 + a2_1.toNatClampNeg) = 131 ∨ (99 + a2_1.toNatClampNeg) = 132 ∨ (99 + a2_1.toNatClampNeg) = 133 ∨ (99 + a2_1.toNatClampNeg) = 134 ∨ (99 + a2_1.toNatClampNeg) = 135 ∨ (99 + a2_1.toNatClampNeg) = 136 := by omega); rcases hj with hj | hj | hj | hj | hj | hj | hj | hj | hj | hj | hj | hj | hj | hj | hj | hj | hj | hj | hj | hj | hj | hj | hj | hj | hj | hj | hj | hj | hj | hj | hj | hj | hj | hj | hj | hj | hj | hj <;> rw [hj] <;> decide)).mono (fun σ58_65 ho_81 => ?_))
    obtain ⟨hIσ58_65, hcσ58_65, hvσ58_65⟩ := ho_81
    have hfσ58_65 : Fr fr_fX4_fill σ σ58_65 := by
      have hj : (99 + a2_1.toNatClampNeg) = 99 ∨ (99 + a2_1.toNatClampNeg) = 100 ∨ (99 + a2_1.toNatClampNeg) = 101 ∨ (99 + a2_1.toNatClampNeg) = 102 ∨ (99 + a2_1.toNatClampNeg) = 103 ∨ (99 + a2_1.toNatClampNeg) = 104 ∨ (99 + a2_1.toNatClampNeg) = 105 ∨ (99 + a2_1.toNatClampNeg) = 106 ∨ (99 + a2_1.toNatClampNeg) = 107 ∨ (99 + a2_1.toNatClampNeg) = 108 ∨ (99 + a2_1.toNatClampNeg) = 109 ∨ (99 + a2_1.toNatClampNeg) = 110 ∨ (99 + a2_1.toNatClampNeg) = 111 ∨ (99 + a2_1.toNatClampNeg) = 112 ∨ (99 + a2_1.toNatClampNeg) = 113 ∨ (99 + a2_1.toNatClampNeg) = 114 ∨ (99 + a2_1.toNatClampNeg) = 115 ∨ (99 + a2_1.toNatClampNeg) = 116 ∨ (99 + a2_1.toNatClampNeg) = 117 ∨ (99 + a2_1.toNatClampNeg) = 118 ∨ (99 + a2_1.toNatClampNeg) = 119 ∨ (99 + a2_1.toNatClampNeg) = 120 ∨ (99 + a2_1.toNatClampNeg) = 121 ∨ (99 + a2_1.toNatClampNeg) = 122 ∨ (99 + a2_1.toNatClampNeg) = 123 ∨ (99 + a2_1.toNatClampNeg) = 124 ∨ (99 + a2_1.toNatClampNeg) = 125 ∨ (99 + a2_1.toNatClampNeg) = 126 ∨ (99 + a2_1.toNatClampNeg) = 127 ∨ (99 + a2_1.toNatClampNeg) = 128 ∨ (99 + a2_1.toNatClampNeg) = 129 ∨ (99 + a2_1.toNatClampNeg) = 130 ∨ (99 + a2_1.toNatClampNeg) = 131 ∨ (99 + a2_1.toNatClampNeg) = 132 ∨ (99 + a2_1.toNatClampNeg) = 133 ∨ (99 + a2_1.toNatClampNeg) = 134 ∨ (99 + a2_1.toNatClampNeg) = 135 ∨ (99 + a2_1.toNatClampNeg) = 136 := by omega
      exact Fr_c hfσ1_1 hcσ58_65 (by rcases hj with hj | hj | hj | hj | hj | hj | hj | hj | hj | hj | hj | hj | hj | hj | hj | hj | hj | hj | hj | hj | hj | hj | hj | hj | hj | hj | hj | hj | hj | hj | hj | hj | hj | hj | hj | hj | hj | hj <;> rw [hj] <;> decide)
    have sσ58_65_96_4 : (σ58_65.1 96 4).toInt = (σ1_1.1 96 4).toInt := by rw [(hcσ58_65 96 4 (by simp <;> omega) (by simp)).1]
    refine ok_nm2 (fun x59_65 ex59_65 => ?_)
    have f82 : (1 : Int32).toInt = 1 := by decide
    have f83 : (a2_1 + (1 : Int32)).toInt = a2_1.toInt + (1 : Int32).toInt := iadd_toInt (by omega) (by omega)
    have qx59_65 : x59_65.toInt = (a2_1 + 1).toInt := congrArg Int32.toInt ex59_65
    exact hrec_1 _ (x59_65, σ58_65) (show (38 + 1 - x59_65.toInt).toNat < n_1 by omega) ⟨rfl, hIσ58_65, hfσ58_65, (show 0 ≤ x59_65.toInt by omega), (show x59_65.toInt ≤ 38 by omega)⟩
theorem w9_shr (x : Int64) : (x >>> ((1 : Int32).toInt64 &&& 63)).toInt = x.toInt / 2 := by
  have h : (x >>> ((1 : Int32).toInt64 &&& 63)).toInt = (x.toBitVec.sshiftRight 1).toInt := by
    show (x >>> ((1 : Int32).toInt64 &&& 63)).toBitVec.toInt = _
    rw [Int64.toBitVec_shiftRight]
    have : ((1 : Int32).toInt64 &&& 63).toBitVec.smod 64 = 1#64 := by decide
    rw [this]
    rfl
  rw [h, BitVec.toInt_sshiftRight, Int.shiftRight_eq_div_pow]
  rfl
theorem o_fX4_inverse {σ : gS} (hIσ : JC σ) {p0 : Int64}  : Ok (fX4_inverse σ p0) (fun _ => True) := by
  have l0 : (0 : Int64).toInt = 0 := by decide
  unfold fX4_inverse
  refine ok_nm.mpr (ok_nm.mpr (ok_nm.mpr (ok_lpc (I := fun (n : Nat) (s : Int64 × Int64 × Int64) => n = s.2.2.toInt.toNat) (fun rec n s hs hrec => ?_) K9 1000001 (p0, 1, 1000001) (show 1000001 = (1000001 : Int64).toInt.toNat by decide) (by unfold K9; decide))))
  obtain ⟨a, b, e⟩ := s
  dsimp only at hs ⊢
  unfold bX4_inverse_10
  refine ok_ite.mpr ⟨fun _ => ok_some.mpr trivial, fun h => ?_⟩
  have he := q_lgt h
  have e2 := w9_shr e
  have J : ∀ b', Ok (jX4_inverse_36 σ (fun a2 a4 a6 => rec (a2, a4, a6)) a b' e) (fun _ => True) := fun b' => by
    unfold jX4_inverse_36
    exact ok_nm.mpr (ok_nm.mpr (hrec (e >>> ((1 : Int32).toInt64 &&& 63)).toInt.toNat (_, b', e >>> ((1 : Int32).toInt64 &&& 63)) (by rw [e2]; omega) rfl))
  exact ok_ite.mpr ⟨fun _ => ok_nm.mpr (J _), fun _ => J _⟩
set_option maxRecDepth 20000 in
set_option maxHeartbeats 2000000 in
theorem o_fX4_subtractLine {σ : gS} (hIσ : JC σ) {p1 : Int32} {p2 : Int32} (h0p1 : 0 ≤ p1.toInt) (h1p1 : p1.toInt ≤ 37) (h0p2 : 0 ≤ p2.toInt) (h1p2 : p2.toInt ≤ 37) : Ok (fX4_subtractLine σ p1 p2) (fun out => JC out ∧ Fr fr_fX4_subtractLine σ out) := by
  unfold fX4_subtractLine
  have hfσ : Fr fr_fX4_subtractLine σ σ := Fr_r
  have f1 : 0 ≤ (σ.1 96 4).toInt ∧ (σ.1 96 4).toInt ≤ 38 := hIσ 96 4
  refine ok_gd.mpr ⟨gb_of (by omega) (by omega), ?_⟩
  refine ok_gd.mpr ⟨gb_of (by omega) (by omega), ?_⟩
  refine ok_nm2 (fun v2 ev2 => ?_)
  refine ok_nm2 (fun x3 ex3 => ?_)
  refine ok_nm.mpr ?_
  refine ok_lpc (I := fun n s => n = (40 + 1 - s.1.toInt).toNat ∧ JC s.2 ∧ Fr fr_fX4_subtractLine σ s.2 ∧ 0 ≤ s.1.toInt ∧ s.1.toInt ≤ 40) (fun rec16_2r n_2 s_2 hs_2 hrec_2 => ?_) K9 ((40 + 1 - p2.toInt).toNat) (p2, σ) ⟨rfl, hIσ, hfσ, (show 0 ≤ p2.toInt by omega), (show p2.toInt ≤ 40 by omega)⟩ (by unfold K9; omega)
  obtain ⟨a5_2, σ1_2⟩ := s_2
  obtain ⟨hn_2, hIσ1_2, hfσ1_2, b0a5_2, b1a5_2⟩ := hs_2
  dsimp only at hn_2 hIσ1_2 hfσ1_2 b0a5_2 b1a5_2
  unfold bX4_subtractLine_16
  try dsimp only
  refine ok_ite.mpr ⟨fun h_2 => ?_, fun h_2 => ?_⟩
  · have f3 : 0 ≤ (σ1_2.1 96 4).toInt ∧ (σ1_2.1 96 4).toInt ≤ 38 := hIσ1_2 96 4
    have g4 : (σ1_2.1 96 4).toInt < a5_2.toInt := Int32.lt_iff_toInt_lt.mp h_2
    refine ok_some.mpr ?_
    exact ⟨hIσ1_2, hfσ1_2⟩
  · have f5 : 0 ≤ (σ1_2.1 96 4).toInt ∧ (σ1_2.1 96 4).toInt ≤ 38 := hIσ1_2 96 4
    have g6 : ¬ (σ1_2.1 96 4).toInt < a5_2.toInt := fun z => h_2 (Int32.lt_iff_toInt_lt.mpr z)
    refine ok_gd.mpr ⟨gb_of (by omega) (by omega), ?_⟩
    refine ok_gd.mpr ⟨gb_of (by omega) (by omega), ?_⟩
    refine ok_gd.mpr ⟨gb_of (by omega) (by omega), ?_⟩
    refine ok_nm2 (fun v8_3 ev8_3 => ?_)
    refine ok_gd.mpr ⟨gb_of (by omega) (by omega), ?_⟩
    refine ok_gd.mpr ⟨gb_of (by omega) (by omega), ?_⟩
    refine ok_nm2 (fun v10_3 ev10_3 => ?_)
    refine ok_gd.mpr ⟨gb_of (by omega) (by omega), ?_⟩
    refine ok_nm2 (fun σ11_3 eσ11_3 => ?_)
    have hIσ11_3 : JC σ11_3 := by rw [eσ11_3]; exact JC_l hIσ1_2
    have f7 : p1.toNatClampNeg = p1.toInt.toNat := rfl
    have hfσ11_3 : Fr fr_fX4_subtractLine σ σ11_3 := by
      have hj : (99 + p1.toNatClampNeg) = 99 ∨ (99 + p1.toNatClampNeg) = 100 ∨ (99 + p1.toNatClampNeg) = 101 ∨ (99 + p1.toNatClampNeg) = 102 ∨ (99 + p1.toNatClampNeg) = 103 ∨ (99 + p1.toNatClampNeg) = 104 ∨ (99 + p1.toNatClampNeg) = 105 ∨ (99 + p1.toNatClampNeg) = 106 ∨ (99 + p1.toNatClampNeg) = 107 ∨ (99 + p1.toNatClampNeg) = 108 ∨ (99 + p1.toNatClampNeg) = 109 ∨ (99 + p1.toNatClampNeg) = 110 ∨ (99 + p1.toNatClampNeg) = 111 ∨ (99 + p1.toNatClampNeg) = 112 ∨ (99 + p1.toNatClampNeg) = 113 ∨ (99 + p1.toNatClampNeg) = 114 ∨ (99 + p1.toNatClampNeg) = 115 ∨ (99 + p1.toNatClampNeg) = 116 ∨ (99 + p1.toNatClampNeg) = 117 ∨ (99 + p1.toNatClampNeg) = 118 ∨ (99 + p1.toNatClampNeg) = 119 ∨ (99 + p1.toNatClampNeg) = 120 ∨ (99 + p1.toNatClampNeg) = 121 ∨ (99 + p1.toNatClampNeg) = 122 ∨ (99 + p1.toNatClampNeg) = 123 ∨ (99 + p1.toNatClampNeg) = 124 ∨ (99 + p1.toNatClampNeg) = 125 ∨ (99 + p1.toNatClampNeg) = 126 ∨ (99 + p1.toNatClampNeg) = 127 ∨ (99 + p1.toNatClampNeg) = 128 ∨ (99 + p1.toNatClampNeg) = 129 ∨ (99 + p1.toNatClampNeg) = 130 ∨ (99 + p1.toNatClampNeg) = 131 ∨ (99 + p1.toNatClampNeg) = 132 ∨ (99 + p1.toNatClampNeg) = 133 ∨ (99 + p1.toNatClampNeg) = 134 ∨ (99 + p1.toNatClampNeg) = 135 ∨ (99 + p1.toNatClampNeg) = 136 := by omega
      rw [eσ11_3]; exact Fr_l0 hfσ1_2 (by rcases hj with hj | hj | hj | hj | hj | hj | hj | hj | hj | hj | hj | hj | hj | hj | hj | hj | hj | hj | hj | hj | hj | hj | hj | hj | hj | hj | hj | hj | hj | hj | hj | hj | hj | hj | hj | hj | hj | hj <;> rw [hj] <;> decide)
    have sσ11_3_96_4 : (σ11_3.1 96 4).toInt = (σ1_2.1 96 4).toInt := by rw [eσ11_3]; rfl
    refine ok_nm2 (fun x12_3 ex12_3 => ?_)
    have f8 : (1 : Int32).toInt = 1 := by decide
    have f9 : (a5_2 + (1 : Int32)).toInt = a5_2.toInt + (1 : Int32).toInt := iadd_toInt (by omega) (by omega)
    have qx12_3 : x12_3.toInt = (a5_2 + 1).toInt := congrArg Int32.toInt ex12_3
    exact hrec_2 _ (x12_3, σ11_3) (show (40 + 1 - x12_3.toInt).toNat < n_2 by omega) ⟨rfl, hIσ11_3, hfσ11_3, (show 0 ≤ x12_3.toInt by omega), (show x12_3.toInt ≤ 40 by omega)⟩
set_option maxRecDepth 20000 in
set_option maxHeartbeats 2000000 in
theorem o_fX4_swapLines {σ : gS} (hIσ : JC σ) {p1 : Int32} {p2 : Int32} (h0p1 : 0 ≤ p1.toInt) (h1p1 : p1.toInt ≤ 37) (h0p2 : 0 ≤ p2.toInt) (h1p2 : p2.toInt ≤ 37) : Ok (fX4_swapLines σ p1 p2) (fun out => JC out ∧ Fr fr_fX4_swapLines σ out) := by
  unfold fX4_swapLines
  have hfσ : Fr fr_fX4_swapLines σ σ := Fr_r
  have f1 : 0 ≤ (σ.1 96 4).toInt ∧ (σ.1 96 4).toInt ≤ 38 := hIσ 96 4
  refine ok_nm2 (fun x1 ex1 => ?_)
  have f2 : (0 : Int32).toInt = 0 := by decide
  have qx1 : x1.toInt = 0 := by rw [ex1]; decide
  refine ok_lpc (I := fun n s => n = (40 + 1 - s.1.toInt).toNat ∧ JC s.2 ∧ Fr fr_fX4_swapLines σ s.2 ∧ 0 ≤ s.1.toInt ∧ s.1.toInt ≤ 40) (fun rec2_1r n_1 s_1 hs_1 hrec_1 => ?_) K9 ((40 + 1 - x1.toInt).toNat) (x1, σ) ⟨rfl, hIσ, hfσ, (show 0 ≤ x1.toInt by omega), (show x1.toInt ≤ 40 by omega)⟩ (by unfold K9; omega)
  obtain ⟨a3_1, σ1_1⟩ := s_1
  obtain ⟨hn_1, hIσ1_1, hfσ1_1, b0a3_1, b1a3_1⟩ := hs_1
  dsimp only at hn_1 hIσ1_1 hfσ1_1 b0a3_1 b1a3_1
  unfold bX4_swapLines_2
  try dsimp only
  refine ok_ite.mpr ⟨fun h_3 => ?_, fun h_3 => ?_⟩
  · have f4 : 0 ≤ (σ1_1.1 96 4).toInt ∧ (σ1_1.1 96 4).toInt ≤ 38 := hIσ1_1 96 4
    have g5 : (σ1_1.1 96 4).toInt < a3_1.toInt := Int32.lt_iff_toInt_lt.mp h_3
    refine ok_some.mpr ?_
    exact ⟨hIσ1_1, hfσ1_1⟩
  · have f6 : 0 ≤ (σ1_1.1 96 4).toInt ∧ (σ1_1.1 96 4).toInt ≤ 38 := hIσ1_1 96 4
    have g7 : ¬ (σ1_1.1 96 4).toInt < a3_1.toInt := fun z => h_3 (Int32.lt_iff_toInt_lt.mpr z)
    refine ok_gd.mpr ⟨gb_of (by omega) (by omega), ?_⟩
    refine ok_gd.mpr ⟨gb_of (by omega) (by omega), ?_⟩
    refine ok_nm2 (fun v4_2 ev4_2 => ?_)
    refine ok_nm.mpr ?_
    refine ok_gd.mpr ⟨gb_of (by omega) (by omega), ?_⟩
    refine ok_gd.mpr ⟨gb_of (by omega) (by omega), ?_⟩
    refine ok_gd.mpr ⟨gb_of (by omega) (by omega), ?_⟩
    refine ok_nm2 (fun v8_2_3 ev8_2_3 => ?_)
    refine ok_gd.mpr ⟨gb_of (by omega) (by omega), ?_⟩
    refine ok_nm2 (fun σ9_2_3 eσ9_2_3 => ?_)
    have hIσ9_2_3 : JC σ9_2_3 := by rw [eσ9_2_3]; exact JC_l hIσ1_1
    have f8 : p1.toNatClampNeg = p1.toInt.toNat := rfl
    have hfσ9_2_3 : Fr fr_fX4_swapLines σ σ9_2_3 := by
      have hj : (99 + p1.toNatClampNeg) = 99 ∨ (99 + p1.toNatClampNeg) = 100 ∨ (99 + p1.toNatClampNeg) = 101 ∨ (99 + p1.toNatClampNeg) = 102 ∨ (99 + p1.toNatClampNeg) = 103 ∨ (99 + p1.toNatClampNeg) = 104 ∨ (99 + p1.toNatClampNeg) = 105 ∨ (99 + p1.toNatClampNeg) = 106 ∨ (99 + p1.toNatClampNeg) = 107 ∨ (99 + p1.toNatClampNeg) = 108 ∨ (99 + p1.toNatClampNeg) = 109 ∨ (99 + p1.toNatClampNeg) = 110 ∨ (99 + p1.toNatClampNeg) = 111 ∨ (99 + p1.toNatClampNeg) = 112 ∨ (99 + p1.toNatClampNeg) = 113 ∨ (99 + p1.toNatClampNeg) = 114 ∨ (99 + p1.toNatClampNeg) = 115 ∨ (99 + p1.toNatClampNeg) = 116 ∨ (99 + p1.toNatClampNeg) = 117 ∨ (99 + p1.toNatClampNeg) = 118 ∨ (99 + p1.toNatClampNeg) = 119 ∨ (99 + p1.toNatClampNeg) = 120 ∨ (99 + p1.toNatClampNeg) = 121 ∨ (99 + p1.toNatClampNeg) = 122 ∨ (99 + p1.toNatClampNeg) = 123 ∨ (99 + p1.toNatClampNeg) = 124 ∨ (99 + p1.toNatClampNeg) = 125 ∨ (99 + p1.toNatClampNeg) = 126 ∨ (99 + p1.toNatClampNeg) = 127 ∨ (99 + p1.toNatClampNeg) = 128 ∨ (99 + p1.toNatClampNeg) = 129 ∨ (99 + p1.toNatClampNeg) = 130 ∨ (99 + p1.toNatClampNeg) = 131 ∨ (99 + p1.toNatClampNeg) = 132 ∨ (99 + p1.toNatClampNeg) = 133 ∨ (99 + p1.toNatClampNeg) = 134 ∨ (99 + p1.toNatClampNeg) = 135 ∨ (99 + p1.toNatClampNeg) = 136 := by omega
      rw [eσ9_2_3]; exact Fr_l0 hfσ1_1 (by rcases hj with hj | hj | hj | hj | hj | hj | hj | hj | hj | hj | hj | hj | hj | hj | hj | hj | hj | hj | hj | hj | hj | hj | hj | hj | hj | hj | hj | hj | hj | hj | hj | hj | hj | hj | hj | hj | hj | hj <;> rw [hj] <;> decide)
    have sσ9_2_3_96_4 : (σ9_2_3.1 96 4).toInt = (σ1_1.1 96 4).toInt := by rw [eσ9_2_3]; rfl
    refine ok_gd.mpr ⟨gb_of (by omega) (by omega), ?_⟩
    refine ok_gd.mpr ⟨gb_of (by omega) (by omega), ?_⟩
    refine ok_nm2 (fun σ11_2_3 eσ11_2_3 => ?_)
    have hIσ11_2_3 : JC σ11_2_3 := by rw [eσ11_2_3]; exact JC_l hIσ9_2_3
    have f9 : p2.toNatClampNeg = p2.toInt.toNat := rfl
    have hfσ11_2_3 : Fr fr_fX4_swapLines σ σ11_2_3 := by
      have hj : (99 + p2.toNatClampNeg) = 99 ∨ (99 + p2.toNatClampNeg) = 100 ∨ (99 + p2.toNatClampNeg) = 101 ∨ (99 + p2.toNatClampNeg) = 102 ∨ (99 + p2.toNatClampNeg) = 103 ∨ (99 + p2.toNatClampNeg) = 104 ∨ (99 + p2.toNatClampNeg) = 105 ∨ (99 + p2.toNatClampNeg) = 106 ∨ (99 + p2.toNatClampNeg) = 107 ∨ (99 + p2.toNatClampNeg) = 108 ∨ (99 + p2.toNatClampNeg) = 109 ∨ (99 + p2.toNatClampNeg) = 110 ∨ (99 + p2.toNatClampNeg) = 111 ∨ (99 + p2.toNatClampNeg) = 112 ∨ (99 + p2.toNatClampNeg) = 113 ∨ (99 + p2.toNatClampNeg) = 114 ∨ (99 + p2.toNatClampNeg) = 115 ∨ (99 + p2.toNatClampNeg) = 116 ∨ (99 + p2.toNatClampNeg) = 117 ∨ (99 + p2.toNatClampNeg) = 118 ∨ (99 + p2.toNatClampNeg) = 119 ∨ (99 + p2.toNatClampNeg) = 120 ∨ (99 + p2.toNatClampNeg) = 121 ∨ (99 + p2.toNatClampNeg) = 122 ∨ (99 + p2.toNatClampNeg) = 123 ∨ (99 + p2.toNatClampNeg) = 124 ∨ (99 + p2.toNatClampNeg) = 125 ∨ (99 + p2.toNatClampNeg) = 126 ∨ (99 + p2.toNatClampNeg) = 127 ∨ (99 + p2.toNatClampNeg) = 128 ∨ (99 + p2.toNatClampNeg) = 129 ∨ (99 + p2.toNatClampNeg) = 130 ∨ (99 + p2.toNatClampNeg) = 131 ∨ (99 + p2.toNatClampNeg) = 132 ∨ (99 + p2.toNatClampNeg) = 133 ∨ (99 + p2.toNatClampNeg) = 134 ∨ (99 + p2.toNatClampNeg) = 135 ∨ (99 + p2.toNatClampNeg) = 136 := by omega
      rw [eσ11_2_3]; exact Fr_l0 hfσ9_2_3 (by rcases hj with hj | hj | hj | hj | hj | hj | hj | hj | hj | hj | hj | hj | hj | hj | hj | hj | hj | hj | hj | hj | hj | hj | hj | hj | hj | hj | hj | hj | hj | hj | hj | hj | hj | hj | hj | hj | hj | hj <;> rw [hj] <;> decide)
    have sσ11_2_3_96_4 : (σ11_2_3.1 96 4).toInt = (σ9_2_3.1 96 4).toInt := by rw [eσ11_2_3]; rfl
    refine ok_nm2 (fun x12_2_3 ex12_2_3 => ?_)
    have f10 : (1 : Int32).toInt = 1 := by decide
    have f11 : (a3_1 + (1 : Int32)).toInt = a3_1.toInt + (1 : Int32).toInt := iadd_toInt (by omega) (by omega)
    have qx12_2_3 : x12_2_3.toInt = (a3_1 + 1).toInt := congrArg Int32.toInt ex12_2_3
    exact hrec_1 _ (x12_2_3, σ11_2_3) (show (40 + 1 - x12_2_3.toInt).toNat < n_1 by omega) ⟨rfl, hIσ11_2_3, hfσ11_2_3, (show 0 ≤ x12_2_3.toInt by omega), (show x12_2_3.toInt ≤ 40 by omega)⟩
set_option maxRecDepth 20000 in
set_option maxHeartbeats 2000000 in
theorem o_fX4_eliminate {σ : gS} (hIσ : JC σ) {p1 : Int32} (h0p1 : 0 ≤ p1.toInt) (h1p1 : p1.toInt ≤ 37) : Ok (fX4_eliminate σ p1) (fun out => JC out.2 ∧ Fr fr_fX4_eliminate σ out.2 ∧ 0 ≤ out.1.toInt ∧ out.1.toInt ≤ 1) := by
  unfold fX4_eliminate
  have hfσ : Fr fr_fX4_eliminate σ σ := Fr_r
  have f1 : 0 ≤ (σ.1 96 4).toInt ∧ (σ.1 96 4).toInt ≤ 38 := hIσ 96 4
  refine ok_nm.mpr ?_
  refine ok_lpc (I := fun n s => n = (38 + 1 - s.toInt).toNat ∧ 0 ≤ s.toInt ∧ s.toInt ≤ 38) (fun rec2_2r n_2 s_2 hs_2 hrec_2 => ?_) K9 ((38 + 1 - p1.toInt).toNat) p1 ⟨rfl, (show 0 ≤ p1.toInt by omega), (show p1.toInt ≤ 38 by omega)⟩ (by unfold K9; omega)
  obtain ⟨a2_2, hq_2⟩ : ∃ y, y = s_2 := ⟨_, rfl⟩
  subst hq_2
  obtain ⟨hn_2, b0a2_2, b1a2_2⟩ := hs_2
  skip
  unfold bX4_eliminate_2
  try dsimp only
  refine ok_ite.mpr ⟨fun h_2 => ?_, fun h_2 => ?_⟩
  · have g3 : (σ.1 96 4).toInt ≤ a2_2.toInt := Int32.le_iff_toInt_le.mp h_2
    try unfold jX4_eliminate_29
    refine ok_ite.mpr ⟨fun h_4 => ?_, fun h_4 => ?_⟩
    · have g5 : a2_2.toInt < (σ.1 96 4).toInt := Int32.lt_iff_toInt_lt.mp h_4
      refine ok_ite.mpr ⟨fun h_6 => ?_, fun h_6 => ?_⟩
      · have g7 : a2_2.toInt = p1.toInt := by rw [h_6]
        try unfold jX4_eliminate_50
        refine ok_gd.mpr ⟨gb_of (by omega) (by omega), ?_⟩
        refine ok_gd.mpr ⟨gb_of (by omega) (by omega), ?_⟩
        refine ok_nm2 (fun v6_5 ev6_5 => ?_)
        refine ok_bd.mpr ((o_fX4_inverse hIσ (p0 := (v6_5 : Int64)) ).mono (fun r8_5 ho_9 => ?_))
        refine ok_nm.mpr ?_
        refine ok_nm.mpr ?_
        refine ok_lpc (I := fun n s => n = (40 + 1 - s.1.toInt).toNat ∧ JC s.2 ∧ Fr fr_fX4_eliminate σ s.2 ∧ 0 ≤ s.1.toInt ∧ s.1.toInt ≤ 40) (fun rec65_8r n_8 s_8 hs_8 hrec_8 => ?_) K9 ((40 + 1 - p1.toInt).toNat) (p1, σ) ⟨rfl, hIσ, hfσ, (show 0 ≤ p1.toInt by omega), (show p1.toInt ≤ 40 by omega)⟩ (by unfold K9; omega)
        obtain ⟨a5_8, σ1_8⟩ := s_8
        obtain ⟨hn_8, hIσ1_8, hfσ1_8, b0a5_8, b1a5_8⟩ := hs_8
        dsimp only at hn_8 hIσ1_8 hfσ1_8 b0a5_8 b1a5_8
        unfold bX4_eliminate_65
        try dsimp only
        refine ok_ite.mpr ⟨fun h_10 => ?_, fun h_10 => ?_⟩
        · have f11 : 0 ≤ (σ1_8.1 96 4).toInt ∧ (σ1_8.1 96 4).toInt ≤ 38 := hIσ1_8 96 4
          have g12 : (σ1_8.1 96 4).toInt < a5_8.toInt := Int32.lt_iff_toInt_lt.mp h_10
          refine ok_nm2 (fun x12_9 ex12_9 => ?_)
          have f13 : (0 : Int32).toInt = 0 := by decide
          have qx12_9 : x12_9.toInt = 0 := by rw [ex12_9]; decide
          refine ok_lpc (I := fun n s => n = (38 + 1 - s.1.toInt).toNat ∧ JC s.2 ∧ Fr fr_fX4_eliminate σ s.2 ∧ 0 ≤ s.1.toInt ∧ s.1.toInt ≤ 38) (fun rec107_10r n_10 s_10 hs_10 hrec_10 => ?_) K9 ((38 + 1 - x12_9.toInt).toNat) (x12_9, σ1_8) ⟨rfl, hIσ1_8, hfσ1_8, (show 0 ≤ x12_9.toInt by omega), (show x12_9.toInt ≤ 38 by omega)⟩ (by unfold K9; omega)
          obtain ⟨a5_10, σ1_10⟩ := s_10
          obtain ⟨hn_10, hIσ1_10, hfσ1_10, b0a5_10, b1a5_10⟩ := hs_10
          dsimp only at hn_10 hIσ1_10 hfσ1_10 b0a5_10 b1a5_10
          unfold bX4_eliminate_107
          try dsimp only
          refine ok_ite.mpr ⟨fun h_14 => ?_, fun h_14 => ?_⟩
          · have f15 : 0 ≤ (σ1_10.1 96 4).toInt ∧ (σ1_10.1 96 4).toInt ≤ 38 := hIσ1_10 96 4
            have g16 : (σ1_10.1 96 4).toInt ≤ a5_10.toInt := Int32.le_iff_toInt_le.mp h_14
            refine ok_some.mpr ?_
            have f17 : (1 : Int32).toInt = 1 := by decide
            exact ⟨hIσ1_10, hfσ1_10, (show 0 ≤ (1 : Int32).toInt by omega), (show (1 : Int32).toInt ≤ 1 by omega)⟩
          · have f18 : 0 ≤ (σ1_10.1 96 4).toInt ∧ (σ1_10.1 96 4).toInt ≤ 38 := hIσ1_10 96 4
            have g19 : ¬ (σ1_10.1 96 4).toInt ≤ a5_10.toInt := fun z => h_14 (Int32.le_iff_toInt_le.mpr z)
            refine ok_ite.mpr ⟨fun h_20 => ?_, fun h_20 => ?_⟩
            · have g21 : a5_10.toInt = p1.toInt := by rw [h_20]
              refine ok_nm2 (fun x15_11 ex15_11 => ?_)
              have f22 : (1 : Int32).toInt = 1 := by decide
              have f23 : (a5_10 + (1 : Int32)).toInt = a5_10.toInt + (1 : Int32).toInt := iadd_toInt (by omega) (by omega)
              have qx15_11 : x15_11.toInt = (a5_10 + 1).toInt := congrArg Int32.toInt ex15_11
              exact hrec_10 _ (x15_11, σ1_10) (show (38 + 1 - x15_11.toInt).toNat < n_10 by omega) ⟨rfl, hIσ1_10, hfσ1_10, (show 0 ≤ x15_11.toInt by omega), (show x15_11.toInt ≤ 38 by omega)⟩
            · have g24 : a5_10.toInt ≠ p1.toInt := fun z => h_20 (Int32.toInt_inj.mp z)
              refine ok_gd.mpr ⟨gb_of (by omega) (by omega), ?_⟩
              refine ok_gd.mpr ⟨gb_of (by omega) (by omega), ?_⟩
              refine ok_nm2 (fun v17_11 ev17_11 => ?_)
              refine ok_ite.mpr ⟨fun h_25 => ?_, fun h_25 => ?_⟩
              · have f26 : (0 : Int64).toInt = 0 := by decide
                have g27 : v17_11.toInt = (0 : Int64).toInt := by rw [h_25]
                refine ok_nm2 (fun x19_11 ex19_11 => ?_)
                have f28 : (1 : Int32).toInt = 1 := by decide
                have f29 : (a5_10 + (1 : Int32)).toInt = a5_10.toInt + (1 : Int32).toInt := iadd_toInt (by omega) (by omega)
                have qx19_11 : x19_11.toInt = (a5_10 + 1).toInt := congrArg Int32.toInt ex19_11
                exact hrec_10 _ (x19_11, σ1_10) (show (38 + 1 - x19_11.toInt).toNat < n_10 by omega) ⟨rfl, hIσ1_10, hfσ1_10, (show 0 ≤ x19_11.toInt by omega), (show x19_11.toInt ≤ 38 by omega)⟩
              · have f30 : (0 : Int64).toInt = 0 := by decide
                have g31 : v17_11.toInt ≠ (0 : Int64).toInt := fun z => h_25 (Int64.toInt_inj.mp z)
                refine ok_bd.mpr ((o_fX4_subtractLine hIσ1_10 (p1 := a5_10) (p2 := p1) (by omega) (by omega) (by omega) (by omega)).mono (fun σ21_11 ho_33 => ?_))
                obtain ⟨hIσ21_11, hcσ21_11⟩ := ho_33
                have hfσ21_11 : Fr fr_fX4_eliminate σ σ21_11 := Fr_c hfσ1_10 hcσ21_11 (by decide)
                have sσ21_11_96_4 : (σ21_11.1 96 4).toInt = (σ1_10.1 96 4).toInt := by rw [(hcσ21_11 96 4 (by decide) (by decide)).1]
                refine ok_nm2 (fun x22_11 ex22_11 => ?_)
                have f34 : (1 : Int32).toInt = 1 := by decide
                have f35 : (a5_10 + (1 : Int32)).toInt = a5_10.toInt + (1 : Int32).toInt := iadd_toInt (by omega) (by omega)
                have qx22_11 : x22_11.toInt = (a5_10 + 1).toInt := congrArg Int32.toInt ex22_11
                exact hrec_10 _ (x22_11, σ21_11) (show (38 + 1 - x22_11.toInt).toNat < n_10 by omega) ⟨rfl, hIσ21_11, hfσ21_11, (show 0 ≤ x22_11.toInt by omega), (show x22_11.toInt ≤ 38 by omega)⟩
        · have f36 : 0 ≤ (σ1_8.1 96 4).toInt ∧ (σ1_8.1 96 4).toInt ≤ 38 := hIσ1_8 96 4
          have g37 : ¬ (σ1_8.1 96 4).toInt < a5_8.toInt := fun z => h_10 (Int32.lt_iff_toInt_lt.mpr z)
          refine ok_gd.mpr ⟨gb_of (by omega) (by omega), ?_⟩
          refine ok_gd.mpr ⟨gb_of (by omega) (by omega), ?_⟩
          refine ok_gd.mpr ⟨gb_of (by omega) (by omega), ?_⟩
          refine ok_nm2 (fun v25_9 ev25_9 => ?_)
          refine ok_gd.mpr ⟨gb_of (by omega) (by omega), ?_⟩
          refine ok_nm2 (fun σ26_9 eσ26_9 => ?_)
          have hIσ26_9 : JC σ26_9 := by rw [eσ26_9]; exact JC_l hIσ1_8
          have f38 : p1.toNatClampNeg = p1.toInt.toNat := rfl
          have hfσ26_9 : Fr fr_fX4_eliminate σ σ26_9 := by
            have hj : (99 + p1.toNatClampNeg) = 99 ∨ (99 + p1.toNatClampNeg) = 100 ∨ (99 + p1.toNatClampNeg) = 101 ∨ (99 + p1.toNatClampNeg) = 102 ∨ (99 + p1.toNatClampNeg) = 103 ∨ (99 + p1.toNatClampNeg) = 104 ∨ (99 + p1.toNatClampNeg) = 105 ∨ (99 + p1.toNatClampNeg) = 106 ∨ (99 + p1.toNatClampNeg) = 107 ∨ (99 + p1.toNatClampNeg) = 108 ∨ (99 + p1.toNatClampNeg) = 109 ∨ (99 + p1.toNatClampNeg) = 110 ∨ (99 + p1.toNatClampNeg) = 111 ∨ (99 + p1.toNatClampNeg) = 112 ∨ (99 + p1.toNatClampNeg) = 113 ∨ (99 + p1.toNatClampNeg) = 114 ∨ (99 + p1.toNatClampNeg) = 115 ∨ (99 + p1.toNatClampNeg) = 116 ∨ (99 + p1.toNatClampNeg) = 117 ∨ (99 + p1.toNatClampNeg) = 118 ∨ (99 + p1.toNatClampNeg) = 119 ∨ (99 + p1.toNatClampNeg) = 120 ∨ (99 + p1.toNatClampNeg) = 121 ∨ (99 + p1.toNatClampNeg) = 122 ∨ (99 + p1.toNatClampNeg) = 123 ∨ (99 + p1.toNatClampNeg) = 124 ∨ (99 + p1.toNatClampNeg) = 125 ∨ (99 + p1.toNatClampNeg) = 126 ∨ (99 + p1.toNatClampNeg) = 127 ∨ (99 + p1.toNatClampNeg) = 128 ∨ (99 + p1.toNatClampNeg) = 129 ∨ (99 + p1.toNatClampNeg) = 130 ∨ (99 + p1.toNatClampNeg) = 131 ∨ (99 + p1.toNatClampNeg) = 132 ∨ (99 + p1.toNatClampNeg) = 133 ∨ (99 + p1.toNatClampNeg) = 134 ∨ (99 + p1.toNatClampNeg) = 135 ∨ (99 + p1.toNatClampNeg) = 136 := by omega
            rw [eσ26_9]; exact Fr_l0 hfσ1_8 (by rcases hj with hj | hj | hj | hj | hj | hj | hj | hj | hj | hj | hj | hj | hj | hj | hj | hj | hj | hj | hj | hj | hj | hj | hj | hj | hj | hj | hj | hj | hj | hj | hj | hj | hj | hj | hj | hj | hj | hj <;> rw [hj] <;> decide)
          have sσ26_9_96_4 : (σ26_9.1 96 4).toInt = (σ1_8.1 96 4).toInt := by rw [eσ26_9]; rfl
          refine ok_nm2 (fun x27_9 ex27_9 => ?_)
          have f39 : (1 : Int32).toInt = 1 := by decide
          have f40 : (a5_8 + (1 : Int32)).toInt = a5_8.toInt + (1 : Int32).toInt := iadd_toInt (by omega) (by omega)
          have qx27_9 : x27_9.toInt = (a5_8 + 1).toInt := congrArg Int32.toInt ex27_9
          exact hrec_8 _ (x27_9, σ26_9) (show (40 + 1 - x27_9.toInt).toNat < n_8 by omega) ⟨rfl, hIσ26_9, hfσ26_9, (show 0 ≤ x27_9.toInt by omega), (show x27_9.toInt ≤ 40 by omega)⟩
      · have g41 : a2_2.toInt ≠ p1.toInt := fun z => h_6 (Int32.toInt_inj.mp z)
        refine ok_bd.mpr ((o_fX4_swapLines hIσ (p1 := a2_2) (p2 := p1) (by omega) (by omega) (by omega) (by omega)).mono (fun σ29_4 ho_43 => ?_))
        obtain ⟨hIσ29_4, hcσ29_4⟩ := ho_43
        have hfσ29_4 : Fr fr_fX4_eliminate σ σ29_4 := Fr_c hfσ hcσ29_4 (by decide)
        have sσ29_4_96_4 : (σ29_4.1 96 4).toInt = (σ.1 96 4).toInt := by rw [(hcσ29_4 96 4 (by decide) (by decide)).1]
        try unfold jX4_eliminate_50
        refine ok_gd.mpr ⟨gb_of (by omega) (by omega), ?_⟩
        refine ok_gd.mpr ⟨gb_of (by omega) (by omega), ?_⟩
        refine ok_nm2 (fun v6_12 ev6_12 => ?_)
        refine ok_bd.mpr ((o_fX4_inverse hIσ29_4 (p0 := (v6_12 : Int64)) ).mono (fun r8_12 ho_45 => ?_))
        refine ok_nm.mpr ?_
        refine ok_nm.mpr ?_
        refine ok_lpc (I := fun n s => n = (40 + 1 - s.1.toInt).toNat ∧ JC s.2 ∧ Fr fr_fX4_eliminate σ s.2 ∧ 0 ≤ s.1.toInt ∧ s.1.toInt ≤ 40) (fun rec65_15r n_15 s_15 hs_15 hrec_15 => ?_) K9 ((40 + 1 - p1.toInt).toNat) (p1, σ29_4) ⟨rfl, hIσ29_4, hfσ29_4, (show 0 ≤ p1.toInt by omega), (show p1.toInt ≤ 40 by omega)⟩ (by unfold K9; omega)
        obtain ⟨a5_15, σ1_15⟩ := s_15
        obtain ⟨hn_15, hIσ1_15, hfσ1_15, b0a5_15, b1a5_15⟩ := hs_15
        dsimp only at hn_15 hIσ1_15 hfσ1_15 b0a5_15 b1a5_15
        unfold bX4_eliminate_65
        try dsimp only
        refine ok_ite.mpr ⟨fun h_46 => ?_, fun h_46 => ?_⟩
        · have f47 : 0 ≤ (σ1_15.1 96 4).toInt ∧ (σ1_15.1 96 4).toInt ≤ 38 := hIσ1_15 96 4
          have g48 : (σ1_15.1 96 4).toInt < a5_15.toInt := Int32.lt_iff_toInt_lt.mp h_46
          refine ok_nm2 (fun x12_16 ex12_16 => ?_)
          have f49 : (0 : Int32).toInt = 0 := by decide
          have qx12_16 : x12_16.toInt = 0 := by rw [ex12_16]; decide
          refine ok_lpc (I := fun n s => n = (38 + 1 - s.1.toInt).toNat ∧ JC s.2 ∧ Fr fr_fX4_eliminate σ s.2 ∧ 0 ≤ s.1.toInt ∧ s.1.toInt ≤ 38) (fun rec107_17r n_17 s_17 hs_17 hrec_17 => ?_) K9 ((38 + 1 - x12_16.toInt).toNat) (x12_16, σ1_15) ⟨rfl, hIσ1_15, hfσ1_15, (show 0 ≤ x12_16.toInt by omega), (show x12_16.toInt ≤ 38 by omega)⟩ (by unfold K9; omega)
          obtain ⟨a5_17, σ1_17⟩ := s_17
          obtain ⟨hn_17, hIσ1_17, hfσ1_17, b0a5_17, b1a5_17⟩ := hs_17
          dsimp only at hn_17 hIσ1_17 hfσ1_17 b0a5_17 b1a5_17
          unfold bX4_eliminate_107
          try dsimp only
          refine ok_ite.mpr ⟨fun h_50 => ?_, fun h_50 => ?_⟩
          · have f51 : 0 ≤ (σ1_17.1 96 4).toInt ∧ (σ1_17.1 96 4).toInt ≤ 38 := hIσ1_17 96 4
            have g52 : (σ1_17.1 96 4).toInt ≤ a5_17.toInt := Int32.le_iff_toInt_le.mp h_50
            refine ok_some.mpr ?_
            have f53 : (1 : Int32).toInt = 1 := by decide
            exact ⟨hIσ1_17, hfσ1_17, (show 0 ≤ (1 : Int32).toInt by omega), (show (1 : Int32).toInt ≤ 1 by omega)⟩
          · have f54 : 0 ≤ (σ1_17.1 96 4).toInt ∧ (σ1_17.1 96 4).toInt ≤ 38 := hIσ1_17 96 4
            have g55 : ¬ (σ1_17.1 96 4).toInt ≤ a5_17.toInt := fun z => h_50 (Int32.le_iff_toInt_le.mpr z)
            refine ok_ite.mpr ⟨fun h_56 => ?_, fun h_56 => ?_⟩
            · have g57 : a5_17.toInt = p1.toInt := by rw [h_56]
              refine ok_nm2 (fun x15_18 ex15_18 => ?_)
              have f58 : (1 : Int32).toInt = 1 := by decide
              have f59 : (a5_17 + (1 : Int32)).toInt = a5_17.toInt + (1 : Int32).toInt := iadd_toInt (by omega) (by omega)
              have qx15_18 : x15_18.toInt = (a5_17 + 1).toInt := congrArg Int32.toInt ex15_18
              exact hrec_17 _ (x15_18, σ1_17) (show (38 + 1 - x15_18.toInt).toNat < n_17 by omega) ⟨rfl, hIσ1_17, hfσ1_17, (show 0 ≤ x15_18.toInt by omega), (show x15_18.toInt ≤ 38 by omega)⟩
            · have g60 : a5_17.toInt ≠ p1.toInt := fun z => h_56 (Int32.toInt_inj.mp z)
              refine ok_gd.mpr ⟨gb_of (by omega) (by omega), ?_⟩
              refine ok_gd.mpr ⟨gb_of (by omega) (by omega), ?_⟩
              refine ok_nm2 (fun v17_18 ev17_18 => ?_)
              refine ok_ite.mpr ⟨fun h_61 => ?_, fun h_61 => ?_⟩
              · have f62 : (0 : Int64).toInt = 0 := by decide
                have g63 : v17_18.toInt = (0 : Int64).toInt := by rw [h_61]
                refine ok_nm2 (fun x19_18 ex19_18 => ?_)
                have f64 : (1 : Int32).toInt = 1 := by decide
                have f65 : (a5_17 + (1 : Int32)).toInt = a5_17.toInt + (1 : Int32).toInt := iadd_toInt (by omega) (by omega)
                have qx19_18 : x19_18.toInt = (a5_17 + 1).toInt := congrArg Int32.toInt ex19_18
                exact hrec_17 _ (x19_18, σ1_17) (show (38 + 1 - x19_18.toInt).toNat < n_17 by omega) ⟨rfl, hIσ1_17, hfσ1_17, (show 0 ≤ x19_18.toInt by omega), (show x19_18.toInt ≤ 38 by omega)⟩
              · have f66 : (0 : Int64).toInt = 0 := by decide
                have g67 : v17_18.toInt ≠ (0 : Int64).toInt := fun z => h_61 (Int64.toInt_inj.mp z)
                refine ok_bd.mpr ((o_fX4_subtractLine hIσ1_17 (p1 := a5_17) (p2 := p1) (by omega) (by omega) (by omega) (by omega)).mono (fun σ21_18 ho_69 => ?_))
                obtain ⟨hIσ21_18, hcσ21_18⟩ := ho_69
                have hfσ21_18 : Fr fr_fX4_eliminate σ σ21_18 := Fr_c hfσ1_17 hcσ21_18 (by decide)
                have sσ21_18_96_4 : (σ21_18.1 96 4).toInt = (σ1_17.1 96 4).toInt := by rw [(hcσ21_18 96 4 (by decide) (by decide)).1]
                refine ok_nm2 (fun x22_18 ex22_18 => ?_)
                have f70 : (1 : Int32).toInt = 1 := by decide
                have f71 : (a5_17 + (1 : Int32)).toInt = a5_17.toInt + (1 : Int32).toInt := iadd_toInt (by omega) (by omega)
                have qx22_18 : x22_18.toInt = (a5_17 + 1).toInt := congrArg Int32.toInt ex22_18
                exact hrec_17 _ (x22_18, σ21_18) (show (38 + 1 - x22_18.toInt).toNat < n_17 by omega) ⟨rfl, hIσ21_18, hfσ21_18, (show 0 ≤ x22_18.toInt by omega), (show x22_18.toInt ≤ 38 by omega)⟩
        · have f72 : 0 ≤ (σ1_15.1 96 4).toInt ∧ (σ1_15.1 96 4).toInt ≤ 38 := hIσ1_15 96 4
          have g73 : ¬ (σ1_15.1 96 4).toInt < a5_15.toInt := fun z => h_46 (Int32.lt_iff_toInt_lt.mpr z)
          refine ok_gd.mpr ⟨gb_of (by omega) (by omega), ?_⟩
          refine ok_gd.mpr ⟨gb_of (by omega) (by omega), ?_⟩
          refine ok_gd.mpr ⟨gb_of (by omega) (by omega), ?_⟩
          refine ok_nm2 (fun v25_16 ev25_16 => ?_)
          refine ok_gd.mpr ⟨gb_of (by omega) (by omega), ?_⟩
          refine ok_nm2 (fun σ26_16 eσ26_16 => ?_)
          have hIσ26_16 : JC σ26_16 := by rw [eσ26_16]; exact JC_l hIσ1_15
          have f74 : p1.toNatClampNeg = p1.toInt.toNat := rfl
          have hfσ26_16 : Fr fr_fX4_eliminate σ σ26_16 := by
            have hj : (99 + p1.toNatClampNeg) = 99 ∨ (99 + p1.toNatClampNeg) = 100 ∨ (99 + p1.toNatClampNeg) = 101 ∨ (99 + p1.toNatClampNeg) = 102 ∨ (99 + p1.toNatClampNeg) = 103 ∨ (99 + p1.toNatClampNeg) = 104 ∨ (99 + p1.toNatClampNeg) = 105 ∨ (99 + p1.toNatClampNeg) = 106 ∨ (99 + p1.toNatClampNeg) = 107 ∨ (99 + p1.toNatClampNeg) = 108 ∨ (99 + p1.toNatClampNeg) = 109 ∨ (99 + p1.toNatClampNeg) = 110 ∨ (99 + p1.toNatClampNeg) = 111 ∨ (99 + p1.toNatClampNeg) = 112 ∨ (99 + p1.toNatClampNeg) = 113 ∨ (99 + p1.toNatClampNeg) = 114 ∨ (99 + p1.toNatClampNeg) = 115 ∨ (99 + p1.toNatClampNeg) = 116 ∨ (99 + p1.toNatClampNeg) = 117 ∨ (99 + p1.toNatClampNeg) = 118 ∨ (99 + p1.toNatClampNeg) = 119 ∨ (99 + p1.toNatClampNeg) = 120 ∨ (99 + p1.toNatClampNeg) = 121 ∨ (99 + p1.toNatClampNeg) = 122 ∨ (99 + p1.toNatClampNeg) = 123 ∨ (99 + p1.toNatClampNeg) = 124 ∨ (99 + p1.toNatClampNeg) = 125 ∨ (99 + p1.toNatClampNeg) = 126 ∨ (99 + p1.toNatClampNeg) = 127 ∨ (99 + p1.toNatClampNeg) = 128 ∨ (99 + p1.toNatClampNeg) = 129 ∨ (99 + p1.toNatClampNeg) = 130 ∨ (99 + p1.toNatClampNeg) = 131 ∨ (99 + p1.toNatClampNeg) = 132 ∨ (99 + p1.toNatClampNeg) = 133 ∨ (99 + p1.toNatClampNeg) = 134 ∨ (99 + p1.toNatClampNeg) = 135 ∨ (99 + p1.toNatClampNeg) = 136 := by omega
            rw [eσ26_16]; exact Fr_l0 hfσ1_15 (by rcases hj with hj | hj | hj | hj | hj | hj | hj | hj | hj | hj | hj | hj | hj | hj | hj | hj | hj | hj | hj | hj | hj | hj | hj | hj | hj | hj | hj | hj | hj | hj | hj | hj | hj | hj | hj | hj | hj | hj <;> rw [hj] <;> decide)
          have sσ26_16_96_4 : (σ26_16.1 96 4).toInt = (σ1_15.1 96 4).toInt := by rw [eσ26_16]; rfl
          refine ok_nm2 (fun x27_16 ex27_16 => ?_)
          have f75 : (1 : Int32).toInt = 1 := by decide
          have f76 : (a5_15 + (1 : Int32)).toInt = a5_15.toInt + (1 : Int32).toInt := iadd_toInt (by omega) (by omega)
          have qx27_16 : x27_16.toInt = (a5_15 + 1).toInt := congrArg Int32.toInt ex27_16
          exact hrec_15 _ (x27_16, σ26_16) (show (40 + 1 - x27_16.toInt).toNat < n_15 by omega) ⟨rfl, hIσ26_16, hfσ26_16, (show 0 ≤ x27_16.toInt by omega), (show x27_16.toInt ≤ 40 by omega)⟩
    · have g77 : ¬ a2_2.toInt < (σ.1 96 4).toInt := fun z => h_4 (Int32.lt_iff_toInt_lt.mpr z)
      refine ok_some.mpr ?_
      have f78 : (0 : Int32).toInt = 0 := by decide
      exact ⟨hIσ, hfσ, (show 0 ≤ (0 : Int32).toInt by omega), (show (0 : Int32).toInt ≤ 1 by omega)⟩
  · have g79 : ¬ (σ.1 96 4).toInt ≤ a2_2.toInt := fun z => h_2 (Int32.le_iff_toInt_le.mpr z)
    refine ok_gd.mpr ⟨gb_of (by omega) (by omega), ?_⟩
    refine ok_gd.mpr ⟨gb_of (by omega) (by omega), ?_⟩
    refine ok_nm2 (fun v31_3 ev31_3 => ?_)
    refine ok_ite.mpr ⟨fun h_80 => ?_, fun h_80 => ?_⟩
    · have f81 : (0 : Int64).toInt = 0 := by decide
      have g82 : v31_3.toInt = (0 : Int64).toInt := by rw [h_80]
      refine ok_nm2 (fun x33_3 ex33_3 => ?_)
      have f83 : (1 : Int32).toInt = 1 := by decide
      have f84 : (a2_2 + (1 : Int32)).toInt = a2_2.toInt + (1 : Int32).toInt := iadd_toInt (by omega) (by omega)
      have qx33_3 : x33_3.toInt = (a2_2 + 1).toInt := congrArg Int32.toInt ex33_3
      exact hrec_2 _ x33_3 (show (38 + 1 - x33_3.toInt).toNat < n_2 by omega) ⟨rfl, (show 0 ≤ x33_3.toInt by omega), (show x33_3.toInt ≤ 38 by omega)⟩
    · have f85 : (0 : Int64).toInt = 0 := by decide
      have g86 : v31_3.toInt ≠ (0 : Int64).toInt := fun z => h_80 (Int64.toInt_inj.mp z)
      try unfold jX4_eliminate_29
      refine ok_ite.mpr ⟨fun h_87 => ?_, fun h_87 => ?_⟩
      · have g88 : a2_2.toInt < (σ.1 96 4).toInt := Int32.lt_iff_toInt_lt.mp h_87
        refine ok_ite.mpr ⟨fun h_89 => ?_, fun h_89 => ?_⟩
        · have g90 : a2_2.toInt = p1.toInt := by rw [h_89]
          try unfold jX4_eliminate_50
          refine ok_gd.mpr ⟨gb_of (by omega) (by omega), ?_⟩
          refine ok_gd.mpr ⟨gb_of (by omega) (by omega), ?_⟩
          refine ok_nm2 (fun v6_20 ev6_20 => ?_)
          refine ok_bd.mpr ((o_fX4_inverse hIσ (p0 := (v6_20 : Int64)) ).mono (fun r8_20 ho_92 => ?_))
          refine ok_nm.mpr ?_
          refine ok_nm.mpr ?_
          refine ok_lpc (I := fun n s => n = (40 + 1 - s.1.toInt).toNat ∧ JC s.2 ∧ Fr fr_fX4_eliminate σ s.2 ∧ 0 ≤ s.1.toInt ∧ s.1.toInt ≤ 40) (fun rec65_23r n_23 s_23 hs_23 hrec_23 => ?_) K9 ((40 + 1 - p1.toInt).toNat) (p1, σ) ⟨rfl, hIσ, hfσ, (show 0 ≤ p1.toInt by omega), (show p1.toInt ≤ 40 by omega)⟩ (by unfold K9; omega)
          obtain ⟨a5_23, σ1_23⟩ := s_23
          obtain ⟨hn_23, hIσ1_23, hfσ1_23, b0a5_23, b1a5_23⟩ := hs_23
          dsimp only at hn_23 hIσ1_23 hfσ1_23 b0a5_23 b1a5_23
          unfold bX4_eliminate_65
          try dsimp only
          refine ok_ite.mpr ⟨fun h_93 => ?_, fun h_93 => ?_⟩
          · have f94 : 0 ≤ (σ1_23.1 96 4).toInt ∧ (σ1_23.1 96 4).toInt ≤ 38 := hIσ1_23 96 4
            have g95 : (σ1_23.1 96 4).toInt < a5_23.toInt := Int32.lt_iff_toInt_lt.mp h_93
            refine ok_nm2 (fun x12_24 ex12_24 => ?_)
            have f96 : (0 : Int32).toInt = 0 := by decide
            have qx12_24 : x12_24.toInt = 0 := by rw [ex12_24]; decide
            refine ok_lpc (I := fun n s => n = (38 + 1 - s.1.toInt).toNat ∧ JC s.2 ∧ Fr fr_fX4_eliminate σ s.2 ∧ 0 ≤ s.1.toInt ∧ s.1.toInt ≤ 38) (fun rec107_25r n_25 s_25 hs_25 hrec_25 => ?_) K9 ((38 + 1 - x12_24.toInt).toNat) (x12_24, σ1_23) ⟨rfl, hIσ1_23, hfσ1_23, (show 0 ≤ x12_24.toInt by omega), (show x12_24.toInt ≤ 38 by omega)⟩ (by unfold K9; omega)
            obtain ⟨a5_25, σ1_25⟩ := s_25
            obtain ⟨hn_25, hIσ1_25, hfσ1_25, b0a5_25, b1a5_25⟩ := hs_25
            dsimp only at hn_25 hIσ1_25 hfσ1_25 b0a5_25 b1a5_25
            unfold bX4_eliminate_107
            try dsimp only
            refine ok_ite.mpr ⟨fun h_97 => ?_, fun h_97 => ?_⟩
            · have f98 : 0 ≤ (σ1_25.1 96 4).toInt ∧ (σ1_25.1 96 4).toInt ≤ 38 := hIσ1_25 96 4
              have g99 : (σ1_25.1 96 4).toInt ≤ a5_25.toInt := Int32.le_iff_toInt_le.mp h_97
              refine ok_some.mpr ?_
              have f100 : (1 : Int32).toInt = 1 := by decide
              exact ⟨hIσ1_25, hfσ1_25, (show 0 ≤ (1 : Int32).toInt by omega), (show (1 : Int32).toInt ≤ 1 by omega)⟩
            · have f101 : 0 ≤ (σ1_25.1 96 4).toInt ∧ (σ1_25.1 96 4).toInt ≤ 38 := hIσ1_25 96 4
              have g102 : ¬ (σ1_25.1 96 4).toInt ≤ a5_25.toInt := fun z => h_97 (Int32.le_iff_toInt_le.mpr z)
              refine ok_ite.mpr ⟨fun h_103 => ?_, fun h_103 => ?_⟩
              · have g104 : a5_25.toInt = p1.toInt := by rw [h_103]
                refine ok_nm2 (fun x15_26 ex15_26 => ?_)
                have f105 : (1 : Int32).toInt = 1 := by decide
                have f106 : (a5_25 + (1 : Int32)).toInt = a5_25.toInt + (1 : Int32).toInt := iadd_toInt (by omega) (by omega)
                have qx15_26 : x15_26.toInt = (a5_25 + 1).toInt := congrArg Int32.toInt ex15_26
                exact hrec_25 _ (x15_26, σ1_25) (show (38 + 1 - x15_26.toInt).toNat < n_25 by omega) ⟨rfl, hIσ1_25, hfσ1_25, (show 0 ≤ x15_26.toInt by omega), (show x15_26.toInt ≤ 38 by omega)⟩
              · have g107 : a5_25.toInt ≠ p1.toInt := fun z => h_103 (Int32.toInt_inj.mp z)
                refine ok_gd.mpr ⟨gb_of (by omega) (by omega), ?_⟩
                refine ok_gd.mpr ⟨gb_of (by omega) (by omega), ?_⟩
                refine ok_nm2 (fun v17_26 ev17_26 => ?_)
                refine ok_ite.mpr ⟨fun h_108 => ?_, fun h_108 => ?_⟩
                · have g109 : v17_26.toInt = (0 : Int64).toInt := by rw [h_108]
                  refine ok_nm2 (fun x19_26 ex19_26 => ?_)
                  have f110 : (1 : Int32).toInt = 1 := by decide
                  have f111 : (a5_25 + (1 : Int32)).toInt = a5_25.toInt + (1 : Int32).toInt := iadd_toInt (by omega) (by omega)
                  have qx19_26 : x19_26.toInt = (a5_25 + 1).toInt := congrArg Int32.toInt ex19_26
                  exact hrec_25 _ (x19_26, σ1_25) (show (38 + 1 - x19_26.toInt).toNat < n_25 by omega) ⟨rfl, hIσ1_25, hfσ1_25, (show 0 ≤ x19_26.toInt by omega), (show x19_26.toInt ≤ 38 by omega)⟩
                · have g112 : v17_26.toInt ≠ (0 : Int64).toInt := fun z => h_108 (Int64.toInt_inj.mp z)
                  refine ok_bd.mpr ((o_fX4_subtractLine hIσ1_25 (p1 := a5_25) (p2 := p1) (by omega) (by omega) (by omega) (by omega)).mono (fun σ21_26 ho_114 => ?_))
                  obtain ⟨hIσ21_26, hcσ21_26⟩ := ho_114
                  have hfσ21_26 : Fr fr_fX4_eliminate σ σ21_26 := Fr_c hfσ1_25 hcσ21_26 (by decide)
                  have sσ21_26_96_4 : (σ21_26.1 96 4).toInt = (σ1_25.1 96 4).toInt := by rw [(hcσ21_26 96 4 (by decide) (by decide)).1]
                  refine ok_nm2 (fun x22_26 ex22_26 => ?_)
                  have f115 : (1 : Int32).toInt = 1 := by decide
                  have f116 : (a5_25 + (1 : Int32)).toInt = a5_25.toInt + (1 : Int32).toInt := iadd_toInt (by omega) (by omega)
                  have qx22_26 : x22_26.toInt = (a5_25 + 1).toInt := congrArg Int32.toInt ex22_26
                  exact hrec_25 _ (x22_26, σ21_26) (show (38 + 1 - x22_26.toInt).toNat < n_25 by omega) ⟨rfl, hIσ21_26, hfσ21_26, (show 0 ≤ x22_26.toInt by omega), (show x22_26.toInt ≤ 38 by omega)⟩
          · have f117 : 0 ≤ (σ1_23.1 96 4).toInt ∧ (σ1_23.1 96 4).toInt ≤ 38 := hIσ1_23 96 4
            have g118 : ¬ (σ1_23.1 96 4).toInt < a5_23.toInt := fun z => h_93 (Int32.lt_iff_toInt_lt.mpr z)
            refine ok_gd.mpr ⟨gb_of (by omega) (by omega), ?_⟩
            refine ok_gd.mpr ⟨gb_of (by omega) (by omega), ?_⟩
            refine ok_gd.mpr ⟨gb_of (by omega) (by omega), ?_⟩
            refine ok_nm2 (fun v25_24 ev25_24 => ?_)
            refine ok_gd.mpr ⟨gb_of (by omega) (by omega), ?_⟩
            refine ok_nm2 (fun σ26_24 eσ26_24 => ?_)
            have hIσ26_24 : JC σ26_24 := by rw [eσ26_24]; exact JC_l hIσ1_23
            have f119 : p1.toNatClampNeg = p1.toInt.toNat := rfl
            have hfσ26_24 : Fr fr_fX4_eliminate σ σ26_24 := by
              have hj : (99 + p1.toNatClampNeg) = 99 ∨ (99 + p1.toNatClampNeg) = 100 ∨ (99 + p1.toNatClampNeg) = 101 ∨ (99 + p1.toNatClampNeg) = 102 ∨ (99 + p1.toNatClampNeg) = 103 ∨ (99 + p1.toNatClampNeg) = 104 ∨ (99 + p1.toNatClampNeg) = 105 ∨ (99 + p1.toNatClampNeg) = 106 ∨ (99 + p1.toNatClampNeg) = 107 ∨ (99 + p1.toNatClampNeg) = 108 ∨ (99 + p1.toNatClampNeg) = 109 ∨ (99 + p1.toNatClampNeg) = 110 ∨ (99 + p1.toNatClampNeg) = 111 ∨ (99 + p1.toNatClampNeg) = 112 ∨ (99 + p1.toNatClampNeg) = 113 ∨ (99 + p1.toNatClampNeg) = 114 ∨ (99 + p1.toNatClampNeg) = 115 ∨ (99 + p1.toNatClampNeg) = 116 ∨ (99 + p1.toNatClampNeg) = 117 ∨ (99 + p1.toNatClampNeg) = 118 ∨ (99 + p1.toNatClampNeg) = 119 ∨ (99 + p1.toNatClampNeg) = 120 ∨ (99 + p1.toNatClampNeg) = 121 ∨ (99 + p1.toNatClampNeg) = 122 ∨ (99 + p1.toNatClampNeg) = 123 ∨ (99 + p1.toNatClampNeg) = 124 ∨ (99 + p1.toNatClampNeg) = 125 ∨ (99 + p1.toNatClampNeg) = 126 ∨ (99 + p1.toNatClampNeg) = 127 ∨ (99 + p1.toNatClampNeg) = 128 ∨ (99 + p1.toNatClampNeg) = 129 ∨ (99 + p1.toNatClampNeg) = 130 ∨ (99 + p1.toNatClampNeg) = 131 ∨ (99 + p1.toNatClampNeg) = 132 ∨ (99 + p1.toNatClampNeg) = 133 ∨ (99 + p1.toNatClampNeg) = 134 ∨ (99 + p1.toNatClampNeg) = 135 ∨ (99 + p1.toNatClampNeg) = 136 := by omega
              rw [eσ26_24]; exact Fr_l0 hfσ1_23 (by rcases hj with hj | hj | hj | hj | hj | hj | hj | hj | hj | hj | hj | hj | hj | hj | hj | hj | hj | hj | hj | hj | hj | hj | hj | hj | hj | hj | hj | hj | hj | hj | hj | hj | hj | hj | hj | hj | hj | hj <;> rw [hj] <;> decide)
            have sσ26_24_96_4 : (σ26_24.1 96 4).toInt = (σ1_23.1 96 4).toInt := by rw [eσ26_24]; rfl
            refine ok_nm2 (fun x27_24 ex27_24 => ?_)
            have f120 : (1 : Int32).toInt = 1 := by decide
            have f121 : (a5_23 + (1 : Int32)).toInt = a5_23.toInt + (1 : Int32).toInt := iadd_toInt (by omega) (by omega)
            have qx27_24 : x27_24.toInt = (a5_23 + 1).toInt := congrArg Int32.toInt ex27_24
            exact hrec_23 _ (x27_24, σ26_24) (show (40 + 1 - x27_24.toInt).toNat < n_23 by omega) ⟨rfl, hIσ26_24, hfσ26_24, (show 0 ≤ x27_24.toInt by omega), (show x27_24.toInt ≤ 40 by omega)⟩
        · have g122 : a2_2.toInt ≠ p1.toInt := fun z => h_89 (Int32.toInt_inj.mp z)
          refine ok_bd.mpr ((o_fX4_swapLines hIσ (p1 := a2_2) (p2 := p1) (by omega) (by omega) (by omega) (by omega)).mono (fun σ29_19 ho_124 => ?_))
          obtain ⟨hIσ29_19, hcσ29_19⟩ := ho_124
          have hfσ29_19 : Fr fr_fX4_eliminate σ σ29_19 := Fr_c hfσ hcσ29_19 (by decide)
          have sσ29_19_96_4 : (σ29_19.1 96 4).toInt = (σ.1 96 4).toInt := by rw [(hcσ29_19 96 4 (by decide) (by decide)).1]
          try unfold jX4_eliminate_50
          refine ok_gd.mpr ⟨gb_of (by omega) (by omega), ?_⟩
          refine ok_gd.mpr ⟨gb_of (by omega) (by omega), ?_⟩
          refine ok_nm2 (fun v6_27 ev6_27 => ?_)
          refine ok_bd.mpr ((o_fX4_inverse hIσ29_19 (p0 := (v6_27 : Int64)) ).mono (fun r8_27 ho_126 => ?_))
          refine ok_nm.mpr ?_
          refine ok_nm.mpr ?_
          refine ok_lpc (I := fun n s => n = (40 + 1 - s.1.toInt).toNat ∧ JC s.2 ∧ Fr fr_fX4_eliminate σ s.2 ∧ 0 ≤ s.1.toInt ∧ s.1.toInt ≤ 40) (fun rec65_30r n_30 s_30 hs_30 hrec_30 => ?_) K9 ((40 + 1 - p1.toInt).toNat) (p1, σ29_19) ⟨rfl, hIσ29_19, hfσ29_19, (show 0 ≤ p1.toInt by omega), (show p1.toInt ≤ 40 by omega)⟩ (by unfold K9; omega)
          obtain ⟨a5_30, σ1_30⟩ := s_30
          obtain ⟨hn_30, hIσ1_30, hfσ1_30, b0a5_30, b1a5_30⟩ := hs_30
          dsimp only at hn_30 hIσ1_30 hfσ1_30 b0a5_30 b1a5_30
          unfold bX4_eliminate_65
          try dsimp only
          refine ok_ite.mpr ⟨fun h_127 => ?_, fun h_127 => ?_⟩
          · have f128 : 0 ≤ (σ1_30.1 96 4).toInt ∧ (σ1_30.1 96 4).toInt ≤ 38 := hIσ1_30 96 4
            have g129 : (σ1_30.1 96 4).toInt < a5_30.toInt := Int32.lt_iff_toInt_lt.mp h_127
            refine ok_nm2 (fun x12_31 ex12_31 => ?_)
            have f130 : (0 : Int32).toInt = 0 := by decide
            have qx12_31 : x12_31.toInt = 0 := by rw [ex12_31]; decide
            refine ok_lpc (I := fun n s => n = (38 + 1 - s.1.toInt).toNat ∧ JC s.2 ∧ Fr fr_fX4_eliminate σ s.2 ∧ 0 ≤ s.1.toInt ∧ s.1.toInt ≤ 38) (fun rec107_32r n_32 s_32 hs_32 hrec_32 => ?_) K9 ((38 + 1 - x12_31.toInt).toNat) (x12_31, σ1_30) ⟨rfl, hIσ1_30, hfσ1_30, (show 0 ≤ x12_31.toInt by omega), (show x12_31.toInt ≤ 38 by omega)⟩ (by unfold K9; omega)
            obtain ⟨a5_32, σ1_32⟩ := s_32
            obtain ⟨hn_32, hIσ1_32, hfσ1_32, b0a5_32, b1a5_32⟩ := hs_32
            dsimp only at hn_32 hIσ1_32 hfσ1_32 b0a5_32 b1a5_32
            unfold bX4_eliminate_107
            try dsimp only
            refine ok_ite.mpr ⟨fun h_131 => ?_, fun h_131 => ?_⟩
            · have f132 : 0 ≤ (σ1_32.1 96 4).toInt ∧ (σ1_32.1 96 4).toInt ≤ 38 := hIσ1_32 96 4
              have g133 : (σ1_32.1 96 4).toInt ≤ a5_32.toInt := Int32.le_iff_toInt_le.mp h_131
              refine ok_some.mpr ?_
              have f134 : (1 : Int32).toInt = 1 := by decide
              exact ⟨hIσ1_32, hfσ1_32, (show 0 ≤ (1 : Int32).toInt by omega), (show (1 : Int32).toInt ≤ 1 by omega)⟩
            · have f135 : 0 ≤ (σ1_32.1 96 4).toInt ∧ (σ1_32.1 96 4).toInt ≤ 38 := hIσ1_32 96 4
              have g136 : ¬ (σ1_32.1 96 4).toInt ≤ a5_32.toInt := fun z => h_131 (Int32.le_iff_toInt_le.mpr z)
              refine ok_ite.mpr ⟨fun h_137 => ?_, fun h_137 => ?_⟩
              · have g138 : a5_32.toInt = p1.toInt := by rw [h_137]
                refine ok_nm2 (fun x15_33 ex15_33 => ?_)
                have f139 : (1 : Int32).toInt = 1 := by decide
                have f140 : (a5_32 + (1 : Int32)).toInt = a5_32.toInt + (1 : Int32).toInt := iadd_toInt (by omega) (by omega)
                have qx15_33 : x15_33.toInt = (a5_32 + 1).toInt := congrArg Int32.toInt ex15_33
                exact hrec_32 _ (x15_33, σ1_32) (show (38 + 1 - x15_33.toInt).toNat < n_32 by omega) ⟨rfl, hIσ1_32, hfσ1_32, (show 0 ≤ x15_33.toInt by omega), (show x15_33.toInt ≤ 38 by omega)⟩
              · have g141 : a5_32.toInt ≠ p1.toInt := fun z => h_137 (Int32.toInt_inj.mp z)
                refine ok_gd.mpr ⟨gb_of (by omega) (by omega), ?_⟩
                refine ok_gd.mpr ⟨gb_of (by omega) (by omega), ?_⟩
                refine ok_nm2 (fun v17_33 ev17_33 => ?_)
                refine ok_ite.mpr ⟨fun h_142 => ?_, fun h_142 => ?_⟩
                · have g143 : v17_33.toInt = (0 : Int64).toInt := by rw [h_142]
                  refine ok_nm2 (fun x19_33 ex19_33 => ?_)
                  have f144 : (1 : Int32).toInt = 1 := by decide
                  have f145 : (a5_32 + (1 : Int32)).toInt = a5_32.toInt + (1 : Int32).toInt := iadd_toInt (by omega) (by omega)
                  have qx19_33 : x19_33.toInt = (a5_32 + 1).toInt := congrArg Int32.toInt ex19_33
                  exact hrec_32 _ (x19_33, σ1_32) (show (38 + 1 - x19_33.toInt).toNat < n_32 by omega) ⟨rfl, hIσ1_32, hfσ1_32, (show 0 ≤ x19_33.toInt by omega), (show x19_33.toInt ≤ 38 by omega)⟩
                · have g146 : v17_33.toInt ≠ (0 : Int64).toInt := fun z => h_142 (Int64.toInt_inj.mp z)
                  refine ok_bd.mpr ((o_fX4_subtractLine hIσ1_32 (p1 := a5_32) (p2 := p1) (by omega) (by omega) (by omega) (by omega)).mono (fun σ21_33 ho_148 => ?_))
                  obtain ⟨hIσ21_33, hcσ21_33⟩ := ho_148
                  have hfσ21_33 : Fr fr_fX4_eliminate σ σ21_33 := Fr_c hfσ1_32 hcσ21_33 (by decide)
                  have sσ21_33_96_4 : (σ21_33.1 96 4).toInt = (σ1_32.1 96 4).toInt := by rw [(hcσ21_33 96 4 (by decide) (by decide)).1]
                  refine ok_nm2 (fun x22_33 ex22_33 => ?_)
                  have f149 : (1 : Int32).toInt = 1 := by decide
                  have f150 : (a5_32 + (1 : Int32)).toInt = a5_32.toInt + (1 : Int32).toInt := iadd_toInt (by omega) (by omega)
                  have qx22_33 : x22_33.toInt = (a5_32 + 1).toInt := congrArg Int32.toInt ex22_33
                  exact hrec_32 _ (x22_33, σ21_33) (show (38 + 1 - x22_33.toInt).toNat < n_32 by omega) ⟨rfl, hIσ21_33, hfσ21_33, (show 0 ≤ x22_33.toInt by omega), (show x22_33.toInt ≤ 38 by omega)⟩
          · have f151 : 0 ≤ (σ1_30.1 96 4).toInt ∧ (σ1_30.1 96 4).toInt ≤ 38 := hIσ1_30 96 4
            have g152 : ¬ (σ1_30.1 96 4).toInt < a5_30.toInt := fun z => h_127 (Int32.lt_iff_toInt_lt.mpr z)
            refine ok_gd.mpr ⟨gb_of (by omega) (by omega), ?_⟩
            refine ok_gd.mpr ⟨gb_of (by omega) (by omega), ?_⟩
            refine ok_gd.mpr ⟨gb_of (by omega) (by omega), ?_⟩
            refine ok_nm2 (fun v25_31 ev25_31 => ?_)
            refine ok_gd.mpr ⟨gb_of (by omega) (by omega), ?_⟩
            refine ok_nm2 (fun σ26_31 eσ26_31 => ?_)
            have hIσ26_31 : JC σ26_31 := by rw [eσ26_31]; exact JC_l hIσ1_30
            have f153 : p1.toNatClampNeg = p1.toInt.toNat := rfl
            have hfσ26_31 : Fr fr_fX4_eliminate σ σ26_31 := by
              have hj : (99 + p1.toNatClampNeg) = 99 ∨ (99 + p1.toNatClampNeg) = 100 ∨ (99 + p1.toNatClampNeg) = 101 ∨ (99 + p1.toNatClampNeg) = 102 ∨ (99 + p1.toNatClampNeg) = 103 ∨ (99 + p1.toNatClampNeg) = 104 ∨ (99 + p1.toNatClampNeg) = 105 ∨ (99 + p1.toNatClampNeg) = 106 ∨ (99 + p1.toNatClampNeg) = 107 ∨ (99 + p1.toNatClampNeg) = 108 ∨ (99 + p1.toNatClampNeg) = 109 ∨ (99 + p1.toNatClampNeg) = 110 ∨ (99 + p1.toNatClampNeg) = 111 ∨ (99 + p1.toNatClampNeg) = 112 ∨ (99 + p1.toNatClampNeg) = 113 ∨ (99 + p1.toNatClampNeg) = 114 ∨ (99 + p1.toNatClampNeg) = 115 ∨ (99 + p1.toNatClampNeg) = 116 ∨ (99 + p1.toNatClampNeg) = 117 ∨ (99 + p1.toNatClampNeg) = 118 ∨ (99 + p1.toNatClampNeg) = 119 ∨ (99 + p1.toNatClampNeg) = 120 ∨ (99 + p1.toNatClampNeg) = 121 ∨ (99 + p1.toNatClampNeg) = 122 ∨ (99 + p1.toNatClampNeg) = 123 ∨ (99 + p1.toNatClampNeg) = 124 ∨ (99 + p1.toNatClampNeg) = 125 ∨ (99 + p1.toNatClampNeg) = 126 ∨ (99 + p1.toNatClampNeg) = 127 ∨ (99 + p1.toNatClampNeg) = 128 ∨ (99 + p1.toNatClampNeg) = 129 ∨ (99 + p1.toNatClampNeg) = 130 ∨ (99 + p1.toNatClampNeg) = 131 ∨ (99 + p1.toNatClampNeg) = 132 ∨ (99 + p1.toNatClampNeg) = 133 ∨ (99 + p1.toNatClampNeg) = 134 ∨ (99 + p1.toNatClampNeg) = 135 ∨ (99 + p1.toNatClampNeg) = 136 := by omega
              rw [eσ26_31]; exact Fr_l0 hfσ1_30 (by rcases hj with hj | hj | hj | hj | hj | hj | hj | hj | hj | hj | hj | hj | hj | hj | hj | hj | hj | hj | hj | hj | hj | hj | hj | hj | hj | hj | hj | hj | hj | hj | hj | hj | hj | hj | hj | hj | hj | hj <;> rw [hj] <;> decide)
            have sσ26_31_96_4 : (σ26_31.1 96 4).toInt = (σ1_30.1 96 4).toInt := by rw [eσ26_31]; rfl
            refine ok_nm2 (fun x27_31 ex27_31 => ?_)
            have f154 : (1 : Int32).toInt = 1 := by decide
            have f155 : (a5_30 + (1 : Int32)).toInt = a5_30.toInt + (1 : Int32).toInt := iadd_toInt (by omega) (by omega)
            have qx27_31 : x27_31.toInt = (a5_30 + 1).toInt := congrArg Int32.toInt ex27_31
            exact hrec_30 _ (x27_31, σ26_31) (show (40 + 1 - x27_31.toInt).toNat < n_30 by omega) ⟨rfl, hIσ26_31, hfσ26_31, (show 0 ≤ x27_31.toInt by omega), (show x27_31.toInt ≤ 40 by omega)⟩
      · have g156 : ¬ a2_2.toInt < (σ.1 96 4).toInt := fun z => h_87 (Int32.lt_iff_toInt_lt.mpr z)
        refine ok_some.mpr ?_
        have f157 : (0 : Int32).toInt = 0 := by decide
        exact ⟨hIσ, hfσ, (show 0 ≤ (0 : Int32).toInt by omega), (show (0 : Int32).toInt ≤ 1 by omega)⟩
