/-! comes through, c 9 -/
set_option maxRecDepth 20000 in
set_option maxHeartbeats 2000000 in
theorem o_fX5_takeFrom_59_47 {σ : gS} (hIσ : JC σ)   : Ok (fX5_takeFrom_59_47 σ ) (fun out => JC out ∧ Fr fr_fX5_takeFrom_59_47 σ out) := by
  unfold fX5_takeFrom_59_47
  have hfσ : Fr fr_fX5_takeFrom_59_47 σ σ := Fr_r
  refine ok_nm2 (fun σ1 eσ1 => ?_)
  have hIσ1 : JC σ1 := by rw [eσ1]; exact JC_w hIσ (Int32.le_toInt _) (Int32.toInt_le _)
  have hfσ1 : Fr fr_fX5_takeFrom_59_47 σ σ1 := by rw [eσ1]; exact Fr_w hfσ (by decide)
  have sσ1_47_1 : (σ1.1 47 1).toInt = (σ.1 47 1).toInt := by rw [eσ1]; rfl
  refine ok_bd.mpr ((o_copy (a := 48) (b := 60) hIσ1 (by decide) (fun i => ⟨Int.le_refl _, Int.le_refl _⟩)).mono (fun σ3 ho_1 => ?_))
  obtain ⟨hIσ3, hcσ3, hvσ3⟩ := ho_1
  have hfσ3 : Fr fr_fX5_takeFrom_59_47 σ σ3 := Fr_c hfσ1 hcσ3 (by decide)
  have sσ3_47_1 : (σ3.1 47 1).toInt = (σ1.1 47 1).toInt := by rw [(hcσ3 47 1 (by simp) (by simp)).1]
  refine ok_bd.mpr ((o_copy (a := 58) (b := 70) hIσ3 (by decide) (fun i => ⟨Int.le_refl _, Int.le_refl _⟩)).mono (fun σ5 ho_2 => ?_))
  obtain ⟨hIσ5, hcσ5, hvσ5⟩ := ho_2
  have hfσ5 : Fr fr_fX5_takeFrom_59_47 σ σ5 := Fr_c hfσ3 hcσ5 (by decide)
  have sσ5_47_1 : (σ5.1 47 1).toInt = (σ3.1 47 1).toInt := by rw [(hcσ5 47 1 (by simp) (by simp)).1]
  refine ok_nm2 (fun x6 ex6 => ?_)
  have f3 : (0 : Int32).toInt = 0 := by decide
  have qx6 : x6.toInt = 0 := by rw [ex6]; decide
  refine ok_lpc (I := fun n s => n = (3 + 1 - s.1.toInt).toNat ∧ JC s.2 ∧ Fr fr_fX5_takeFrom_59_47 σ s.2 ∧ 0 ≤ s.1.toInt ∧ s.1.toInt ≤ 3) (fun rec32_1r n_1 s_1 hs_1 hrec_1 => ?_) K9 ((3 + 1 - x6.toInt).toNat) (x6, σ5) ⟨rfl, hIσ5, hfσ5, (show 0 ≤ x6.toInt by omega), (show x6.toInt ≤ 3 by omega)⟩ (by unfold K9; omega)
  obtain ⟨a2_1, σ1_1⟩ := s_1
  obtain ⟨hn_1, hIσ1_1, hfσ1_1, b0a2_1, b1a2_1⟩ := hs_1
  dsimp only at hn_1 hIσ1_1 hfσ1_1 b0a2_1 b1a2_1
  unfold bX5_takeFrom_59_47_32
  try dsimp only
  refine ok_ite.mpr ⟨fun h_4 => ?_, fun h_4 => ?_⟩
  · have f5 : (2 : Int32).toInt = 2 := by decide
    have g6 : (2 : Int32).toInt ≤ a2_1.toInt := Int32.le_iff_toInt_le.mp h_4
    refine ok_some.mpr ?_
    exact ⟨hIσ1_1, hfσ1_1⟩
  · have f7 : (2 : Int32).toInt = 2 := by decide
    have g8 : ¬ (2 : Int32).toInt ≤ a2_1.toInt := fun z => h_4 (Int32.le_iff_toInt_le.mpr z)
    refine ok_gd.mpr ⟨gb_of (by omega) (by omega), ?_⟩
    refine ok_gd.mpr ⟨gb_of (by omega) (by omega), ?_⟩
    have f9 : a2_1.toNatClampNeg = a2_1.toInt.toNat := rfl
    refine ok_bd.mpr ((o_copy (a := (50 + a2_1.toNatClampNeg)) (b := (62 + a2_1.toNatClampNeg)) hIσ1_1 (by (have hj : ((50 + a2_1.toNatClampNeg) = 50 ∧ (62 + a2_1.toNatClampNeg) = 62) ∨ ((50 + a2_1.toNatClampNeg) = 51 ∧ (62 + a2_1.toNatClampNeg) = 63) := by omega); rcases hj with ⟨hj, hk⟩ | ⟨hj, hk⟩ <;> rw [hj, hk] <;> decide) (fun i => by (have hj : ((50 + a2_1.toNatClampNeg) = 50 ∧ (62 + a2_1.toNatClampNeg) = 62) ∨ ((50 + a2_1.toNatClampNeg) = 51 ∧ (62 + a2_1.toNatClampNeg) = 63) := by omega); rcases hj with ⟨hj, hk⟩ | ⟨hj, hk⟩ <;> rw [hj, hk] <;> exact ⟨Int.le_refl _, Int.le_refl _⟩)).mono (fun σ11_2 ho_10 => ?_))
    obtain ⟨hIσ11_2, hcσ11_2, hvσ11_2⟩ := ho_10
    have hfσ11_2 : Fr fr_fX5_takeFrom_59_47 σ σ11_2 := by
      have hj : (62 + a2_1.toNatClampNeg) = 62 ∨ (62 + a2_1.toNatClampNeg) = 63 := by omega
      exact Fr_c hfσ1_1 hcσ11_2 (by rcases hj with hj | hj <;> rw [hj] <;> decide)
    have sσ11_2_47_1 : (σ11_2.1 47 1).toInt = (σ1_1.1 47 1).toInt := by rw [(hcσ11_2 47 1 (by simp <;> omega) (by simp)).1]
    refine ok_gd.mpr ⟨gb_of (by omega) (by omega), ?_⟩
    refine ok_gd.mpr ⟨gb_of (by omega) (by omega), ?_⟩
    refine ok_bd.mpr ((o_copy (a := (53 + a2_1.toNatClampNeg)) (b := (65 + a2_1.toNatClampNeg)) hIσ11_2 (by (have hj : ((53 + a2_1.toNatClampNeg) = 53 ∧ (65 + a2_1.toNatClampNeg) = 65) ∨ ((53 + a2_1.toNatClampNeg) = 54 ∧ (65 + a2_1.toNatClampNeg) = 66) := by omega); rcases hj with ⟨hj, hk⟩ | ⟨hj, hk⟩ <;> rw [hj, hk] <;> decide) (fun i => by (have hj : ((53 + a2_1.toNatClampNeg) = 53 ∧ (65 + a2_1.toNatClampNeg) = 65) ∨ ((53 + a2_1.toNatClampNeg) = 54 ∧ (65 + a2_1.toNatClampNeg) = 66) := by omega); rcases hj with ⟨hj, hk⟩ | ⟨hj, hk⟩ <;> rw [hj, hk] <;> exact ⟨Int.le_refl _, Int.le_refl _⟩)).mono (fun σ15_2 ho_11 => ?_))
    obtain ⟨hIσ15_2, hcσ15_2, hvσ15_2⟩ := ho_11
    have hfσ15_2 : Fr fr_fX5_takeFrom_59_47 σ σ15_2 := by
      have hj : (65 + a2_1.toNatClampNeg) = 65 ∨ (65 + a2_1.toNatClampNeg) = 66 := by omega
      exact Fr_c hfσ11_2 hcσ15_2 (by rcases hj with hj | hj <;> rw [hj] <;> decide)
    have sσ15_2_47_1 : (σ15_2.1 47 1).toInt = (σ11_2.1 47 1).toInt := by rw [(hcσ15_2 47 1 (by simp <;> omega) (by simp)).1]
    refine ok_gd.mpr ⟨gb_of (by omega) (by omega), ?_⟩
    refine ok_gd.mpr ⟨gb_of (by omega) (by omega), ?_⟩
    refine ok_bd.mpr ((o_copy (a := (56 + a2_1.toNatClampNeg)) (b := (68 + a2_1.toNatClampNeg)) hIσ15_2 (by (have hj : ((56 + a2_1.toNatClampNeg) = 56 ∧ (68 + a2_1.toNatClampNeg) = 68) ∨ ((56 + a2_1.toNatClampNeg) = 57 ∧ (68 + a2_1.toNatClampNeg) = 69) := by omega); rcases hj with ⟨hj, hk⟩ | ⟨hj, hk⟩ <;> rw [hj, hk] <;> decide) (fun i => by (have hj : ((56 + a2_1.toNatClampNeg) = 56 ∧ (68 + a2_1.toNatClampNeg) = 68) ∨ ((56 + a2_1.toNatClampNeg) = 57 ∧ (68 + a2_1.toNatClampNeg) = 69) := by omega); rcases hj with ⟨hj, hk⟩ | ⟨hj, hk⟩ <;> rw [hj, hk] <;> exact ⟨Int.le_refl _, Int.le_refl _⟩)).mono (fun σ19_2 ho_12 => ?_))
    obtain ⟨hIσ19_2, hcσ19_2, hvσ19_2⟩ := ho_12
    have hfσ19_2 : Fr fr_fX5_takeFrom_59_47 σ σ19_2 := by
      have hj : (68 + a2_1.toNatClampNeg) = 68 ∨ (68 + a2_1.toNatClampNeg) = 69 := by omega
      exact Fr_c hfσ15_2 hcσ19_2 (by rcases hj with hj | hj <;> rw [hj] <;> decide)
    have sσ19_2_47_1 : (σ19_2.1 47 1).toInt = (σ15_2.1 47 1).toInt := by rw [(hcσ19_2 47 1 (by simp <;> omega) (by simp)).1]
    refine ok_nm2 (fun x20_2 ex20_2 => ?_)
    have f13 : (1 : Int32).toInt = 1 := by decide
    have f14 : (a2_1 + (1 : Int32)).toInt = a2_1.toInt + (1 : Int32).toInt := iadd_toInt (by omega) (by omega)
    have qx20_2 : x20_2.toInt = (a2_1 + 1).toInt := congrArg Int32.toInt ex20_2
    exact hrec_1 _ (x20_2, σ19_2) (show (3 + 1 - x20_2.toInt).toNat < n_1 by omega) ⟨rfl, hIσ19_2, hfσ19_2, (show 0 ≤ x20_2.toInt by omega), (show x20_2.toInt ≤ 3 by omega)⟩
set_option maxRecDepth 20000 in
set_option maxHeartbeats 2000000 in
theorem o_fX9_placeBySet {σ : gS} (hIσ : JC σ) {p1 : Int32} {p2 : Int32} {p3 : Int32} (h0p2 : 0 ≤ p2.toInt) (h1p2 : p2.toInt ≤ 11) (h0p3 : 0 ≤ p3.toInt) (h1p3 : p3.toInt ≤ 1) : Ok (fX9_placeBySet σ p1 p2 p3) (fun out => JC out.2 ∧ Fr fr_fX9_placeBySet σ out.2) := by
  unfold fX9_placeBySet
  have hfσ : Fr fr_fX9_placeBySet σ σ := Fr_r
  refine ok_nm2 (fun σ1 eσ1 => ?_)
  have hIσ1 : JC σ1 := by rw [eσ1]; exact JC_w hIσ (Int32.le_toInt _) (Int32.toInt_le _)
  have hfσ1 : Fr fr_fX9_placeBySet σ σ1 := by rw [eσ1]; exact Fr_w hfσ (by decide)
  refine ok_bd2.mpr ((o_fX6_begin hIσ1  ).mono (fun o_1 ho_2 => ?_))
  obtain ⟨r3, σ4⟩ := o_1
  obtain ⟨hIσ4, hcσ4⟩ := ho_2
  dsimp only at hIσ4 hcσ4 ⊢
  have hfσ4 : Fr fr_fX9_placeBySet σ σ4 := Fr_c hfσ1 hcσ4 (by decide)
  have f3 : (200 : Int32).toInt = 200 := by decide
  refine ok_bd2.mpr ((o_fX1_settle hIσ4 (p1 := (200 : Int32)) (by omega) (by omega)).mono (fun o_4 ho_5 => ?_))
  obtain ⟨r6, σ7⟩ := o_4
  obtain ⟨hIσ7, hcσ7, r0r6, r1r6⟩ := ho_5
  dsimp only at hIσ7 hcσ7 r0r6 r1r6 ⊢
  have hfσ7 : Fr fr_fX9_placeBySet σ σ7 := Fr_c hfσ4 hcσ7 (by decide)
  refine ok_gd.mpr ⟨gb_of (by omega) (by omega), ?_⟩
  refine ok_gd.mpr ⟨gb_of (by omega) (by omega), ?_⟩
  refine ok_nm2 (fun v9 ev9 => ?_)
  have qv9 : v9.toInt = (σ7.1 (50 + p3.toNatClampNeg) p2.toNatClampNeg).toInt := congrArg Int32.toInt ev9
  refine ok_some.mpr ?_
  exact ⟨hIσ7, hfσ7⟩
set_option maxRecDepth 20000 in
set_option maxHeartbeats 2000000 in
theorem o_fX5_takeFrom_47_59 {σ : gS} (hIσ : JC σ)   : Ok (fX5_takeFrom_47_59 σ ) (fun out => JC out ∧ Fr fr_fX5_takeFrom_47_59 σ out) := by
  unfold fX5_takeFrom_47_59
  have hfσ : Fr fr_fX5_takeFrom_47_59 σ σ := Fr_r
  refine ok_nm2 (fun σ1 eσ1 => ?_)
  have hIσ1 : JC σ1 := by rw [eσ1]; exact JC_w hIσ (Int32.le_toInt _) (Int32.toInt_le _)
  have hfσ1 : Fr fr_fX5_takeFrom_47_59 σ σ1 := by rw [eσ1]; exact Fr_w hfσ (by decide)
  have sσ1_59_1 : (σ1.1 59 1).toInt = (σ.1 59 1).toInt := by rw [eσ1]; rfl
  refine ok_bd.mpr ((o_copy (a := 60) (b := 48) hIσ1 (by decide) (fun i => ⟨Int.le_refl _, Int.le_refl _⟩)).mono (fun σ3 ho_1 => ?_))
  obtain ⟨hIσ3, hcσ3, hvσ3⟩ := ho_1
  have hfσ3 : Fr fr_fX5_takeFrom_47_59 σ σ3 := Fr_c hfσ1 hcσ3 (by decide)
  have sσ3_59_1 : (σ3.1 59 1).toInt = (σ1.1 59 1).toInt := by rw [(hcσ3 59 1 (by simp) (by simp)).1]
  refine ok_bd.mpr ((o_copy (a := 70) (b := 58) hIσ3 (by decide) (fun i => ⟨Int.le_refl _, Int.le_refl _⟩)).mono (fun σ5 ho_2 => ?_))
  obtain ⟨hIσ5, hcσ5, hvσ5⟩ := ho_2
  have hfσ5 : Fr fr_fX5_takeFrom_47_59 σ σ5 := Fr_c hfσ3 hcσ5 (by decide)
  have sσ5_59_1 : (σ5.1 59 1).toInt = (σ3.1 59 1).toInt := by rw [(hcσ5 59 1 (by simp) (by simp)).1]
  refine ok_nm2 (fun x6 ex6 => ?_)
  have f3 : (0 : Int32).toInt = 0 := by decide
  have qx6 : x6.toInt = 0 := by rw [ex6]; decide
  refine ok_lpc (I := fun n s => n = (3 + 1 - s.1.toInt).toNat ∧ JC s.2 ∧ Fr fr_fX5_takeFrom_47_59 σ s.2 ∧ 0 ≤ s.1.toInt ∧ s.1.toInt ≤ 3) (fun rec32_1r n_1 s_1 hs_1 hrec_1 => ?_) K9 ((3 + 1 - x6.toInt).toNat) (x6, σ5) ⟨rfl, hIσ5, hfσ5, (show 0 ≤ x6.toInt by omega), (show x6.toInt ≤ 3 by omega)⟩ (by unfold K9; omega)
  obtain ⟨a2_1, σ1_1⟩ := s_1
  obtain ⟨hn_1, hIσ1_1, hfσ1_1, b0a2_1, b1a2_1⟩ := hs_1
  dsimp only at hn_1 hIσ1_1 hfσ1_1 b0a2_1 b1a2_1
  unfold bX5_takeFrom_47_59_32
  try dsimp only
  refine ok_ite.mpr ⟨fun h_4 => ?_, fun h_4 => ?_⟩
  · have f5 : (2 : Int32).toInt = 2 := by decide
    have g6 : (2 : Int32).toInt ≤ a2_1.toInt := Int32.le_iff_toInt_le.mp h_4
    refine ok_some.mpr ?_
    exact ⟨hIσ1_1, hfσ1_1⟩
  · have f7 : (2 : Int32).toInt = 2 := by decide
    have g8 : ¬ (2 : Int32).toInt ≤ a2_1.toInt := fun z => h_4 (Int32.le_iff_toInt_le.mpr z)
    refine ok_gd.mpr ⟨gb_of (by omega) (by omega), ?_⟩
    refine ok_gd.mpr ⟨gb_of (by omega) (by omega), ?_⟩
    have f9 : a2_1.toNatClampNeg = a2_1.toInt.toNat := rfl
    refine ok_bd.mpr ((o_copy (a := (62 + a2_1.toNatClampNeg)) (b := (50 + a2_1.toNatClampNeg)) hIσ1_1 (by (have hj : ((62 + a2_1.toNatClampNeg) = 62 ∧ (50 + a2_1.toNatClampNeg) = 50) ∨ ((62 + a2_1.toNatClampNeg) = 63 ∧ (50 + a2_1.toNatClampNeg) = 51) := by omega); rcases hj with ⟨hj, hk⟩ | ⟨hj, hk⟩ <;> rw [hj, hk] <;> decide) (fun i => by (have hj : ((62 + a2_1.toNatClampNeg) = 62 ∧ (50 + a2_1.toNatClampNeg) = 50) ∨ ((62 + a2_1.toNatClampNeg) = 63 ∧ (50 + a2_1.toNatClampNeg) = 51) := by omega); rcases hj with ⟨hj, hk⟩ | ⟨hj, hk⟩ <;> rw [hj, hk] <;> exact ⟨Int.le_refl _, Int.le_refl _⟩)).mono (fun σ11_2 ho_10 => ?_))
    obtain ⟨hIσ11_2, hcσ11_2, hvσ11_2⟩ := ho_10
    have hfσ11_2 : Fr fr_fX5_takeFrom_47_59 σ σ11_2 := by
      have hj : (50 + a2_1.toNatClampNeg) = 50 ∨ (50 + a2_1.toNatClampNeg) = 51 := by omega
      exact Fr_c hfσ1_1 hcσ11_2 (by rcases hj with hj | hj <;> rw [hj] <;> decide)
    have sσ11_2_59_1 : (σ11_2.1 59 1).toInt = (σ1_1.1 59 1).toInt := by rw [(hcσ11_2 59 1 (by simp <;> omega) (by simp)).1]
    refine ok_gd.mpr ⟨gb_of (by omega) (by omega), ?_⟩
    refine ok_gd.mpr ⟨gb_of (by omega) (by omega), ?_⟩
    refine ok_bd.mpr ((o_copy (a := (65 + a2_1.toNatClampNeg)) (b := (53 + a2_1.toNatClampNeg)) hIσ11_2 (by (have hj : ((65 + a2_1.toNatClampNeg) = 65 ∧ (53 + a2_1.toNatClampNeg) = 53) ∨ ((65 + a2_1.toNatClampNeg) = 66 ∧ (53 + a2_1.toNatClampNeg) = 54) := by omega); rcases hj with ⟨hj, hk⟩ | ⟨hj, hk⟩ <;> rw [hj, hk] <;> decide) (fun i => by (have hj : ((65 + a2_1.toNatClampNeg) = 65 ∧ (53 + a2_1.toNatClampNeg) = 53) ∨ ((65 + a2_1.toNatClampNeg) = 66 ∧ (53 + a2_1.toNatClampNeg) = 54) := by omega); rcases hj with ⟨hj, hk⟩ | ⟨hj, hk⟩ <;> rw [hj, hk] <;> exact ⟨Int.le_refl _, Int.le_refl _⟩)).mono (fun σ15_2 ho_11 => ?_))
    obtain ⟨hIσ15_2, hcσ15_2, hvσ15_2⟩ := ho_11
    have hfσ15_2 : Fr fr_fX5_takeFrom_47_59 σ σ15_2 := by
      have hj : (53 + a2_1.toNatClampNeg) = 53 ∨ (53 + a2_1.toNatClampNeg) = 54 := by omega
      exact Fr_c hfσ11_2 hcσ15_2 (by rcases hj with hj | hj <;> rw [hj] <;> decide)
    have sσ15_2_59_1 : (σ15_2.1 59 1).toInt = (σ11_2.1 59 1).toInt := by rw [(hcσ15_2 59 1 (by simp <;> omega) (by simp)).1]
    refine ok_gd.mpr ⟨gb_of (by omega) (by omega), ?_⟩
    refine ok_gd.mpr ⟨gb_of (by omega) (by omega), ?_⟩
    refine ok_bd.mpr ((o_copy (a := (68 + a2_1.toNatClampNeg)) (b := (56 + a2_1.toNatClampNeg)) hIσ15_2 (by (have hj : ((68 + a2_1.toNatClampNeg) = 68 ∧ (56 + a2_1.toNatClampNeg) = 56) ∨ ((68 + a2_1.toNatClampNeg) = 69 ∧ (56 + a2_1.toNatClampNeg) = 57) := by omega); rcases hj with ⟨hj, hk⟩ | ⟨hj, hk⟩ <;> rw [hj, hk] <;> decide) (fun i => by (have hj : ((68 + a2_1.toNatClampNeg) = 68 ∧ (56 + a2_1.toNatClampNeg) = 56) ∨ ((68 + a2_1.toNatClampNeg) = 69 ∧ (56 + a2_1.toNatClampNeg) = 57) := by omega); rcases hj with ⟨hj, hk⟩ | ⟨hj, hk⟩ <;> rw [hj, hk] <;> exact ⟨Int.le_refl _, Int.le_refl _⟩)).mono (fun σ19_2 ho_12 => ?_))
    obtain ⟨hIσ19_2, hcσ19_2, hvσ19_2⟩ := ho_12
    have hfσ19_2 : Fr fr_fX5_takeFrom_47_59 σ σ19_2 := by
      have hj : (56 + a2_1.toNatClampNeg) = 56 ∨ (56 + a2_1.toNatClampNeg) = 57 := by omega
      exact Fr_c hfσ15_2 hcσ19_2 (by rcases hj with hj | hj <;> rw [hj] <;> decide)
    have sσ19_2_59_1 : (σ19_2.1 59 1).toInt = (σ15_2.1 59 1).toInt := by rw [(hcσ19_2 59 1 (by simp <;> omega) (by simp)).1]
    refine ok_nm2 (fun x20_2 ex20_2 => ?_)
    have f13 : (1 : Int32).toInt = 1 := by decide
    have f14 : (a2_1 + (1 : Int32)).toInt = a2_1.toInt + (1 : Int32).toInt := iadd_toInt (by omega) (by omega)
    have qx20_2 : x20_2.toInt = (a2_1 + 1).toInt := congrArg Int32.toInt ex20_2
    exact hrec_1 _ (x20_2, σ19_2) (show (3 + 1 - x20_2.toInt).toNat < n_1 by omega) ⟨rfl, hIσ19_2, hfσ19_2, (show 0 ≤ x20_2.toInt by omega), (show x20_2.toInt ≤ 3 by omega)⟩
set_option maxRecDepth 20000 in
set_option maxHeartbeats 2000000 in
theorem o_fX9_differ {σ : gS} (hIσ : JC σ) {p1 : Int32} {p2 : Int32}  : Ok (fX9_differ σ p1 p2) (fun out => JC out.2 ∧ Fr fr_fX9_differ σ out.2) := by
  unfold fX9_differ
  have hfσ : Fr fr_fX9_differ σ σ := Fr_r
  refine ok_bd.mpr ?_
  try unfold fX8_exists_2
  refine ok_ite.mpr ⟨fun h_1 => ?_, fun h_1 => ?_⟩
  · have f2 : (0 : Int32).toInt = 0 := by decide
    have g3 : p1.toInt < (0 : Int32).toInt := Int32.lt_iff_toInt_lt.mp h_1
    refine ok_some.mpr ?_
    refine ok_ite.mpr ⟨fun h_4 => ?_, fun h_4 => ?_⟩
    · have g5 : (0 : Int32).toInt = (0 : Int32).toInt := by rw [h_4]
      refine ok_some.mpr ?_
      have f6 : (-1000000000 : Int32).toInt = -1000000000 := by decide
      exact ⟨hIσ, hfσ⟩
    · have g7 : (0 : Int32).toInt ≠ (0 : Int32).toInt := fun z => h_4 (Int32.toInt_inj.mp z)
      exfalso
      omega
  · have f8 : (0 : Int32).toInt = 0 := by decide
    have g9 : ¬ p1.toInt < (0 : Int32).toInt := fun z => h_1 (Int32.lt_iff_toInt_lt.mpr z)
    have f10 : (1 : Int32).toInt = 1 := by decide
    refine ok_gd.mpr ⟨gb_of (by omega) (by omega), ?_⟩
    refine ok_nm2 (fun v2_1 ev2_1 => ?_)
    have f12 : (1 : Int32).toNatClampNeg = (1 : Int32).toInt.toNat := rfl
    have f12_ : ((1 : Int32).toNatClampNeg = 1 ∧ 0 ≤ (σ.1 3 (1 : Int32).toNatClampNeg).toInt ∧ (σ.1 3 (1 : Int32).toNatClampNeg).toInt ≤ 12) := by
      have hb := hIσ 3 (1 : Int32).toNatClampNeg
      have hj : (1 : Int32).toNatClampNeg = 1 := by omega
      generalize (1 : Int32).toNatClampNeg = j at hb hj ⊢
      obtain rfl := hj
      exact ⟨rfl, hb.1, hb.2⟩
    have qv2_1 : v2_1.toInt = (σ.1 3 (1 : Int32).toNatClampNeg).toInt := congrArg Int32.toInt ev2_1
    refine ok_ite.mpr ⟨fun h_13 => ?_, fun h_13 => ?_⟩
    · have g14 : v2_1.toInt ≤ p1.toInt := Int32.le_iff_toInt_le.mp h_13
      refine ok_some.mpr ?_
      refine ok_ite.mpr ⟨fun h_15 => ?_, fun h_15 => ?_⟩
      · have g16 : (0 : Int32).toInt = (0 : Int32).toInt := by rw [h_15]
        refine ok_some.mpr ?_
        have f17 : (-1000000000 : Int32).toInt = -1000000000 := by decide
        exact ⟨hIσ, hfσ⟩
      · have g18 : (0 : Int32).toInt ≠ (0 : Int32).toInt := fun z => h_15 (Int32.toInt_inj.mp z)
        exfalso
        omega
    · have g19 : ¬ v2_1.toInt ≤ p1.toInt := fun z => h_13 (Int32.le_iff_toInt_le.mpr z)
      refine ok_some.mpr ?_
      refine ok_ite.mpr ⟨fun h_20 => ?_, fun h_20 => ?_⟩
      · have g21 : (1 : Int32).toInt = (0 : Int32).toInt := by rw [h_20]
        exfalso
        omega
      · have g22 : (1 : Int32).toInt ≠ (0 : Int32).toInt := fun z => h_20 (Int32.toInt_inj.mp z)
        refine ok_bd.mpr ?_
        try unfold fX9_isAxis
        refine ok_ite.mpr ⟨fun h_23 => ?_, fun h_23 => ?_⟩
        · have g24 : p2.toInt = (0 : Int32).toInt := by rw [h_23]
          refine ok_some.mpr ?_
          refine ok_ite.mpr ⟨fun h_25 => ?_, fun h_25 => ?_⟩
          · have g26 : (1 : Int32).toInt = (0 : Int32).toInt := by rw [h_25]
            exfalso
            omega
          · have g27 : (1 : Int32).toInt ≠ (0 : Int32).toInt := fun z => h_25 (Int32.toInt_inj.mp z)
            refine ok_bd.mpr ((o_fX5_takeFrom_59_47 hIσ  ).mono (fun σ8_4_6 ho_29 => ?_))
            obtain ⟨hIσ8_4_6, hcσ8_4_6⟩ := ho_29
            have hfσ8_4_6 : Fr fr_fX9_differ σ σ8_4_6 := Fr_c hfσ hcσ8_4_6 (by decide)
            refine ok_bd2.mpr ((o_fX9_placeBySet hIσ8_4_6 (p1 := (1 : Int32)) (p2 := p1) (p3 := p2) (by omega) (by omega) (by omega) (by omega)).mono (fun o_30 ho_31 => ?_))
            obtain ⟨r10_4_6, σ11_4_6⟩ := o_30
            obtain ⟨hIσ11_4_6, hcσ11_4_6⟩ := ho_31
            dsimp only at hIσ11_4_6 hcσ11_4_6 ⊢
            have hfσ11_4_6 : Fr fr_fX9_differ σ σ11_4_6 := Fr_c hfσ8_4_6 hcσ11_4_6 (by decide)
            refine ok_nm.mpr ?_
            have f32 : (2 : Int32).toInt = 2 := by decide
            refine ok_bd2.mpr ((o_fX9_placeBySet hIσ11_4_6 (p1 := (2 : Int32)) (p2 := p1) (p3 := p2) (by omega) (by omega) (by omega) (by omega)).mono (fun o_33 ho_34 => ?_))
            obtain ⟨r14_4_6_7, σ15_4_6_7⟩ := o_33
            obtain ⟨hIσ15_4_6_7, hcσ15_4_6_7⟩ := ho_34
            dsimp only at hIσ15_4_6_7 hcσ15_4_6_7 ⊢
            have hfσ15_4_6_7 : Fr fr_fX9_differ σ σ15_4_6_7 := Fr_c hfσ11_4_6 hcσ15_4_6_7 (by decide)
            refine ok_nm.mpr ?_
            refine ok_bd.mpr ((o_fX5_takeFrom_47_59 hIσ15_4_6_7  ).mono (fun σ18_4_6_7_8 ho_36 => ?_))
            obtain ⟨hIσ18_4_6_7_8, hcσ18_4_6_7_8⟩ := ho_36
            have hfσ18_4_6_7_8 : Fr fr_fX9_differ σ σ18_4_6_7_8 := Fr_c hfσ15_4_6_7 hcσ18_4_6_7_8 (by decide)
            refine ok_some.mpr ?_
            exact ⟨hIσ18_4_6_7_8, hfσ18_4_6_7_8⟩
        · have g37 : p2.toInt ≠ (0 : Int32).toInt := fun z => h_23 (Int32.toInt_inj.mp z)
          refine ok_ite.mpr ⟨fun h_38 => ?_, fun h_38 => ?_⟩
          · have g39 : p2.toInt = (1 : Int32).toInt := by rw [h_38]
            refine ok_some.mpr ?_
            refine ok_ite.mpr ⟨fun h_40 => ?_, fun h_40 => ?_⟩
            · have g41 : (1 : Int32).toInt = (0 : Int32).toInt := by rw [h_40]
              exfalso
              omega
            · have g42 : (1 : Int32).toInt ≠ (0 : Int32).toInt := fun z => h_40 (Int32.toInt_inj.mp z)
              refine ok_bd.mpr ((o_fX5_takeFrom_59_47 hIσ  ).mono (fun σ8_4_9 ho_44 => ?_))
              obtain ⟨hIσ8_4_9, hcσ8_4_9⟩ := ho_44
              have hfσ8_4_9 : Fr fr_fX9_differ σ σ8_4_9 := Fr_c hfσ hcσ8_4_9 (by decide)
              refine ok_bd2.mpr ((o_fX9_placeBySet hIσ8_4_9 (p1 := (1 : Int32)) (p2 := p1) (p3 := p2) (by omega) (by omega) (by omega) (by omega)).mono (fun o_45 ho_46 => ?_))
              obtain ⟨r10_4_9, σ11_4_9⟩ := o_45
              obtain ⟨hIσ11_4_9, hcσ11_4_9⟩ := ho_46
              dsimp only at hIσ11_4_9 hcσ11_4_9 ⊢
              have hfσ11_4_9 : Fr fr_fX9_differ σ σ11_4_9 := Fr_c hfσ8_4_9 hcσ11_4_9 (by decide)
              refine ok_nm.mpr ?_
              have f47 : (2 : Int32).toInt = 2 := by decide
              refine ok_bd2.mpr ((o_fX9_placeBySet hIσ11_4_9 (p1 := (2 : Int32)) (p2 := p1) (p3 := p2) (by omega) (by omega) (by omega) (by omega)).mono (fun o_48 ho_49 => ?_))
              obtain ⟨r14_4_9_10, σ15_4_9_10⟩ := o_48
              obtain ⟨hIσ15_4_9_10, hcσ15_4_9_10⟩ := ho_49
              dsimp only at hIσ15_4_9_10 hcσ15_4_9_10 ⊢
              have hfσ15_4_9_10 : Fr fr_fX9_differ σ σ15_4_9_10 := Fr_c hfσ11_4_9 hcσ15_4_9_10 (by decide)
              refine ok_nm.mpr ?_
              refine ok_bd.mpr ((o_fX5_takeFrom_47_59 hIσ15_4_9_10  ).mono (fun σ18_4_9_10_11 ho_51 => ?_))
              obtain ⟨hIσ18_4_9_10_11, hcσ18_4_9_10_11⟩ := ho_51
              have hfσ18_4_9_10_11 : Fr fr_fX9_differ σ σ18_4_9_10_11 := Fr_c hfσ15_4_9_10 hcσ18_4_9_10_11 (by decide)
              refine ok_some.mpr ?_
              exact ⟨hIσ18_4_9_10_11, hfσ18_4_9_10_11⟩
          · have g52 : p2.toInt ≠ (1 : Int32).toInt := fun z => h_38 (Int32.toInt_inj.mp z)
            refine ok_some.mpr ?_
            refine ok_ite.mpr ⟨fun h_53 => ?_, fun h_53 => ?_⟩
            · have g54 : (0 : Int32).toInt = (0 : Int32).toInt := by rw [h_53]
              refine ok_some.mpr ?_
              have f55 : (-1000000000 : Int32).toInt = -1000000000 := by decide
              exact ⟨hIσ, hfσ⟩
            · have g56 : (0 : Int32).toInt ≠ (0 : Int32).toInt := fun z => h_53 (Int32.toInt_inj.mp z)
              exfalso
              omega
set_option maxRecDepth 20000 in
set_option maxHeartbeats 2000000 in
theorem o_fX9_canMeasure {σ : gS} (hIσ : JC σ) {p1 : Int32} {p2 : Int32} {p3 : Int32}  : Ok (fX9_canMeasure σ p1 p2 p3) (fun out => 0 ≤ out.toInt ∧ out.toInt ≤ 1 ∧ (out.toInt ≠ 0 → 0 ≤ p1.toInt ∧ p1.toInt ≤ 59)) := by
  unfold fX9_canMeasure
  refine ok_bd.mpr ?_
  try unfold fX8_exists_2
  refine ok_ite.mpr ⟨fun h_1 => ?_, fun h_1 => ?_⟩
  · have f2 : (0 : Int32).toInt = 0 := by decide
    have g3 : p1.toInt < (0 : Int32).toInt := Int32.lt_iff_toInt_lt.mp h_1
    refine ok_some.mpr ?_
    refine ok_ite.mpr ⟨fun h_4 => ?_, fun h_4 => ?_⟩
    · have g5 : (0 : Int32).toInt = (0 : Int32).toInt := by rw [h_4]
      refine ok_some.mpr ?_
      exact ⟨(show 0 ≤ (0 : Int32).toInt by omega), (show (0 : Int32).toInt ≤ 1 by omega), (show (0 : Int32).toInt ≠ 0 → 0 ≤ p1.toInt ∧ p1.toInt ≤ 59 by omega)⟩
    · have g6 : (0 : Int32).toInt ≠ (0 : Int32).toInt := fun z => h_4 (Int32.toInt_inj.mp z)
      exfalso
      omega
  · have f7 : (0 : Int32).toInt = 0 := by decide
    have g8 : ¬ p1.toInt < (0 : Int32).toInt := fun z => h_1 (Int32.lt_iff_toInt_lt.mpr z)
    have f9 : (3 : Int32).toInt = 3 := by decide
    refine ok_gd.mpr ⟨gb_of (by omega) (by omega), ?_⟩
    refine ok_nm2 (fun v2_1 ev2_1 => ?_)
    have f11 : (3 : Int32).toNatClampNeg = (3 : Int32).toInt.toNat := rfl
    have f11_ : ((3 : Int32).toNatClampNeg = 3 ∧ 0 ≤ (σ.1 3 (3 : Int32).toNatClampNeg).toInt ∧ (σ.1 3 (3 : Int32).toNatClampNeg).toInt ≤ 60) := by
      have hb := hIσ 3 (3 : Int32).toNatClampNeg
      have hj : (3 : Int32).toNatClampNeg = 3 := by omega
      generalize (3 : Int32).toNatClampNeg = j at hb hj ⊢
      obtain rfl := hj
      exact ⟨rfl, hb.1, hb.2⟩
    have qv2_1 : v2_1.toInt = (σ.1 3 (3 : Int32).toNatClampNeg).toInt := congrArg Int32.toInt ev2_1
    refine ok_ite.mpr ⟨fun h_12 => ?_, fun h_12 => ?_⟩
    · have g13 : v2_1.toInt ≤ p1.toInt := Int32.le_iff_toInt_le.mp h_12
      refine ok_some.mpr ?_
      refine ok_ite.mpr ⟨fun h_14 => ?_, fun h_14 => ?_⟩
      · have g15 : (0 : Int32).toInt = (0 : Int32).toInt := by rw [h_14]
        refine ok_some.mpr ?_
        exact ⟨(show 0 ≤ (0 : Int32).toInt by omega), (show (0 : Int32).toInt ≤ 1 by omega), (show (0 : Int32).toInt ≠ 0 → 0 ≤ p1.toInt ∧ p1.toInt ≤ 59 by omega)⟩
      · have g16 : (0 : Int32).toInt ≠ (0 : Int32).toInt := fun z => h_14 (Int32.toInt_inj.mp z)
        exfalso
        omega
    · have g17 : ¬ v2_1.toInt ≤ p1.toInt := fun z => h_12 (Int32.le_iff_toInt_le.mpr z)
      refine ok_some.mpr ?_
      refine ok_ite.mpr ⟨fun h_18 => ?_, fun h_18 => ?_⟩
      · have f19 : (1 : Int32).toInt = 1 := by decide
        have g20 : (1 : Int32).toInt = (0 : Int32).toInt := by rw [h_18]
        exfalso
        omega
      · have f21 : (1 : Int32).toInt = 1 := by decide
        have g22 : (1 : Int32).toInt ≠ (0 : Int32).toInt := fun z => h_18 (Int32.toInt_inj.mp z)
        refine ok_ite.mpr ⟨fun h_23 => ?_, fun h_23 => ?_⟩
        · have g24 : p2.toInt < (0 : Int32).toInt := Int32.lt_iff_toInt_lt.mp h_23
          refine ok_some.mpr ?_
          exact ⟨(show 0 ≤ (0 : Int32).toInt by omega), (show (0 : Int32).toInt ≤ 1 by omega), (show (0 : Int32).toInt ≠ 0 → 0 ≤ p1.toInt ∧ p1.toInt ≤ 59 by omega)⟩
        · have g25 : ¬ p2.toInt < (0 : Int32).toInt := fun z => h_23 (Int32.lt_iff_toInt_lt.mpr z)
          refine ok_ite.mpr ⟨fun h_26 => ?_, fun h_26 => ?_⟩
          · have f27 : (9999 : Int32).toInt = 9999 := by decide
            have g28 : (9999 : Int32).toInt < p2.toInt := Int32.lt_iff_toInt_lt.mp h_26
            refine ok_some.mpr ?_
            exact ⟨(show 0 ≤ (0 : Int32).toInt by omega), (show (0 : Int32).toInt ≤ 1 by omega), (show (0 : Int32).toInt ≠ 0 → 0 ≤ p1.toInt ∧ p1.toInt ≤ 59 by omega)⟩
          · have f29 : (9999 : Int32).toInt = 9999 := by decide
            have g30 : ¬ (9999 : Int32).toInt < p2.toInt := fun z => h_26 (Int32.lt_iff_toInt_lt.mpr z)
            refine ok_ite.mpr ⟨fun h_31 => ?_, fun h_31 => ?_⟩
            · have g32 : p3.toInt < (0 : Int32).toInt := Int32.lt_iff_toInt_lt.mp h_31
              refine ok_some.mpr ?_
              exact ⟨(show 0 ≤ (0 : Int32).toInt by omega), (show (0 : Int32).toInt ≤ 1 by omega), (show (0 : Int32).toInt ≠ 0 → 0 ≤ p1.toInt ∧ p1.toInt ≤ 59 by omega)⟩
            · have g33 : ¬ p3.toInt < (0 : Int32).toInt := fun z => h_31 (Int32.lt_iff_toInt_lt.mpr z)
              refine ok_ite.mpr ⟨fun h_34 => ?_, fun h_34 => ?_⟩
              · have g35 : (9999 : Int32).toInt < p3.toInt := Int32.lt_iff_toInt_lt.mp h_34
                refine ok_some.mpr ?_
                exact ⟨(show 0 ≤ (0 : Int32).toInt by omega), (show (0 : Int32).toInt ≤ 1 by omega), (show (0 : Int32).toInt ≠ 0 → 0 ≤ p1.toInt ∧ p1.toInt ≤ 59 by omega)⟩
              · have g36 : ¬ (9999 : Int32).toInt < p3.toInt := fun z => h_34 (Int32.lt_iff_toInt_lt.mpr z)
                refine ok_some.mpr ?_
                exact ⟨(show 0 ≤ (1 : Int32).toInt by omega), (show (1 : Int32).toInt ≤ 1 by omega), (show (1 : Int32).toInt ≠ 0 → 0 ≤ p1.toInt ∧ p1.toInt ≤ 59 by omega)⟩
set_option maxRecDepth 20000 in
set_option maxHeartbeats 2000000 in
theorem o_fX5_takeFrom_71_47 {σ : gS} (hIσ : JC σ)   : Ok (fX5_takeFrom_71_47 σ ) (fun out => JC out ∧ Fr fr_fX5_takeFrom_71_47 σ out) := by
  unfold fX5_takeFrom_71_47
  have hfσ : Fr fr_fX5_takeFrom_71_47 σ σ := Fr_r
  refine ok_nm2 (fun σ1 eσ1 => ?_)
  have hIσ1 : JC σ1 := by rw [eσ1]; exact JC_w hIσ (Int32.le_toInt _) (Int32.toInt_le _)
  have hfσ1 : Fr fr_fX5_takeFrom_71_47 σ σ1 := by rw [eσ1]; exact Fr_w hfσ (by decide)
  have sσ1_47_1 : (σ1.1 47 1).toInt = (σ.1 47 1).toInt := by rw [eσ1]; rfl
  refine ok_bd.mpr ((o_copy (a := 48) (b := 72) hIσ1 (by decide) (fun i => ⟨Int.le_refl _, Int.le_refl _⟩)).mono (fun σ3 ho_1 => ?_))
  obtain ⟨hIσ3, hcσ3, hvσ3⟩ := ho_1
  have hfσ3 : Fr fr_fX5_takeFrom_71_47 σ σ3 := Fr_c hfσ1 hcσ3 (by decide)
  have sσ3_47_1 : (σ3.1 47 1).toInt = (σ1.1 47 1).toInt := by rw [(hcσ3 47 1 (by simp) (by simp)).1]
  refine ok_bd.mpr ((o_copy (a := 58) (b := 82) hIσ3 (by decide) (fun i => ⟨Int.le_refl _, Int.le_refl _⟩)).mono (fun σ5 ho_2 => ?_))
  obtain ⟨hIσ5, hcσ5, hvσ5⟩ := ho_2
  have hfσ5 : Fr fr_fX5_takeFrom_71_47 σ σ5 := Fr_c hfσ3 hcσ5 (by decide)
  have sσ5_47_1 : (σ5.1 47 1).toInt = (σ3.1 47 1).toInt := by rw [(hcσ5 47 1 (by simp) (by simp)).1]
  refine ok_nm2 (fun x6 ex6 => ?_)
  have f3 : (0 : Int32).toInt = 0 := by decide
  have qx6 : x6.toInt = 0 := by rw [ex6]; decide
  refine ok_lpc (I := fun n s => n = (3 + 1 - s.1.toInt).toNat ∧ JC s.2 ∧ Fr fr_fX5_takeFrom_71_47 σ s.2 ∧ 0 ≤ s.1.toInt ∧ s.1.toInt ≤ 3) (fun rec32_1r n_1 s_1 hs_1 hrec_1 => ?_) K9 ((3 + 1 - x6.toInt).toNat) (x6, σ5) ⟨rfl, hIσ5, hfσ5, (show 0 ≤ x6.toInt by omega), (show x6.toInt ≤ 3 by omega)⟩ (by unfold K9; omega)
  obtain ⟨a2_1, σ1_1⟩ := s_1
  obtain ⟨hn_1, hIσ1_1, hfσ1_1, b0a2_1, b1a2_1⟩ := hs_1
  dsimp only at hn_1 hIσ1_1 hfσ1_1 b0a2_1 b1a2_1
  unfold bX5_takeFrom_71_47_32
  try dsimp only
  refine ok_ite.mpr ⟨fun h_4 => ?_, fun h_4 => ?_⟩
  · have f5 : (2 : Int32).toInt = 2 := by decide
    have g6 : (2 : Int32).toInt ≤ a2_1.toInt := Int32.le_iff_toInt_le.mp h_4
    refine ok_some.mpr ?_
    exact ⟨hIσ1_1, hfσ1_1⟩
  · have f7 : (2 : Int32).toInt = 2 := by decide
    have g8 : ¬ (2 : Int32).toInt ≤ a2_1.toInt := fun z => h_4 (Int32.le_iff_toInt_le.mpr z)
    refine ok_gd.mpr ⟨gb_of (by omega) (by omega), ?_⟩
    refine ok_gd.mpr ⟨gb_of (by omega) (by omega), ?_⟩
    have f9 : a2_1.toNatClampNeg = a2_1.toInt.toNat := rfl
    refine ok_bd.mpr ((o_copy (a := (50 + a2_1.toNatClampNeg)) (b := (74 + a2_1.toNatClampNeg)) hIσ1_1 (by (have hj : ((50 + a2_1.toNatClampNeg) = 50 ∧ (74 + a2_1.toNatClampNeg) = 74) ∨ ((50 + a2_1.toNatClampNeg) = 51 ∧ (74 + a2_1.toNatClampNeg) = 75) := by omega); rcases hj with ⟨hj, hk⟩ | ⟨hj, hk⟩ <;> rw [hj, hk] <;> decide) (fun i => by (have hj : ((50 + a2_1.toNatClampNeg) = 50 ∧ (74 + a2_1.toNatClampNeg) = 74) ∨ ((50 + a2_1.toNatClampNeg) = 51 ∧ (74 + a2_1.toNatClampNeg) = 75) := by omega); rcases hj with ⟨hj, hk⟩ | ⟨hj, hk⟩ <;> rw [hj, hk] <;> exact ⟨Int.le_refl _, Int.le_refl _⟩)).mono (fun σ11_2 ho_10 => ?_))
    obtain ⟨hIσ11_2, hcσ11_2, hvσ11_2⟩ := ho_10
    have hfσ11_2 : Fr fr_fX5_takeFrom_71_47 σ σ11_2 := by
      have hj : (74 + a2_1.toNatClampNeg) = 74 ∨ (74 + a2_1.toNatClampNeg) = 75 := by omega
      exact Fr_c hfσ1_1 hcσ11_2 (by rcases hj with hj | hj <;> rw [hj] <;> decide)
    have sσ11_2_47_1 : (σ11_2.1 47 1).toInt = (σ1_1.1 47 1).toInt := by rw [(hcσ11_2 47 1 (by simp <;> omega) (by simp)).1]
    refine ok_gd.mpr ⟨gb_of (by omega) (by omega), ?_⟩
    refine ok_gd.mpr ⟨gb_of (by omega) (by omega), ?_⟩
    refine ok_bd.mpr ((o_copy (a := (53 + a2_1.toNatClampNeg)) (b := (77 + a2_1.toNatClampNeg)) hIσ11_2 (by (have hj : ((53 + a2_1.toNatClampNeg) = 53 ∧ (77 + a2_1.toNatClampNeg) = 77) ∨ ((53 + a2_1.toNatClampNeg) = 54 ∧ (77 + a2_1.toNatClampNeg) = 78) := by omega); rcases hj with ⟨hj, hk⟩ | ⟨hj, hk⟩ <;> rw [hj, hk] <;> decide) (fun i => by (have hj : ((53 + a2_1.toNatClampNeg) = 53 ∧ (77 + a2_1.toNatClampNeg) = 77) ∨ ((53 + a2_1.toNatClampNeg) = 54 ∧ (77 + a2_1.toNatClampNeg) = 78) := by omega); rcases hj with ⟨hj, hk⟩ | ⟨hj, hk⟩ <;> rw [hj, hk] <;> exact ⟨Int.le_refl _, Int.le_refl _⟩)).mono (fun σ15_2 ho_11 => ?_))
    obtain ⟨hIσ15_2, hcσ15_2, hvσ15_2⟩ := ho_11
    have hfσ15_2 : Fr fr_fX5_takeFrom_71_47 σ σ15_2 := by
      have hj : (77 + a2_1.toNatClampNeg) = 77 ∨ (77 + a2_1.toNatClampNeg) = 78 := by omega
      exact Fr_c hfσ11_2 hcσ15_2 (by rcases hj with hj | hj <;> rw [hj] <;> decide)
    have sσ15_2_47_1 : (σ15_2.1 47 1).toInt = (σ11_2.1 47 1).toInt := by rw [(hcσ15_2 47 1 (by simp <;> omega) (by simp)).1]
    refine ok_gd.mpr ⟨gb_of (by omega) (by omega), ?_⟩
    refine ok_gd.mpr ⟨gb_of (by omega) (by omega), ?_⟩
    refine ok_bd.mpr ((o_copy (a := (56 + a2_1.toNatClampNeg)) (b := (80 + a2_1.toNatClampNeg)) hIσ15_2 (by (have hj : ((56 + a2_1.toNatClampNeg) = 56 ∧ (80 + a2_1.toNatClampNeg) = 80) ∨ ((56 + a2_1.toNatClampNeg) = 57 ∧ (80 + a2_1.toNatClampNeg) = 81) := by omega); rcases hj with ⟨hj, hk⟩ | ⟨hj, hk⟩ <;> rw [hj, hk] <;> decide) (fun i => by (have hj : ((56 + a2_1.toNatClampNeg) = 56 ∧ (80 + a2_1.toNatClampNeg) = 80) ∨ ((56 + a2_1.toNatClampNeg) = 57 ∧ (80 + a2_1.toNatClampNeg) = 81) := by omega); rcases hj with ⟨hj, hk⟩ | ⟨hj, hk⟩ <;> rw [hj, hk] <;> exact ⟨Int.le_refl _, Int.le_refl _⟩)).mono (fun σ19_2 ho_12 => ?_))
    obtain ⟨hIσ19_2, hcσ19_2, hvσ19_2⟩ := ho_12
    have hfσ19_2 : Fr fr_fX5_takeFrom_71_47 σ σ19_2 := by
      have hj : (80 + a2_1.toNatClampNeg) = 80 ∨ (80 + a2_1.toNatClampNeg) = 81 := by omega
      exact Fr_c hfσ15_2 hcσ19_2 (by rcases hj with hj | hj <;> rw [hj] <;> decide)
    have sσ19_2_47_1 : (σ19_2.1 47 1).toInt = (σ15_2.1 47 1).toInt := by rw [(hcσ19_2 47 1 (by simp <;> omega) (by simp)).1]
    refine ok_nm2 (fun x20_2 ex20_2 => ?_)
    have f13 : (1 : Int32).toInt = 1 := by decide
    have f14 : (a2_1 + (1 : Int32)).toInt = a2_1.toInt + (1 : Int32).toInt := iadd_toInt (by omega) (by omega)
    have qx20_2 : x20_2.toInt = (a2_1 + 1).toInt := congrArg Int32.toInt ex20_2
    exact hrec_1 _ (x20_2, σ19_2) (show (3 + 1 - x20_2.toInt).toNat < n_1 by omega) ⟨rfl, hIσ19_2, hfσ19_2, (show 0 ≤ x20_2.toInt by omega), (show x20_2.toInt ≤ 3 by omega)⟩
set_option maxRecDepth 20000 in
set_option maxHeartbeats 2000000 in
theorem o_fX8_setMeasured_2 {σ : gS} (hIσ : JC σ) {p1 : Int32} {p2 : Int32} {p3 : Int32} (h0p1 : 0 ≤ p1.toInt) (h1p1 : p1.toInt ≤ 59) : Ok (fX8_setMeasured_2 σ p1 p2 p3) (fun out => JC out ∧ Fr fr_fX8_setMeasured_2 σ out) := by
  unfold fX8_setMeasured_2
  have hfσ : Fr fr_fX8_setMeasured_2 σ σ := Fr_r
  have f1 : (0 : Int32).toInt = 0 := by decide
  refine ok_gd.mpr ⟨gb_of (by omega) (by omega), ?_⟩
  refine ok_gd.mpr ⟨gb_of (by omega) (by omega), ?_⟩
  refine ok_nm2 (fun σ2 eσ2 => ?_)
  have hIσ2 : JC σ2 := by rw [eσ2]; exact JC_w hIσ (Int32.le_toInt _) (Int32.toInt_le _)
  have hfσ2 : Fr fr_fX8_setMeasured_2 σ σ2 := by rw [eσ2]; exact Fr_w0 hfσ (by decide)
  have f2 : (1 : Int32).toInt = 1 := by decide
  refine ok_gd.mpr ⟨gb_of (by omega) (by omega), ?_⟩
  refine ok_gd.mpr ⟨gb_of (by omega) (by omega), ?_⟩
  refine ok_nm2 (fun σ4 eσ4 => ?_)
  have hIσ4 : JC σ4 := by rw [eσ4]; exact JC_w hIσ2 (Int32.le_toInt _) (Int32.toInt_le _)
  have hfσ4 : Fr fr_fX8_setMeasured_2 σ σ4 := by rw [eσ4]; exact Fr_w0 hfσ2 (by decide)
  refine ok_some.mpr ?_
  exact ⟨hIσ4, hfσ4⟩
set_option maxRecDepth 20000 in
set_option maxHeartbeats 2000000 in
theorem o_fX9_countMoved {σ : gS} (hIσ : JC σ) {p1 : Int32}  : Ok (fX9_countMoved σ p1) (fun _ => True) := by
  unfold fX9_countMoved
  refine ok_nm2 (fun x1 ex1 => ?_)
  have f1 : (0 : Int32).toInt = 0 := by decide
  have qx1 : x1.toInt = 0 := by rw [ex1]; decide
  refine ok_nm2 (fun x2 ex2 => ?_)
  have qx2 : x2.toInt = 0 := by rw [ex2]; decide
  refine ok_lpc (I := fun n s => n = (12 + 1 - s.2.toInt).toNat ∧ 0 ≤ s.2.toInt ∧ s.2.toInt ≤ 12) (fun rec4_1r n_1 s_1 hs_1 hrec_1 => ?_) K9 ((12 + 1 - x2.toInt).toNat) (x1, x2) ⟨rfl, (show 0 ≤ x2.toInt by omega), (show x2.toInt ≤ 12 by omega)⟩ (by unfold K9; omega)
  obtain ⟨a2_1, a3_1⟩ := s_1
  obtain ⟨hn_1, b0a3_1, b1a3_1⟩ := hs_1
  dsimp only at hn_1 b0a3_1 b1a3_1
  unfold bX9_countMoved_4
  try dsimp only
  have f2 : (1 : Int32).toInt = 1 := by decide
  refine ok_gd.mpr ⟨gb_of (by omega) (by omega), ?_⟩
  refine ok_nm2 (fun v3_2 ev3_2 => ?_)
  have f3 : 0 ≤ (σ.1 3 1).toInt ∧ (σ.1 3 1).toInt ≤ 12 := hIσ 3 1
  have qv3_2 : v3_2.toInt = (σ.1 3 1).toInt := congrArg Int32.toInt ev3_2
  refine ok_ite.mpr ⟨fun h_4 => ?_, fun h_4 => ?_⟩
  · have g5 : v3_2.toInt ≤ a3_1.toInt := Int32.le_iff_toInt_le.mp h_4
    refine ok_some.mpr ?_
    exact trivial
  · have g6 : ¬ v3_2.toInt ≤ a3_1.toInt := fun z => h_4 (Int32.le_iff_toInt_le.mpr z)
    refine ok_gd.mpr ⟨gb_of (by omega) (by omega), ?_⟩
    refine ok_gd.mpr ⟨gb_of (by omega) (by omega), ?_⟩
    refine ok_nm2 (fun v6_2 ev6_2 => ?_)
    have qv6_2 : v6_2.toInt = (σ.1 50 a3_1.toNatClampNeg).toInt := congrArg Int32.toInt ev6_2
    refine ok_gd.mpr ⟨gb_of (by omega) (by omega), ?_⟩
    refine ok_gd.mpr ⟨gb_of (by omega) (by omega), ?_⟩
    refine ok_nm2 (fun v8_2 ev8_2 => ?_)
    have qv8_2 : v8_2.toInt = (σ.1 74 a3_1.toNatClampNeg).toInt := congrArg Int32.toInt ev8_2
    refine ok_nm2 (fun x9_2 ex9_2 => ?_)
    have f7 : ((if (0 : Int32) ≤ (v6_2 - v8_2) then (v6_2 - v8_2) else (0 - (v6_2 - v8_2))).toInt = (v6_2 - v8_2).toInt ∧ (0 : Int32).toInt ≤ (v6_2 - v8_2).toInt) ∨ ((if (0 : Int32) ≤ (v6_2 - v8_2) then (v6_2 - v8_2) else (0 - (v6_2 - v8_2))).toInt = (0 - (v6_2 - v8_2)).toInt ∧ ¬ (0 : Int32).toInt ≤ (v6_2 - v8_2).toInt) := by
      by_cases hz : (0 : Int32) ≤ (v6_2 - v8_2)
      · exact .inl ⟨by rw [if_pos hz], Int32.le_iff_toInt_le.mp hz⟩
      · exact .inr ⟨by rw [if_neg hz], fun z => hz (Int32.le_iff_toInt_le.mpr z)⟩
    have qx9_2 : x9_2.toInt = (if (0 : Int32) ≤ (v6_2 - v8_2) then (v6_2 - v8_2) else (0 - (v6_2 - v8_2))).toInt := congrArg Int32.toInt ex9_2
    refine ok_gd.mpr ⟨gb_of (by omega) (by omega), ?_⟩
    refine ok_gd.mpr ⟨gb_of (by omega) (by omega), ?_⟩
    refine ok_nm2 (fun v11_2 ev11_2 => ?_)
    have qv11_2 : v11_2.toInt = (σ.1 51 a3_1.toNatClampNeg).toInt := congrArg Int32.toInt ev11_2
    refine ok_gd.mpr ⟨gb_of (by omega) (by omega), ?_⟩
    refine ok_gd.mpr ⟨gb_of (by omega) (by omega), ?_⟩
    refine ok_nm2 (fun v13_2 ev13_2 => ?_)
    have qv13_2 : v13_2.toInt = (σ.1 75 a3_1.toNatClampNeg).toInt := congrArg Int32.toInt ev13_2
    refine ok_nm2 (fun x14_2 ex14_2 => ?_)
    have f8 : ((if (0 : Int32) ≤ (v11_2 - v13_2) then (v11_2 - v13_2) else (0 - (v11_2 - v13_2))).toInt = (v11_2 - v13_2).toInt ∧ (0 : Int32).toInt ≤ (v11_2 - v13_2).toInt) ∨ ((if (0 : Int32) ≤ (v11_2 - v13_2) then (v11_2 - v13_2) else (0 - (v11_2 - v13_2))).toInt = (0 - (v11_2 - v13_2)).toInt ∧ ¬ (0 : Int32).toInt ≤ (v11_2 - v13_2).toInt) := by
      by_cases hz : (0 : Int32) ≤ (v11_2 - v13_2)
      · exact .inl ⟨by rw [if_pos hz], Int32.le_iff_toInt_le.mp hz⟩
      · exact .inr ⟨by rw [if_neg hz], fun z => hz (Int32.le_iff_toInt_le.mpr z)⟩
    have qx14_2 : x14_2.toInt = (if (0 : Int32) ≤ (v11_2 - v13_2) then (v11_2 - v13_2) else (0 - (v11_2 - v13_2))).toInt := congrArg Int32.toInt ex14_2
    refine ok_ite.mpr ⟨fun h_9 => ?_, fun h_9 => ?_⟩
    · have g10 : p1.toInt < x9_2.toInt := Int32.lt_iff_toInt_lt.mp h_9
      refine ok_nm2 (fun x16_2 ex16_2 => ?_)
      have qx16_2 : x16_2.toInt = (a2_1 + 1).toInt := congrArg Int32.toInt ex16_2
      refine ok_nm2 (fun x17_2 ex17_2 => ?_)
      have f11 : (a3_1 + (1 : Int32)).toInt = a3_1.toInt + (1 : Int32).toInt := iadd_toInt (by omega) (by omega)
      have qx17_2 : x17_2.toInt = (a3_1 + 1).toInt := congrArg Int32.toInt ex17_2
      exact hrec_1 _ (x16_2, x17_2) (show (12 + 1 - x17_2.toInt).toNat < n_1 by omega) ⟨rfl, (show 0 ≤ x17_2.toInt by omega), (show x17_2.toInt ≤ 12 by omega)⟩
    · have g12 : ¬ p1.toInt < x9_2.toInt := fun z => h_9 (Int32.lt_iff_toInt_lt.mpr z)
      refine ok_ite.mpr ⟨fun h_13 => ?_, fun h_13 => ?_⟩
      · have g14 : x14_2.toInt ≤ p1.toInt := Int32.le_iff_toInt_le.mp h_13
        refine ok_nm2 (fun x19_2 ex19_2 => ?_)
        have f15 : (a3_1 + (1 : Int32)).toInt = a3_1.toInt + (1 : Int32).toInt := iadd_toInt (by omega) (by omega)
        have qx19_2 : x19_2.toInt = (a3_1 + 1).toInt := congrArg Int32.toInt ex19_2
        exact hrec_1 _ (a2_1, x19_2) (show (12 + 1 - x19_2.toInt).toNat < n_1 by omega) ⟨rfl, (show 0 ≤ x19_2.toInt by omega), (show x19_2.toInt ≤ 12 by omega)⟩
      · have g16 : ¬ x14_2.toInt ≤ p1.toInt := fun z => h_13 (Int32.le_iff_toInt_le.mpr z)
        refine ok_nm2 (fun x20_2 ex20_2 => ?_)
        have qx20_2 : x20_2.toInt = (a2_1 + 1).toInt := congrArg Int32.toInt ex20_2
        refine ok_nm2 (fun x21_2 ex21_2 => ?_)
        have f17 : (a3_1 + (1 : Int32)).toInt = a3_1.toInt + (1 : Int32).toInt := iadd_toInt (by omega) (by omega)
        have qx21_2 : x21_2.toInt = (a3_1 + 1).toInt := congrArg Int32.toInt ex21_2
        exact hrec_1 _ (x20_2, x21_2) (show (12 + 1 - x21_2.toInt).toNat < n_1 by omega) ⟨rfl, (show 0 ≤ x21_2.toInt by omega), (show x21_2.toInt ≤ 12 by omega)⟩
set_option maxRecDepth 20000 in
set_option maxHeartbeats 2000000 in
theorem o_fX9_alters {σ : gS} (hIσ : JC σ) {p1 : Int32} {p2 : Int32} {p3 : Int32} {p4 : Int32}  : Ok (fX9_alters σ p1 p2 p3 p4) (fun out => JC out.2 ∧ Fr fr_fX9_alters σ out.2) := by
  unfold fX9_alters
  have hfσ : Fr fr_fX9_alters σ σ := Fr_r
  refine ok_bd.mpr ((o_fX9_canMeasure hIσ (p1 := p1) (p2 := p2) (p3 := p3) ).mono (fun r2 ho_2 => ?_))
  obtain ⟨r0r2, r1r2, hp_3⟩ := ho_2
  refine ok_ite.mpr ⟨fun h_4 => ?_, fun h_4 => ?_⟩
  · have f5 : (0 : Int32).toInt = 0 := by decide
    have g6 : r2.toInt = (0 : Int32).toInt := by rw [h_4]
    refine ok_some.mpr ?_
    have f7 : (-1 : Int32).toInt = -1 := by decide
    exact ⟨hIσ, hfσ⟩
  · have f8 : (0 : Int32).toInt = 0 := by decide
    have g9 : r2.toInt ≠ (0 : Int32).toInt := fun z => h_4 (Int32.toInt_inj.mp z)
    refine ok_ite.mpr ⟨fun h_10 => ?_, fun h_10 => ?_⟩
    · have g11 : (0 : Int32).toInt ≤ p4.toInt := Int32.le_iff_toInt_le.mp h_10
      refine ok_gd.mpr ⟨gb_of (by omega) (by omega), ?_⟩
      refine ok_gd.mpr ⟨gb_of (by omega) (by omega), ?_⟩
      refine ok_nm2 (fun v6 ev6 => ?_)
      have qv6 : v6.toInt = (σ.1 13 p1.toNatClampNeg).toInt := congrArg Int32.toInt ev6
      refine ok_nm.mpr ?_
      have f12 : (1 : Int32).toInt = 1 := by decide
      refine ok_gd.mpr ⟨gb_of (by omega) (by omega), ?_⟩
      refine ok_gd.mpr ⟨gb_of (by omega) (by omega), ?_⟩
      refine ok_nm2 (fun v9_1 ev9_1 => ?_)
      have qv9_1 : v9_1.toInt = (σ.1 14 p1.toNatClampNeg).toInt := congrArg Int32.toInt ev9_1
      refine ok_nm.mpr ?_
      refine ok_bd.mpr ((o_fX5_takeFrom_59_47 hIσ  ).mono (fun σ12_1_2 ho_14 => ?_))
      obtain ⟨hIσ12_1_2, hcσ12_1_2⟩ := ho_14
      have hfσ12_1_2 : Fr fr_fX9_alters σ σ12_1_2 := Fr_c hfσ hcσ12_1_2 (by decide)
      have f15 : (200 : Int32).toInt = 200 := by decide
      refine ok_bd2.mpr ((o_fX1_settle hIσ12_1_2 (p1 := (200 : Int32)) (by omega) (by omega)).mono (fun o_16 ho_17 => ?_))
      obtain ⟨r14_1_2, σ15_1_2⟩ := o_16
      obtain ⟨hIσ15_1_2, hcσ15_1_2, r0r14_1_2, r1r14_1_2⟩ := ho_17
      dsimp only at hIσ15_1_2 hcσ15_1_2 r0r14_1_2 r1r14_1_2 ⊢
      have hfσ15_1_2 : Fr fr_fX9_alters σ σ15_1_2 := Fr_c hfσ12_1_2 hcσ15_1_2 (by decide)
      refine ok_bd.mpr ((o_fX5_takeFrom_71_47 hIσ15_1_2  ).mono (fun σ17_1_2 ho_19 => ?_))
      obtain ⟨hIσ17_1_2, hcσ17_1_2⟩ := ho_19
      have hfσ17_1_2 : Fr fr_fX9_alters σ σ17_1_2 := Fr_c hfσ15_1_2 hcσ17_1_2 (by decide)
      refine ok_bd.mpr ((o_fX5_takeFrom_47_59 hIσ17_1_2  ).mono (fun σ19_1_2 ho_21 => ?_))
      obtain ⟨hIσ19_1_2, hcσ19_1_2⟩ := ho_21
      have hfσ19_1_2 : Fr fr_fX9_alters σ σ19_1_2 := Fr_c hfσ17_1_2 hcσ19_1_2 (by decide)
      refine ok_bd.mpr ((o_fX8_setMeasured_2 hIσ19_1_2 (p1 := p1) (p2 := p2) (p3 := p3) (by omega) (by omega)).mono (fun σ21_1_2 ho_23 => ?_))
      obtain ⟨hIσ21_1_2, hcσ21_1_2⟩ := ho_23
      have hfσ21_1_2 : Fr fr_fX9_alters σ σ21_1_2 := Fr_c hfσ19_1_2 hcσ21_1_2 (by decide)
      refine ok_bd2.mpr ((o_fX1_settle hIσ21_1_2 (p1 := (200 : Int32)) (by omega) (by omega)).mono (fun o_24 ho_25 => ?_))
      obtain ⟨r23_1_2, σ24_1_2⟩ := o_24
      obtain ⟨hIσ24_1_2, hcσ24_1_2, r0r23_1_2, r1r23_1_2⟩ := ho_25
      dsimp only at hIσ24_1_2 hcσ24_1_2 r0r23_1_2 r1r23_1_2 ⊢
      have hfσ24_1_2 : Fr fr_fX9_alters σ σ24_1_2 := Fr_c hfσ21_1_2 hcσ24_1_2 (by decide)
      refine ok_bd.mpr ((o_fX9_countMoved hIσ24_1_2 (p1 := p4) ).mono (fun r26_1_2 ho_27 => ?_))
      refine ok_nm.mpr ?_
      refine ok_bd.mpr ((o_fX8_setMeasured_2 hIσ24_1_2 (p1 := p1) (p2 := v6) (p3 := v9_1) (by omega) (by omega)).mono (fun σ29_1_2_3 ho_29 => ?_))
      obtain ⟨hIσ29_1_2_3, hcσ29_1_2_3⟩ := ho_29
      have hfσ29_1_2_3 : Fr fr_fX9_alters σ σ29_1_2_3 := Fr_c hfσ24_1_2 hcσ29_1_2_3 (by decide)
      refine ok_bd.mpr ((o_fX5_takeFrom_47_59 hIσ29_1_2_3  ).mono (fun σ31_1_2_3 ho_31 => ?_))
      obtain ⟨hIσ31_1_2_3, hcσ31_1_2_3⟩ := ho_31
      have hfσ31_1_2_3 : Fr fr_fX9_alters σ σ31_1_2_3 := Fr_c hfσ29_1_2_3 hcσ31_1_2_3 (by decide)
      refine ok_some.mpr ?_
      exact ⟨hIσ31_1_2_3, hfσ31_1_2_3⟩
    · have g32 : ¬ (0 : Int32).toInt ≤ p4.toInt := fun z => h_10 (Int32.le_iff_toInt_le.mpr z)
      refine ok_some.mpr ?_
      have f33 : (-1 : Int32).toInt = -1 := by decide
      exact ⟨hIσ, hfσ⟩
set_option maxRecDepth 20000 in
set_option maxHeartbeats 2000000 in
theorem o_fX9_measure {σ : gS} (hIσ : JC σ) {p1 : Int32} {p2 : Int32} {p3 : Int32}  : Ok (fX9_measure σ p1 p2 p3) (fun out => JC out.2 ∧ Fr fr_fX9_measure σ out.2 ∧ 0 ≤ out.1.toInt ∧ out.1.toInt ≤ 1) := by
  unfold fX9_measure
  have hfσ : Fr fr_fX9_measure σ σ := Fr_r
  refine ok_bd.mpr ((o_fX9_canMeasure hIσ (p1 := p1) (p2 := p2) (p3 := p3) ).mono (fun r2 ho_2 => ?_))
  obtain ⟨r0r2, r1r2, hp_3⟩ := ho_2
  refine ok_ite.mpr ⟨fun h_4 => ?_, fun h_4 => ?_⟩
  · have f5 : (0 : Int32).toInt = 0 := by decide
    have g6 : r2.toInt = (0 : Int32).toInt := by rw [h_4]
    refine ok_some.mpr ?_
    exact ⟨hIσ, hfσ, (show 0 ≤ (0 : Int32).toInt by omega), (show (0 : Int32).toInt ≤ 1 by omega)⟩
  · have f7 : (0 : Int32).toInt = 0 := by decide
    have g8 : r2.toInt ≠ (0 : Int32).toInt := fun z => h_4 (Int32.toInt_inj.mp z)
    refine ok_bd.mpr ((o_fX8_setMeasured_2 hIσ (p1 := p1) (p2 := p2) (p3 := p3) (by omega) (by omega)).mono (fun σ5 ho_10 => ?_))
    obtain ⟨hIσ5, hcσ5⟩ := ho_10
    have hfσ5 : Fr fr_fX9_measure σ σ5 := Fr_c hfσ hcσ5 (by decide)
    refine ok_some.mpr ?_
    have f11 : (1 : Int32).toInt = 1 := by decide
    exact ⟨hIσ5, hfσ5, (show 0 ≤ (1 : Int32).toInt by omega), (show (1 : Int32).toInt ≤ 1 by omega)⟩
set_option maxRecDepth 20000 in
set_option maxHeartbeats 2000000 in
theorem o_fX9_nextDraw {σ : gS} (hIσ : JC σ) {p0 : Int64}  : Ok (fX9_nextDraw σ p0) (fun _ => True) := by
  unfold fX9_nextDraw
  refine ok_some.mpr ?_
  exact trivial
theorem w9_land31 (x : Int64) : 0 ≤ (x &&& 2147483647).toInt ∧ (x &&& 2147483647).toInt ≤ 2147483647 := by
  have e : (x &&& 2147483647).toInt = (x.toBitVec &&& (2147483647 : Int64).toBitVec).toInt := rfl
  have hle : (x.toBitVec &&& (2147483647 : Int64).toBitVec).toNat ≤ (2147483647 : Int64).toBitVec.toNat := by rw [BitVec.toNat_and]; exact Nat.and_le_right
  have h9 : (2147483647 : Int64).toBitVec.toNat = 2147483647 := by decide
  rw [h9] at hle
  rw [e, BitVec.toInt_eq_toNat_cond]
  split <;> omega
theorem w9_drawn (σ : gS) {x : Int64} {m : Int32} (h0 : 0 ≤ x.toInt) (hm : 1 ≤ m.toInt) : Ok (fX9_drawn σ x m) (fun r => 0 ≤ r.toInt ∧ r.toInt < m.toInt) := by
  have e : m.toInt64.toInt = m.toInt := Int32.toInt_toInt64 _
  have z : (0 : Int64).toInt = 0 := by decide
  have hmm := i32_hi m
  unfold fX9_drawn
  refine ok_ite.mpr ⟨fun _ => ok_gd.mpr ⟨decide_eq_true (fun y => by rw [y] at e; omega), ok_some.mpr ?_⟩, fun h => absurd (q_le (show (1 : Int32).toInt ≤ m.toInt from hm)) h⟩
  have l64 : (64 : Int64).toInt = 64 := by decide
  have d1 : (x / 64).toInt = x.toInt / 64 := by rw [ldiv_nn h0 (by omega), l64]
  have d2 : (lrm (x / 64) m.toInt64).toInt = x.toInt / 64 % m.toInt := by rw [lrm_nn (by omega) (by omega), d1, e]
  have b0 : 0 ≤ x.toInt / 64 % m.toInt := Int.emod_nonneg _ (by omega)
  have b1 : x.toInt / 64 % m.toInt < m.toInt := Int.emod_lt_of_pos _ (by omega)
  have d3 : (lrm (x / 64) m.toInt64).toInt32.toInt = x.toInt / 64 % m.toInt := by rw [l_toInt32 (by omega) (by omega), d2]
  rw [d3]
  exact ⟨b0, b1⟩
theorem o_fX9_drawn {σ : gS} (hIσ : JC σ) {p0 : Int64} {p2 : Int32}  : Ok (fX9_drawn σ p0 p2) (fun _ => True) := by
  have e : p2.toInt64.toInt = p2.toInt := Int32.toInt_toInt64 _
  have z : (0 : Int64).toInt = 0 := by decide
  have l1 : (1 : Int32).toInt = 1 := by decide
  unfold fX9_drawn
  exact ok_ite.mpr ⟨fun h => ok_gd.mpr ⟨decide_eq_true (fun y => by have h := Int32.le_iff_toInt_le.mp h; rw [y] at e; omega), ok_some.mpr trivial⟩, fun _ => ok_some.mpr trivial⟩
set_option maxRecDepth 20000 in
set_option maxHeartbeats 2000000 in
theorem o_fX9_keptMeasured {σ : gS} (hIσ : JC σ) {p0 : Int32}  : Ok (fX9_keptMeasured σ p0) (fun out => -2147483648 ≤ out.toInt ∧ out.toInt ≤ 9999) := by
  unfold fX9_keptMeasured
  refine ok_some.mpr ?_
  have f1 : (0 : Int32).toInt = 0 := by decide
  have f2 : (9999 : Int32).toInt = 9999 := by decide
  have f3 : ((if p0 < 9999 then p0 else 9999).toInt = p0.toInt ∧ p0.toInt < (9999 : Int32).toInt) ∨ ((if p0 < 9999 then p0 else 9999).toInt = (9999 : Int32).toInt ∧ ¬ p0.toInt < (9999 : Int32).toInt) := by
    by_cases hz : p0 < 9999
    · exact .inl ⟨by rw [if_pos hz], Int32.lt_iff_toInt_lt.mp hz⟩
    · exact .inr ⟨by rw [if_neg hz], fun z => hz (Int32.lt_iff_toInt_lt.mpr z)⟩
  have f4 : ((if (0 : Int32) < (if p0 < 9999 then p0 else 9999) then (if p0 < 9999 then p0 else 9999) else 0).toInt = (if p0 < 9999 then p0 else 9999).toInt ∧ (0 : Int32).toInt < (if p0 < 9999 then p0 else 9999).toInt) ∨ ((if (0 : Int32) < (if p0 < 9999 then p0 else 9999) then (if p0 < 9999 then p0 else 9999) else 0).toInt = (0 : Int32).toInt ∧ ¬ (0 : Int32).toInt < (if p0 < 9999 then p0 else 9999).toInt) := by
    by_cases hz : (0 : Int32) < (if p0 < 9999 then p0 else 9999)
    · exact .inl ⟨by rw [if_pos hz], Int32.lt_iff_toInt_lt.mp hz⟩
    · exact .inr ⟨by rw [if_neg hz], fun z => hz (Int32.lt_iff_toInt_lt.mpr z)⟩
  exact ⟨(show -2147483648 ≤ (if (0 : Int32) < (if p0 < 9999 then p0 else 9999) then (if p0 < 9999 then p0 else 9999) else 0).toInt by omega), (show (if (0 : Int32) < (if p0 < 9999 then p0 else 9999) then (if p0 < 9999 then p0 else 9999) else 0).toInt ≤ 9999 by omega)⟩
theorem w9_next (σ : gS) (x : Int64) : Ok (fX9_nextDraw σ x) (fun r => 0 ≤ r.toInt) := by
  unfold fX9_nextDraw
  exact ok_some.mpr (w9_land31 _).1
theorem o_fX9_slips {σ : gS} (hIσ : JC σ) {p1 : Int32} {p2 : Int32} {p3 : Int32}  : Ok (fX9_slips σ p1 p2 p3) (fun out => JC out.2 ∧ Fr fr_fX9_slips σ out.2) := by
  have hn := hIσ 3 3
  have hn : 0 ≤ (σ.1 3 3).toInt ∧ (σ.1 3 3).toInt ≤ 60 := hn
  have i0 : (0 : Int32).toInt = 0 := by decide
  have i1 : (1 : Int32).toInt = 1 := by decide
  have i2 : (2 : Int32).toInt = 2 := by decide
  have i60 : (60 : Int32).toInt = 60 := by decide
  have i999 : (999 : Int32).toInt = 999 := by decide
  unfold fX9_slips
  have no : Ok (some ((-1 : Int32), σ)) (fun out => JC out.2 ∧ Fr fr_fX9_slips σ out.2) := ok_some.mpr ⟨hIσ, Fr_r⟩
  refine ok_gd.mpr ⟨by decide, ok_nm.mpr (ok_nm.mpr (ok_ite.mpr ⟨fun _ => no, fun hr => ok_ite.mpr ⟨fun _ => no, fun h1 => ok_ite.mpr ⟨fun _ => no, fun h2 => ok_ite.mpr ⟨fun _ => no, fun h3 => ok_ite.mpr ⟨fun _ => no, fun h4 => ok_ite.mpr ⟨fun _ => ok_nm.mpr (ok_nm.mpr (ok_nm.mpr ?_)), fun _ => no⟩⟩⟩⟩⟩⟩))⟩
  have hr' : (σ.1 3 3).toInt ≠ 0 := fun z => hr (q_of 0 (z.trans (by decide)))
  have g1 : ¬ p1.toInt < (1 : Int32).toInt := fun z => h1 (Int32.lt_iff_toInt_lt.mpr z)
  have g2 : ¬ (60 : Int32).toInt < p1.toInt := fun z => h2 (Int32.lt_iff_toInt_lt.mpr z)
  have g3 : ¬ p2.toInt < (0 : Int32).toInt := fun z => h3 (Int32.lt_iff_toInt_lt.mpr z)
  have g4 : ¬ (999 : Int32).toInt < p2.toInt := fun z => h4 (Int32.lt_iff_toInt_lt.mpr z)
  have f1 : (2 * p2).toInt = 2 * p2.toInt := imulc (by decide) (by omega) (by omega)
  have f2 : (2 * p2 + 1).toInt = (2 * p2).toInt + 1 := by rw [iadd_toInt] <;> omega
  show Ok (lpc (S := Int64 × Int32 × Int32 × gS) K9 (fun rec s => bX9_slips_54 σ p1 p2 (σ.1 3 3) (fun a5 a7 a8 σ1 => rec (a5, a7, a8, σ1)) s.1 s.2.1 s.2.2.1 s.2.2.2) (p3.toInt64, 0, 0, σ)) _
  refine ok_lpc (I := fun (k : Nat) (s : Int64 × Int32 × Int32 × gS) => k = (p1.toInt - s.2.2.1.toInt).toNat ∧ 0 ≤ s.2.2.1.toInt ∧ s.2.2.1.toInt ≤ p1.toInt ∧ JC s.2.2.2 ∧ Fr fr_fX9_slips σ s.2.2.2) (fun rec k s hs hrec => ?_) K9 p1.toInt.toNat (p3.toInt64, 0, 0, σ) ⟨show p1.toInt.toNat = (p1.toInt - (0 : Int32).toInt).toNat by omega, show 0 ≤ (0 : Int32).toInt by decide, show (0 : Int32).toInt ≤ p1.toInt by omega, hIσ, Fr_r⟩ (by unfold K9; omega)
  obtain ⟨x, w, a, τ⟩ := s
  obtain ⟨hk, h0, h1', jI, jF⟩ := hs
  dsimp only at hk h0 h1' jI jF ⊢
  unfold bX9_slips_54
  refine ok_ite.mpr ⟨fun _ => ok_some.mpr ⟨jI, jF⟩, fun h => ?_⟩
  have ha := q_gt h
  have e1 : (a + 1).toInt = a.toInt + 1 := i_inc (c := 60) (by omega) (by omega) (by decide)
  refine ok_bd.mpr ((w9_next τ x).mono (fun x1 hx1 => ok_nm.mpr ?_))
  refine ok_bd.mpr ((w9_drawn τ hx1 (m := σ.1 3 3) (by omega)).mono (fun r hr1 => ok_nm.mpr ?_))
  refine ok_bd.mpr ((w9_next τ x1).mono (fun x2 hx2 => ok_nm.mpr ?_))
  refine ok_gd.mpr ⟨by decide, ok_gd.mpr ⟨gb_of hr1.1 (by omega), ok_nm.mpr ?_⟩⟩
  refine ok_bd.mpr ((w9_drawn τ hx2 (m := 2 * p2 + 1) (by omega)).mono (fun r2 _ => ok_nm.mpr ?_))
  refine ok_bd.mpr ((w9_next τ x2).mono (fun x3 hx3 => ok_nm.mpr ?_))
  refine ok_gd.mpr ⟨by decide, ok_gd.mpr ⟨gb_of hr1.1 (by omega), ok_nm.mpr ?_⟩⟩
  refine ok_bd.mpr ((w9_drawn τ hx3 (m := 2 * p2 + 1) (by omega)).mono (fun r3 _ => ok_nm.mpr ?_))
  refine ok_bde (x := _) rfl (ok_bde (x := _) rfl ?_)
  refine ok_bd.mpr ((o_fX8_setMeasured_2 jI (p1 := r) hr1.1 (by omega)).mono (fun u hu => ok_nm.mpr (ok_nm.mpr ?_)))
  exact hrec (p1.toInt - (a + 1).toInt).toNat (x3, w + 3, a + 1, u) (by omega) ⟨rfl, show 0 ≤ (a + 1).toInt by omega, show (a + 1).toInt ≤ p1.toInt by omega, hu.1, Fr_c jF hu.2 (by decide)⟩
set_option maxRecDepth 20000 in
set_option maxHeartbeats 2000000 in
theorem o_fX0_writeByte {σ : gS} (hIσ : JC σ) {p1 : Int32}  : Ok (fX0_writeByte σ p1) (fun out => JC out ∧ Fr fr_fX0_writeByte σ out) := by
  unfold fX0_writeByte
  have hfσ : Fr fr_fX0_writeByte σ σ := Fr_r
  have f1 : 0 ≤ (σ.1 197 2).toInt ∧ (σ.1 197 2).toInt ≤ 378 := hIσ 197 2
  refine ok_ite.mpr ⟨fun h_2 => ?_, fun h_2 => ?_⟩
  · have f3 : (378 : Int32).toInt = 378 := by decide
    have g4 : (σ.1 197 2).toInt < (378 : Int32).toInt := Int32.lt_iff_toInt_lt.mp h_2
    refine ok_gd.mpr ⟨gb_of (by omega) (by omega), ?_⟩
    refine ok_nm2 (fun σ2 eσ2 => ?_)
    have hIσ2 : JC σ2 := by rw [eσ2]; exact JC_w hIσ (Int32.le_toInt _) (Int32.toInt_le _)
    have hfσ2 : Fr fr_fX0_writeByte σ σ2 := by rw [eσ2]; exact Fr_w0 hfσ (by decide)
    have sσ2_197_2 : (σ2.1 197 2).toInt = (σ.1 197 2).toInt := by rw [eσ2]; rfl
    refine ok_nm2 (fun σ3 eσ3 => ?_)
    have f5 : 0 ≤ (σ2.1 197 2).toInt ∧ (σ2.1 197 2).toInt ≤ 378 := hIσ2 197 2
    have f6 : (1 : Int32).toInt = 1 := by decide
    have f7 : ((σ2.1 197 2) + (1 : Int32)).toInt = (σ2.1 197 2).toInt + (1 : Int32).toInt := iadd_toInt (by omega) (by omega)
    have hIσ3 : JC σ3 := by rw [eσ3]; exact JC_w hIσ2 (show 0 ≤ _ by omega) (show _ ≤ 378 by omega)
    have hfσ3 : Fr fr_fX0_writeByte σ σ3 := by rw [eσ3]; exact Fr_w hfσ2 (by decide)
    have sσ3_197_2 : (σ3.1 197 2).toInt = ((σ2.1 197 2) + 1).toInt := by rw [eσ3]; rfl
    refine ok_some.mpr ?_
    exact ⟨hIσ3, hfσ3⟩
  · have f8 : (378 : Int32).toInt = 378 := by decide
    have g9 : ¬ (σ.1 197 2).toInt < (378 : Int32).toInt := fun z => h_2 (Int32.lt_iff_toInt_lt.mpr z)
    refine ok_some.mpr ?_
    exact ⟨hIσ, hfσ⟩
theorem o_fX0_check {σ : gS} (hIσ : JC σ) {p0 : Nat} {p1 : Int32} (h0p0 : 1 ≤ p0) (h1p0 : p0 ≤ 198) (h0p1 : 0 ≤ p1.toInt) (h1p1 : p1.toInt ≤ 1600) (pre0 : (p0 = 1 ∧ p1.toInt ≤ 1600) ∨ (p0 = 198 ∧ p1.toInt ≤ 378)) : Ok (fX0_check σ p0 p1) (fun _ => True) := by
  unfold fX0_check
  have hz : 378 ≤ gsz zC.1 0 0 p0 ∧ p1.toInt ≤ (gsz zC.1 0 0 p0 : Int) := by
    rcases pre0 with ⟨rfl, hp⟩ | ⟨rfl, hp⟩
    · have : gsz zC.1 0 0 1 = 1600 := by decide
      omega
    · have : gsz zC.1 0 0 198 = 378 := by decide
      omega
  refine ok_nm.mpr (ok_nm.mpr (ok_lpc (I := fun (n : Nat) (s : Int32 × Int32) => n = (p1.toInt - s.2.toInt).toNat ∧ 0 ≤ s.2.toInt ∧ s.2.toInt ≤ p1.toInt) (fun rec n s hs hrec => ?_) K9 p1.toInt.toNat (45, 0) ⟨show p1.toInt.toNat = (p1.toInt - (0 : Int32).toInt).toNat by have := z0; omega, show 0 ≤ (0 : Int32).toInt by decide, show (0 : Int32).toInt ≤ p1.toInt by have := z0; omega⟩ (by unfold K9; omega)))
  obtain ⟨c, a⟩ := s
  obtain ⟨hn, h0, h1⟩ := hs
  dsimp only at hn h0 h1 ⊢
  unfold bX0_check_5
  refine ok_ite.mpr ⟨fun _ => ok_some.mpr trivial, fun h => ?_⟩
  have ha : a.toInt < p1.toInt := by
    have := q_gt h
    omega
  have e1 : (a + 1).toInt = a.toInt + 1 := i_inc (c := 1600) (by omega) (by omega) (by decide)
  exact ok_gd.mpr ⟨gb_of h0 (by omega), ok_nm.mpr (ok_nm.mpr (ok_nm.mpr (hrec (p1.toInt - (a + 1).toInt).toNat (_, a + 1) (by omega) ⟨rfl, show 0 ≤ (a + 1).toInt by omega, show (a + 1).toInt ≤ p1.toInt by omega⟩)))⟩
theorem w9_wb55 {σ ρ τ9 : gS} {w c a : Int32} {rec2 rec11 : Int32 → gS → Option gS} {P : gS → Prop} (hI : JC ρ) (hF : Fr fr_fX0_writePair_55 σ ρ) (w0 : 0 ≤ w.toInt) (w1 : w.toInt ≤ 5) (c0 : 0 ≤ c.toInt) (c1 : c.toInt ≤ 1) (hn : ¬ a < 0) (k : ∀ u, JC u → Fr fr_fX0_writePair_55 σ u → Ok (rec11 (a + (-8)) u) P) : Ok (bX0_writePair_55_11 τ9 w c rec2 rec11 a ρ) P := by
  unfold bX0_writePair_55_11
  refine ok_ite.mpr ⟨fun h => absurd h hn, fun _ => ok_gd.mpr ⟨gb_of c0 (by omega), ok_gd.mpr ⟨gb_of w0 (by omega), ok_nm.mpr ?_⟩⟩⟩
  refine ok_bd.mpr ((o_fX0_writeByte hI).mono (fun u hu => ok_nm.mpr ?_))
  exact k u hu.1 (Fr_c hF hu.2 (by decide))
theorem o_fX0_writePair_55 {σ : gS} (hIσ : JC σ) {p2 : Int32} (h0p2 : 0 ≤ p2.toInt) (h1p2 : p2.toInt ≤ 5) : Ok (fX0_writePair_55 σ p2) (fun out => JC out ∧ Fr fr_fX0_writePair_55 σ out) := by
  unfold fX0_writePair_55
  refine ok_nm.mpr (ok_lpc (I := fun (n : Nat) (s : Int32 × gS) => n = (2 - s.1.toInt).toNat ∧ 0 ≤ s.1.toInt ∧ s.1.toInt ≤ 2 ∧ JC s.2 ∧ Fr fr_fX0_writePair_55 σ s.2) (fun rec n s hs hrec => ?_) K9 2 (0, σ) ⟨show 2 = (2 - (0 : Int32).toInt).toNat by decide, show 0 ≤ (0 : Int32).toInt by decide, show (0 : Int32).toInt ≤ 2 by decide, hIσ, Fr_r⟩ (by unfold K9; decide))
  obtain ⟨c, τ⟩ := s
  obtain ⟨hn, h0, h1, jI, jF⟩ := hs
  dsimp only at hn h0 h1 jI jF ⊢
  have l2 : (2 : Int32).toInt = 2 := by decide
  unfold bX0_writePair_55_2
  refine ok_ite.mpr ⟨fun _ => ok_some.mpr ⟨jI, jF⟩, fun h => ok_nm.mpr ?_⟩
  have hc := q_gt h
  have e1 : (c + 1).toInt = c.toInt + 1 := i_inc (by omega) h1 (by decide)
  rw [show K9 = 1048571 + 1 + 1 + 1 + 1 + 1 from rfl]
  refine ok_lpcS ?_
  refine w9_wb55 (σ := σ) (ρ := τ) (a := 24) jI jF h0p2 h1p2 h0 (by omega) (by decide) (fun u1 i1 f1 => ok_lpcS ?_)
  refine w9_wb55 (σ := σ) (ρ := u1) (a := 24 + (-8)) i1 f1 h0p2 h1p2 h0 (by omega) (by decide) (fun u2 i2 f2 => ok_lpcS ?_)
  refine w9_wb55 (σ := σ) (ρ := u2) (a := 24 + (-8) + (-8)) i2 f2 h0p2 h1p2 h0 (by omega) (by decide) (fun u3 i3 f3 => ok_lpcS ?_)
  refine w9_wb55 (σ := σ) (ρ := u3) (a := 24 + (-8) + (-8) + (-8)) i3 f3 h0p2 h1p2 h0 (by omega) (by decide) (fun u4 i4 f4 => ok_lpcS ?_)
  show Ok (bX0_writePair_55_11 τ p2 c _ _ (24 + (-8) + (-8) + (-8) + (-8)) u4) _
  unfold bX0_writePair_55_11
  refine ok_ite.mpr ⟨fun _ => ok_nm.mpr ?_, fun h => absurd (by decide) h⟩
  exact hrec (2 - (c + 1).toInt).toNat (c + 1, u4) (by omega) ⟨rfl, show 0 ≤ (c + 1).toInt by omega, show (c + 1).toInt ≤ 2 by omega, i4, f4⟩
theorem w9_wb52 {σ ρ τ9 : gS} {w c a : Int32} {rec2 rec11 : Int32 → gS → Option gS} {P : gS → Prop} (hI : JC ρ) (hF : Fr fr_fX0_writePair_52 σ ρ) (w0 : 0 ≤ w.toInt) (w1 : w.toInt ≤ 19) (c0 : 0 ≤ c.toInt) (c1 : c.toInt ≤ 1) (hn : ¬ a < 0) (k : ∀ u, JC u → Fr fr_fX0_writePair_52 σ u → Ok (rec11 (a + (-8)) u) P) : Ok (bX0_writePair_52_11 τ9 w c rec2 rec11 a ρ) P := by
  unfold bX0_writePair_52_11
  refine ok_ite.mpr ⟨fun h => absurd h hn, fun _ => ok_gd.mpr ⟨gb_of c0 (by omega), ok_gd.mpr ⟨gb_of w0 (by omega), ok_nm.mpr ?_⟩⟩⟩
  refine ok_bd.mpr ((o_fX0_writeByte hI).mono (fun u hu => ok_nm.mpr ?_))
  exact k u hu.1 (Fr_c hF hu.2 (by decide))
theorem o_fX0_writePair_52 {σ : gS} (hIσ : JC σ) {p2 : Int32} (h0p2 : 0 ≤ p2.toInt) (h1p2 : p2.toInt ≤ 19) : Ok (fX0_writePair_52 σ p2) (fun out => JC out ∧ Fr fr_fX0_writePair_52 σ out) := by
  unfold fX0_writePair_52
  refine ok_nm.mpr (ok_lpc (I := fun (n : Nat) (s : Int32 × gS) => n = (2 - s.1.toInt).toNat ∧ 0 ≤ s.1.toInt ∧ s.1.toInt ≤ 2 ∧ JC s.2 ∧ Fr fr_fX0_writePair_52 σ s.2) (fun rec n s hs hrec => ?_) K9 2 (0, σ) ⟨show 2 = (2 - (0 : Int32).toInt).toNat by decide, show 0 ≤ (0 : Int32).toInt by decide, show (0 : Int32).toInt ≤ 2 by decide, hIσ, Fr_r⟩ (by unfold K9; decide))
  obtain ⟨c, τ⟩ := s
  obtain ⟨hn, h0, h1, jI, jF⟩ := hs
  dsimp only at hn h0 h1 jI jF ⊢
  have l2 : (2 : Int32).toInt = 2 := by decide
  unfold bX0_writePair_52_2
  refine ok_ite.mpr ⟨fun _ => ok_some.mpr ⟨jI, jF⟩, fun h => ok_nm.mpr ?_⟩
  have hc := q_gt h
  have e1 : (c + 1).toInt = c.toInt + 1 := i_inc (by omega) h1 (by decide)
  rw [show K9 = 1048571 + 1 + 1 + 1 + 1 + 1 from rfl]
  refine ok_lpcS ?_
  refine w9_wb52 (σ := σ) (ρ := τ) (a := 24) jI jF h0p2 h1p2 h0 (by omega) (by decide) (fun u1 i1 f1 => ok_lpcS ?_)
  refine w9_wb52 (σ := σ) (ρ := u1) (a := 24 + (-8)) i1 f1 h0p2 h1p2 h0 (by omega) (by decide) (fun u2 i2 f2 => ok_lpcS ?_)
  refine w9_wb52 (σ := σ) (ρ := u2) (a := 24 + (-8) + (-8)) i2 f2 h0p2 h1p2 h0 (by omega) (by decide) (fun u3 i3 f3 => ok_lpcS ?_)
  refine w9_wb52 (σ := σ) (ρ := u3) (a := 24 + (-8) + (-8) + (-8)) i3 f3 h0p2 h1p2 h0 (by omega) (by decide) (fun u4 i4 f4 => ok_lpcS ?_)
  show Ok (bX0_writePair_52_11 τ p2 c _ _ (24 + (-8) + (-8) + (-8) + (-8)) u4) _
  unfold bX0_writePair_52_11
  refine ok_ite.mpr ⟨fun _ => ok_nm.mpr ?_, fun h => absurd (by decide) h⟩
  exact hrec (2 - (c + 1).toInt).toNat (c + 1, u4) (by omega) ⟨rfl, show 0 ≤ (c + 1).toInt by omega, show (c + 1).toInt ≤ 2 by omega, i4, f4⟩
theorem w9_wb49 {σ ρ τ9 : gS} {w c a : Int32} {rec2 rec11 : Int32 → gS → Option gS} {P : gS → Prop} (hI : JC ρ) (hF : Fr fr_fX0_writePair_49 σ ρ) (w0 : 0 ≤ w.toInt) (w1 : w.toInt ≤ 11) (c0 : 0 ≤ c.toInt) (c1 : c.toInt ≤ 1) (hn : ¬ a < 0) (k : ∀ u, JC u → Fr fr_fX0_writePair_49 σ u → Ok (rec11 (a + (-8)) u) P) : Ok (bX0_writePair_49_11 τ9 w c rec2 rec11 a ρ) P := by
  unfold bX0_writePair_49_11
  refine ok_ite.mpr ⟨fun h => absurd h hn, fun _ => ok_gd.mpr ⟨gb_of c0 (by omega), ok_gd.mpr ⟨gb_of w0 (by omega), ok_nm.mpr ?_⟩⟩⟩
  refine ok_bd.mpr ((o_fX0_writeByte hI).mono (fun u hu => ok_nm.mpr ?_))
  exact k u hu.1 (Fr_c hF hu.2 (by decide))
theorem o_fX0_writePair_49 {σ : gS} (hIσ : JC σ) {p2 : Int32} (h0p2 : 0 ≤ p2.toInt) (h1p2 : p2.toInt ≤ 11) : Ok (fX0_writePair_49 σ p2) (fun out => JC out ∧ Fr fr_fX0_writePair_49 σ out) := by
  unfold fX0_writePair_49
  refine ok_nm.mpr (ok_lpc (I := fun (n : Nat) (s : Int32 × gS) => n = (2 - s.1.toInt).toNat ∧ 0 ≤ s.1.toInt ∧ s.1.toInt ≤ 2 ∧ JC s.2 ∧ Fr fr_fX0_writePair_49 σ s.2) (fun rec n s hs hrec => ?_) K9 2 (0, σ) ⟨show 2 = (2 - (0 : Int32).toInt).toNat by decide, show 0 ≤ (0 : Int32).toInt by decide, show (0 : Int32).toInt ≤ 2 by decide, hIσ, Fr_r⟩ (by unfold K9; decide))
  obtain ⟨c, τ⟩ := s
  obtain ⟨hn, h0, h1, jI, jF⟩ := hs
  dsimp only at hn h0 h1 jI jF ⊢
  have l2 : (2 : Int32).toInt = 2 := by decide
  unfold bX0_writePair_49_2
  refine ok_ite.mpr ⟨fun _ => ok_some.mpr ⟨jI, jF⟩, fun h => ok_nm.mpr ?_⟩
  have hc := q_gt h
  have e1 : (c + 1).toInt = c.toInt + 1 := i_inc (by omega) h1 (by decide)
  rw [show K9 = 1048571 + 1 + 1 + 1 + 1 + 1 from rfl]
  refine ok_lpcS ?_
  refine w9_wb49 (σ := σ) (ρ := τ) (a := 24) jI jF h0p2 h1p2 h0 (by omega) (by decide) (fun u1 i1 f1 => ok_lpcS ?_)
  refine w9_wb49 (σ := σ) (ρ := u1) (a := 24 + (-8)) i1 f1 h0p2 h1p2 h0 (by omega) (by decide) (fun u2 i2 f2 => ok_lpcS ?_)
  refine w9_wb49 (σ := σ) (ρ := u2) (a := 24 + (-8) + (-8)) i2 f2 h0p2 h1p2 h0 (by omega) (by decide) (fun u3 i3 f3 => ok_lpcS ?_)
  refine w9_wb49 (σ := σ) (ρ := u3) (a := 24 + (-8) + (-8) + (-8)) i3 f3 h0p2 h1p2 h0 (by omega) (by decide) (fun u4 i4 f4 => ok_lpcS ?_)
  show Ok (bX0_writePair_49_11 τ p2 c _ _ (24 + (-8) + (-8) + (-8) + (-8)) u4) _
  unfold bX0_writePair_49_11
  refine ok_ite.mpr ⟨fun _ => ok_nm.mpr ?_, fun h => absurd (by decide) h⟩
  exact hrec (2 - (c + 1).toInt).toNat (c + 1, u4) (by omega) ⟨rfl, show 0 ≤ (c + 1).toInt by omega, show (c + 1).toInt ≤ 2 by omega, i4, f4⟩
set_option maxRecDepth 20000 in
set_option maxHeartbeats 2000000 in
theorem o_fX0_write_47 {σ : gS} (hIσ : JC σ)   : Ok (fX0_write_47 σ ) (fun out => JC out.2 ∧ Fr fr_fX0_write_47 σ out.2 ∧ 0 ≤ out.1.toInt ∧ out.1.toInt ≤ 378) := by
  unfold fX0_write_47
  have hfσ : Fr fr_fX0_write_47 σ σ := Fr_r
  have f1 : 0 ≤ (σ.1 197 2).toInt ∧ (σ.1 197 2).toInt ≤ 378 := hIσ 197 2
  refine ok_nm2 (fun σ1 eσ1 => ?_)
  have f2 : (0 : Int32).toInt = 0 := by decide
  have hIσ1 : JC σ1 := by rw [eσ1]; exact JC_w hIσ (show 0 ≤ _ by omega) (show _ ≤ 378 by omega)
  have hfσ1 : Fr fr_fX0_write_47 σ σ1 := by rw [eσ1]; exact Fr_w hfσ (by decide)
  have sσ1_47_1 : (σ1.1 47 1).toInt = (σ.1 47 1).toInt := by rw [eσ1]; rfl
  have sσ1_197_2 : (σ1.1 197 2).toInt = (0 : Int32).toInt := by rw [eσ1]; rfl
  refine ok_bd.mpr ((o_fX0_writeByte hIσ1 (p1 := (σ1.1 47 1)) ).mono (fun σ3 ho_4 => ?_))
  obtain ⟨hIσ3, hcσ3⟩ := ho_4
  have hfσ3 : Fr fr_fX0_write_47 σ σ3 := Fr_c hfσ1 hcσ3 (by decide)
  have sσ3_47_1 : (σ3.1 47 1).toInt = (σ1.1 47 1).toInt := by rw [(hcσ3 47 1 (by decide) (by decide)).1]
  refine ok_nm2 (fun x4 ex4 => ?_)
  have qx4 : x4.toInt = 0 := by rw [ex4]; decide
  refine ok_lpc (I := fun n s => n = (12 + 1 - s.1.toInt).toNat ∧ JC s.2 ∧ Fr fr_fX0_write_47 σ s.2 ∧ 0 ≤ s.1.toInt ∧ s.1.toInt ≤ 12) (fun rec15_1r n_1 s_1 hs_1 hrec_1 => ?_) K9 ((12 + 1 - x4.toInt).toNat) (x4, σ3) ⟨rfl, hIσ3, hfσ3, (show 0 ≤ x4.toInt by omega), (show x4.toInt ≤ 12 by omega)⟩ (by unfold K9; omega)
  obtain ⟨a2_1, σ1_1⟩ := s_1
  obtain ⟨hn_1, hIσ1_1, hfσ1_1, b0a2_1, b1a2_1⟩ := hs_1
  dsimp only at hn_1 hIσ1_1 hfσ1_1 b0a2_1 b1a2_1
  unfold bX0_write_47_15
  try dsimp only
  have f5 : (1 : Int32).toInt = 1 := by decide
  refine ok_gd.mpr ⟨gb_of (by omega) (by omega), ?_⟩
  refine ok_nm2 (fun v5_2 ev5_2 => ?_)
  have f6 : 0 ≤ (σ1_1.1 3 1).toInt ∧ (σ1_1.1 3 1).toInt ≤ 12 := hIσ1_1 3 1
  have qv5_2 : v5_2.toInt = (σ1_1.1 3 1).toInt := congrArg Int32.toInt ev5_2
  refine ok_ite.mpr ⟨fun h_7 => ?_, fun h_7 => ?_⟩
  · have g8 : v5_2.toInt ≤ a2_1.toInt := Int32.le_iff_toInt_le.mp h_7
    refine ok_nm2 (fun x7_2 ex7_2 => ?_)
    have qx7_2 : x7_2.toInt = 0 := by rw [ex7_2]; decide
    refine ok_lpc (I := fun n s => n = (20 + 1 - s.1.toInt).toNat ∧ JC s.2 ∧ Fr fr_fX0_write_47 σ s.2 ∧ 0 ≤ s.1.toInt ∧ s.1.toInt ≤ 20) (fun rec55_3r n_3 s_3 hs_3 hrec_3 => ?_) K9 ((20 + 1 - x7_2.toInt).toNat) (x7_2, σ1_1) ⟨rfl, hIσ1_1, hfσ1_1, (show 0 ≤ x7_2.toInt by omega), (show x7_2.toInt ≤ 20 by omega)⟩ (by unfold K9; omega)
    obtain ⟨a2_3, σ1_3⟩ := s_3
    obtain ⟨hn_3, hIσ1_3, hfσ1_3, b0a2_3, b1a2_3⟩ := hs_3
    dsimp only at hn_3 hIσ1_3 hfσ1_3 b0a2_3 b1a2_3
    unfold bX0_write_47_55
    try dsimp only
    have f9 : (2 : Int32).toInt = 2 := by decide
    refine ok_gd.mpr ⟨gb_of (by omega) (by omega), ?_⟩
    refine ok_nm2 (fun v8_4 ev8_4 => ?_)
    have f10 : 0 ≤ (σ1_3.1 3 2).toInt ∧ (σ1_3.1 3 2).toInt ≤ 20 := hIσ1_3 3 2
    have qv8_4 : v8_4.toInt = (σ1_3.1 3 2).toInt := congrArg Int32.toInt ev8_4
    refine ok_ite.mpr ⟨fun h_11 => ?_, fun h_11 => ?_⟩
    · have g12 : v8_4.toInt ≤ a2_3.toInt := Int32.le_iff_toInt_le.mp h_11
      refine ok_nm2 (fun x10_4 ex10_4 => ?_)
      have qx10_4 : x10_4.toInt = 0 := by rw [ex10_4]; decide
      refine ok_lpc (I := fun n s => n = (6 + 1 - s.1.toInt).toNat ∧ JC s.2 ∧ Fr fr_fX0_write_47 σ s.2 ∧ 0 ≤ s.1.toInt ∧ s.1.toInt ≤ 6) (fun rec85_5r n_5 s_5 hs_5 hrec_5 => ?_) K9 ((6 + 1 - x10_4.toInt).toNat) (x10_4, σ1_3) ⟨rfl, hIσ1_3, hfσ1_3, (show 0 ≤ x10_4.toInt by omega), (show x10_4.toInt ≤ 6 by omega)⟩ (by unfold K9; omega)
      obtain ⟨a2_5, σ1_5⟩ := s_5
      obtain ⟨hn_5, hIσ1_5, hfσ1_5, b0a2_5, b1a2_5⟩ := hs_5
      dsimp only at hn_5 hIσ1_5 hfσ1_5 b0a2_5 b1a2_5
      unfold bX0_write_47_85
      try dsimp only
      refine ok_gd.mpr ⟨gb_of (by omega) (by omega), ?_⟩
      refine ok_nm2 (fun v11_6 ev11_6 => ?_)
      have f13 : 0 ≤ (σ1_5.1 3 0).toInt ∧ (σ1_5.1 3 0).toInt ≤ 6 := hIσ1_5 3 0
      have qv11_6 : v11_6.toInt = (σ1_5.1 3 0).toInt := congrArg Int32.toInt ev11_6
      refine ok_ite.mpr ⟨fun h_14 => ?_, fun h_14 => ?_⟩
      · have g15 : v11_6.toInt ≤ a2_5.toInt := Int32.le_iff_toInt_le.mp h_14
        refine ok_nm2 (fun x13_6 ex13_6 => ?_)
        have qx13_6 : x13_6.toInt = 0 := by rw [ex13_6]; decide
        refine ok_lpc (I := fun n s => n = (60 + 1 - s.1.toInt).toNat ∧ JC s.2 ∧ Fr fr_fX0_write_47 σ s.2 ∧ 0 ≤ s.1.toInt ∧ s.1.toInt ≤ 60) (fun rec115_7r n_7 s_7 hs_7 hrec_7 => ?_) K9 ((60 + 1 - x13_6.toInt).toNat) (x13_6, σ1_5) ⟨rfl, hIσ1_5, hfσ1_5, (show 0 ≤ x13_6.toInt by omega), (show x13_6.toInt ≤ 60 by omega)⟩ (by unfold K9; omega)
        obtain ⟨a2_7, σ1_7⟩ := s_7
        obtain ⟨hn_7, hIσ1_7, hfσ1_7, b0a2_7, b1a2_7⟩ := hs_7
        dsimp only at hn_7 hIσ1_7 hfσ1_7 b0a2_7 b1a2_7
        unfold bX0_write_47_115
        try dsimp only
        have f16 : (3 : Int32).toInt = 3 := by decide
        refine ok_gd.mpr ⟨gb_of (by omega) (by omega), ?_⟩
        refine ok_nm2 (fun v14_8 ev14_8 => ?_)
        have f17 : 0 ≤ (σ1_7.1 3 3).toInt ∧ (σ1_7.1 3 3).toInt ≤ 60 := hIσ1_7 3 3
        have qv14_8 : v14_8.toInt = (σ1_7.1 3 3).toInt := congrArg Int32.toInt ev14_8
        refine ok_ite.mpr ⟨fun h_18 => ?_, fun h_18 => ?_⟩
        · have g19 : v14_8.toInt ≤ a2_7.toInt := Int32.le_iff_toInt_le.mp h_18
          have f20 : 0 ≤ (σ1_7.1 197 2).toInt ∧ (σ1_7.1 197 2).toInt ≤ 378 := hIσ1_7 197 2
          refine ok_bd.mpr ((o_fX0_check hIσ1_7 (p0 := 198) (p1 := (σ1_7.1 197 2)) (by decide) (by decide) (by omega) (by omega) (by omega)).mono (fun r17_8 ho_22 => ?_))
          refine ok_bd.mpr ((o_fX0_writeByte hIσ1_7 (p1 := r17_8) ).mono (fun σ19_8 ho_24 => ?_))
          obtain ⟨hIσ19_8, hcσ19_8⟩ := ho_24
          have hfσ19_8 : Fr fr_fX0_write_47 σ σ19_8 := Fr_c hfσ1_7 hcσ19_8 (by decide)
          have sσ19_8_47_1 : (σ19_8.1 47 1).toInt = (σ1_7.1 47 1).toInt := by rw [(hcσ19_8 47 1 (by decide) (by decide)).1]
          refine ok_some.mpr ?_
          have f25 : 0 ≤ (σ19_8.1 197 2).toInt ∧ (σ19_8.1 197 2).toInt ≤ 378 := hIσ19_8 197 2
          exact ⟨hIσ19_8, hfσ19_8, (show 0 ≤ (σ19_8.1 197 2).toInt by omega), (show (σ19_8.1 197 2).toInt ≤ 378 by omega)⟩
        · have g26 : ¬ v14_8.toInt ≤ a2_7.toInt := fun z => h_18 (Int32.le_iff_toInt_le.mpr z)
          refine ok_gd.mpr ⟨gb_of (by omega) (by omega), ?_⟩
          refine ok_nm2 (fun v20_8 ev20_8 => ?_)
          have qv20_8 : v20_8.toInt = (σ1_7.1 58 a2_7.toNatClampNeg).toInt := congrArg Int32.toInt ev20_8
          refine ok_bd.mpr ((o_fX0_writeByte hIσ1_7 (p1 := v20_8) ).mono (fun σ22_8 ho_28 => ?_))
          obtain ⟨hIσ22_8, hcσ22_8⟩ := ho_28
          have hfσ22_8 : Fr fr_fX0_write_47 σ σ22_8 := Fr_c hfσ1_7 hcσ22_8 (by decide)
          have sσ22_8_47_1 : (σ22_8.1 47 1).toInt = (σ1_7.1 47 1).toInt := by rw [(hcσ22_8 47 1 (by decide) (by decide)).1]
          refine ok_nm2 (fun x23_8 ex23_8 => ?_)
          have f29 : (a2_7 + (1 : Int32)).toInt = a2_7.toInt + (1 : Int32).toInt := iadd_toInt (by omega) (by omega)
          have qx23_8 : x23_8.toInt = (a2_7 + 1).toInt := congrArg Int32.toInt ex23_8
          exact hrec_7 _ (x23_8, σ22_8) (show (60 + 1 - x23_8.toInt).toNat < n_7 by omega) ⟨rfl, hIσ22_8, hfσ22_8, (show 0 ≤ x23_8.toInt by omega), (show x23_8.toInt ≤ 60 by omega)⟩
      · have g30 : ¬ v11_6.toInt ≤ a2_5.toInt := fun z => h_14 (Int32.le_iff_toInt_le.mpr z)
        refine ok_bd.mpr ((o_fX0_writePair_55 hIσ1_5 (p2 := a2_5) (by omega) (by omega)).mono (fun σ25_6 ho_32 => ?_))
        obtain ⟨hIσ25_6, hcσ25_6⟩ := ho_32
        have hfσ25_6 : Fr fr_fX0_write_47 σ σ25_6 := Fr_c hfσ1_5 hcσ25_6 (by decide)
        have sσ25_6_47_1 : (σ25_6.1 47 1).toInt = (σ1_5.1 47 1).toInt := by rw [(hcσ25_6 47 1 (by decide) (by decide)).1]
        refine ok_nm2 (fun x26_6 ex26_6 => ?_)
        have f33 : (a2_5 + (1 : Int32)).toInt = a2_5.toInt + (1 : Int32).toInt := iadd_toInt (by omega) (by omega)
        have qx26_6 : x26_6.toInt = (a2_5 + 1).toInt := congrArg Int32.toInt ex26_6
        exact hrec_5 _ (x26_6, σ25_6) (show (6 + 1 - x26_6.toInt).toNat < n_5 by omega) ⟨rfl, hIσ25_6, hfσ25_6, (show 0 ≤ x26_6.toInt by omega), (show x26_6.toInt ≤ 6 by omega)⟩
    · have g34 : ¬ v8_4.toInt ≤ a2_3.toInt := fun z => h_11 (Int32.le_iff_toInt_le.mpr z)
      refine ok_bd.mpr ((o_fX0_writePair_52 hIσ1_3 (p2 := a2_3) (by omega) (by omega)).mono (fun σ28_4 ho_36 => ?_))
      obtain ⟨hIσ28_4, hcσ28_4⟩ := ho_36
      have hfσ28_4 : Fr fr_fX0_write_47 σ σ28_4 := Fr_c hfσ1_3 hcσ28_4 (by decide)
      have sσ28_4_47_1 : (σ28_4.1 47 1).toInt = (σ1_3.1 47 1).toInt := by rw [(hcσ28_4 47 1 (by decide) (by decide)).1]
      refine ok_nm2 (fun x29_4 ex29_4 => ?_)
      have f37 : (a2_3 + (1 : Int32)).toInt = a2_3.toInt + (1 : Int32).toInt := iadd_toInt (by omega) (by omega)
      have qx29_4 : x29_4.toInt = (a2_3 + 1).toInt := congrArg Int32.toInt ex29_4
      exact hrec_3 _ (x29_4, σ28_4) (show (20 + 1 - x29_4.toInt).toNat < n_3 by omega) ⟨rfl, hIσ28_4, hfσ28_4, (show 0 ≤ x29_4.toInt by omega), (show x29_4.toInt ≤ 20 by omega)⟩
  · have g38 : ¬ v5_2.toInt ≤ a2_1.toInt := fun z => h_7 (Int32.le_iff_toInt_le.mpr z)
    refine ok_gd.mpr ⟨gb_of (by omega) (by omega), ?_⟩
    refine ok_nm2 (fun v30_2 ev30_2 => ?_)
    have qv30_2 : v30_2.toInt = (σ1_1.1 48 a2_1.toNatClampNeg).toInt := congrArg Int32.toInt ev30_2
    refine ok_bd.mpr ((o_fX0_writeByte hIσ1_1 (p1 := v30_2) ).mono (fun σ32_2 ho_40 => ?_))
    obtain ⟨hIσ32_2, hcσ32_2⟩ := ho_40
    have hfσ32_2 : Fr fr_fX0_write_47 σ σ32_2 := Fr_c hfσ1_1 hcσ32_2 (by decide)
    have sσ32_2_47_1 : (σ32_2.1 47 1).toInt = (σ1_1.1 47 1).toInt := by rw [(hcσ32_2 47 1 (by decide) (by decide)).1]
    refine ok_bd.mpr ((o_fX0_writePair_49 hIσ32_2 (p2 := a2_1) (by omega) (by omega)).mono (fun σ34_2 ho_42 => ?_))
    obtain ⟨hIσ34_2, hcσ34_2⟩ := ho_42
    have hfσ34_2 : Fr fr_fX0_write_47 σ σ34_2 := Fr_c hfσ32_2 hcσ34_2 (by decide)
    have sσ34_2_47_1 : (σ34_2.1 47 1).toInt = (σ32_2.1 47 1).toInt := by rw [(hcσ34_2 47 1 (by decide) (by decide)).1]
    refine ok_nm2 (fun x35_2 ex35_2 => ?_)
    have f43 : (a2_1 + (1 : Int32)).toInt = a2_1.toInt + (1 : Int32).toInt := iadd_toInt (by omega) (by omega)
    have qx35_2 : x35_2.toInt = (a2_1 + 1).toInt := congrArg Int32.toInt ex35_2
    exact hrec_1 _ (x35_2, σ34_2) (show (12 + 1 - x35_2.toInt).toNat < n_1 by omega) ⟨rfl, hIσ34_2, hfσ34_2, (show 0 ≤ x35_2.toInt by omega), (show x35_2.toInt ≤ 12 by omega)⟩
set_option maxRecDepth 20000 in
set_option maxHeartbeats 2000000 in
theorem o_fX9_image {σ : gS} (hIσ : JC σ)   : Ok (fX9_image σ ) (fun out => JC out.2 ∧ Fr fr_fX9_image σ out.2 ∧ 0 ≤ out.1.toInt ∧ out.1.toInt ≤ 378) := by
  unfold fX9_image
  have hfσ : Fr fr_fX9_image σ σ := Fr_r
  refine ok_bd2.mpr ((o_fX0_write_47 hIσ  ).mono (fun o_1 ho_2 => ?_))
  obtain ⟨r2, σ3⟩ := o_1
  obtain ⟨hIσ3, hcσ3, r0r2, r1r2⟩ := ho_2
  dsimp only at hIσ3 hcσ3 r0r2 r1r2 ⊢
  have hfσ3 : Fr fr_fX9_image σ σ3 := Fr_c hfσ hcσ3 (by decide)
  refine ok_some.mpr ?_
  exact ⟨hIσ3, hfσ3, (show 0 ≤ r2.toInt by omega), (show r2.toInt ≤ 378 by omega)⟩
set_option maxRecDepth 20000 in
set_option maxHeartbeats 2000000 in
theorem o_fX9_octet {σ : gS} (hIσ : JC σ) {p1 : Int32}  : Ok (fX9_octet σ p1) (fun _ => True) := by
  unfold fX9_octet
  have f1 : 0 ≤ (σ.1 197 2).toInt ∧ (σ.1 197 2).toInt ≤ 378 := hIσ 197 2
  refine ok_ite.mpr ⟨fun h_2 => ?_, fun h_2 => ?_⟩
  · have f3 : (0 : Int32).toInt = 0 := by decide
    have g4 : p1.toInt < (0 : Int32).toInt := Int32.lt_iff_toInt_lt.mp h_2
    refine ok_some.mpr ?_
    have f5 : (-1 : Int32).toInt = -1 := by decide
    exact trivial
  · have f6 : (0 : Int32).toInt = 0 := by decide
    have g7 : ¬ p1.toInt < (0 : Int32).toInt := fun z => h_2 (Int32.lt_iff_toInt_lt.mpr z)
    refine ok_ite.mpr ⟨fun h_8 => ?_, fun h_8 => ?_⟩
    · have g9 : p1.toInt < (σ.1 197 2).toInt := Int32.lt_iff_toInt_lt.mp h_8
      refine ok_gd.mpr ⟨gb_of (by omega) (by omega), ?_⟩
      refine ok_nm2 (fun v3 ev3 => ?_)
      have qv3 : v3.toInt = (σ.1 198 p1.toNatClampNeg).toInt := congrArg Int32.toInt ev3
      refine ok_some.mpr ?_
      exact trivial
    · have g10 : ¬ p1.toInt < (σ.1 197 2).toInt := fun z => h_8 (Int32.lt_iff_toInt_lt.mpr z)
      refine ok_some.mpr ?_
      have f11 : (-1 : Int32).toInt = -1 := by decide
      exact trivial
set_option maxRecDepth 20000 in
set_option maxHeartbeats 2000000 in
theorem o_fX0_dueLength {σ : gS} (hIσ : JC σ)   : Ok (fX0_dueLength σ ) (fun out => 2 ≤ out.toInt ∧ out.toInt ≤ 378) := by
  unfold fX0_dueLength
  have f1 : (1 : Int32).toInt = 1 := by decide
  refine ok_gd.mpr ⟨gb_of (by omega) (by omega), ?_⟩
  refine ok_nm2 (fun v1 ev1 => ?_)
  have f2 : 0 ≤ (σ.1 3 1).toInt ∧ (σ.1 3 1).toInt ≤ 12 := hIσ 3 1
  have qv1 : v1.toInt = (σ.1 3 1).toInt := congrArg Int32.toInt ev1
  have f3 : (2 : Int32).toInt = 2 := by decide
  refine ok_gd.mpr ⟨gb_of (by omega) (by omega), ?_⟩
  refine ok_nm2 (fun v2 ev2 => ?_)
  have f4 : 0 ≤ (σ.1 3 2).toInt ∧ (σ.1 3 2).toInt ≤ 20 := hIσ 3 2
  have qv2 : v2.toInt = (σ.1 3 2).toInt := congrArg Int32.toInt ev2
  have f5 : (0 : Int32).toInt = 0 := by decide
  refine ok_gd.mpr ⟨gb_of (by omega) (by omega), ?_⟩
  refine ok_nm2 (fun v3 ev3 => ?_)
  have f6 : 0 ≤ (σ.1 3 0).toInt ∧ (σ.1 3 0).toInt ≤ 6 := hIσ 3 0
  have qv3 : v3.toInt = (σ.1 3 0).toInt := congrArg Int32.toInt ev3
  have f7 : (3 : Int32).toInt = 3 := by decide
  refine ok_gd.mpr ⟨gb_of (by omega) (by omega), ?_⟩
  refine ok_nm2 (fun v4 ev4 => ?_)
  have f8 : 0 ≤ (σ.1 3 3).toInt ∧ (σ.1 3 3).toInt ≤ 60 := hIσ 3 3
  have qv4 : v4.toInt = (σ.1 3 3).toInt := congrArg Int32.toInt ev4
  refine ok_some.mpr ?_
  have f9 : (9 : Int32).toInt = 9 := by decide
  have f10 : ((9 : Int32) * v1).toInt = 9 * v1.toInt := imulc (by decide) (by omega) (by omega)
  have f11 : ((2 : Int32) + (9 * v1)).toInt = (2 : Int32).toInt + (9 * v1).toInt := iadd_toInt (by omega) (by omega)
  have f12 : (8 : Int32).toInt = 8 := by decide
  have f13 : ((8 : Int32) * v2).toInt = 8 * v2.toInt := imulc (by decide) (by omega) (by omega)
  have f14 : ((2 + (9 * v1)) + (8 * v2)).toInt = (2 + (9 * v1)).toInt + (8 * v2).toInt := iadd_toInt (by omega) (by omega)
  have f15 : ((8 : Int32) * v3).toInt = 8 * v3.toInt := imulc (by decide) (by omega) (by omega)
  have f16 : (((2 + (9 * v1)) + (8 * v2)) + (8 * v3)).toInt = ((2 + (9 * v1)) + (8 * v2)).toInt + (8 * v3).toInt := iadd_toInt (by omega) (by omega)
  have f17 : ((((2 + (9 * v1)) + (8 * v2)) + (8 * v3)) + v4).toInt = (((2 + (9 * v1)) + (8 * v2)) + (8 * v3)).toInt + v4.toInt := iadd_toInt (by omega) (by omega)
  exact ⟨(show 2 ≤ ((((2 + (9 * v1)) + (8 * v2)) + (8 * v3)) + v4).toInt by omega), (show ((((2 + (9 * v1)) + (8 * v2)) + (8 * v3)) + v4).toInt ≤ 378 by omega)⟩
set_option maxRecDepth 20000 in
set_option maxHeartbeats 2000000 in
theorem o_fX0_takePair_79 {σ : gS} (hIσ : JC σ) {p1 : Nat} {p3 : Int32} (h0p1 : 1 ≤ p1) (h1p1 : p1 ≤ 1) (h0p3 : 0 ≤ p3.toInt) (h1p3 : p3.toInt ≤ 5) (pre0 : (σ.1 197 3).toInt ≤ 1592) : Ok (fX0_takePair_79 σ p1 p3) (fun out => JC out ∧ Fr fr_fX0_takePair_79 σ out ∧ (out.1 197 3).toInt = (σ.1 197 3).toInt + 8) := by
  unfold fX0_takePair_79
  have hfσ : Fr fr_fX0_takePair_79 σ σ := Fr_r
  have f1 : 0 ≤ (σ.1 197 3).toInt ∧ (σ.1 197 3).toInt ≤ 1600 := hIσ 197 3
  refine ok_nm2 (fun x1 ex1 => ?_)
  have f2 : (0 : Int32).toInt = 0 := by decide
  have qx1 : x1.toInt = 0 := by rw [ex1]; decide
  refine ok_lpc (I := fun n s => n = (3 + 1 - s.1.toInt).toNat ∧ JC s.2 ∧ Fr fr_fX0_takePair_79 σ s.2 ∧ 0 ≤ s.1.toInt ∧ s.1.toInt ≤ 3 ∧ ((s.1.toInt = 0 ∧ (s.2.1 197 3).toInt = (σ.1 197 3).toInt) ∨ (s.1.toInt = 1 ∧ (s.2.1 197 3).toInt = (σ.1 197 3).toInt + 4) ∨ (s.1.toInt = 2 ∧ (s.2.1 197 3).toInt = (σ.1 197 3).toInt + 8))) (fun rec3_1r n_1 s_1 hs_1 hrec_1 => ?_) K9 ((3 + 1 - x1.toInt).toNat) (x1, σ) ⟨rfl, hIσ, hfσ, (show 0 ≤ x1.toInt by omega), (show x1.toInt ≤ 3 by omega), (show (x1.toInt = 0 ∧ (σ.1 197 3).toInt = (σ.1 197 3).toInt) ∨ (x1.toInt = 1 ∧ (σ.1 197 3).toInt = (σ.1 197 3).toInt + 4) ∨ (x1.toInt = 2 ∧ (σ.1 197 3).toInt = (σ.1 197 3).toInt + 8) by omega)⟩ (by unfold K9; omega)
  obtain ⟨a4_1, σ1_1⟩ := s_1
  obtain ⟨hn_1, hIσ1_1, hfσ1_1, b0a4_1, b1a4_1, iv0_1⟩ := hs_1
  dsimp only at hn_1 hIσ1_1 hfσ1_1 b0a4_1 b1a4_1 iv0_1
  unfold bX0_takePair_79_3
  try dsimp only
  refine ok_ite.mpr ⟨fun h_3 => ?_, fun h_3 => ?_⟩
  · have f4 : (2 : Int32).toInt = 2 := by decide
    have g5 : (2 : Int32).toInt ≤ a4_1.toInt := Int32.le_iff_toInt_le.mp h_3
    refine ok_some.mpr ?_
    exact ⟨hIσ1_1, hfσ1_1, (show (σ1_1.1 197 3).toInt = (σ.1 197 3).toInt + 8 by omega)⟩
  · have f6 : (2 : Int32).toInt = 2 := by decide
    have g7 : ¬ (2 : Int32).toInt ≤ a4_1.toInt := fun z => h_3 (Int32.le_iff_toInt_le.mpr z)
    refine ok_nm2 (fun x3_2 ex3_2 => ?_)
    have qx3_2 : x3_2.toInt = 0 := by rw [ex3_2]; decide
    refine ok_nm2 (fun x4_2 ex4_2 => ?_)
    have qx4_2 : x4_2.toInt = 0 := by rw [ex4_2]; decide
    refine ok_lpc (I := fun n s => n = (4 + 1 - s.2.toInt).toNat ∧ 0 ≤ s.2.toInt ∧ s.2.toInt ≤ 4) (fun rec15_5r n_5 s_5 hs_5 hrec_5 => ?_) K9 ((4 + 1 - x4_2.toInt).toNat) (x3_2, x4_2) ⟨rfl, (show 0 ≤ x4_2.toInt by omega), (show x4_2.toInt ≤ 4 by omega)⟩ (by unfold K9; omega)
    obtain ⟨a5_5, a6_5⟩ := s_5
    obtain ⟨hn_5, b0a6_5, b1a6_5⟩ := hs_5
    dsimp only at hn_5 b0a6_5 b1a6_5
    unfold bX0_takePair_79_15
    try dsimp only
    refine ok_ite.mpr ⟨fun h_8 => ?_, fun h_8 => ?_⟩
    · have f9 : (4 : Int32).toInt = 4 := by decide
      have g10 : (4 : Int32).toInt ≤ a6_5.toInt := Int32.le_iff_toInt_le.mp h_8
      refine ok_gd.mpr ⟨gb_of (by omega) (by omega), ?_⟩
      refine ok_gd.mpr ⟨gb_of (by omega) (by omega), ?_⟩
      refine ok_nm2 (fun σ7_6 eσ7_6 => ?_)
      have f11 : a4_1.toNatClampNeg = a4_1.toInt.toNat := rfl
      have hIσ7_6 : JC σ7_6 := by rw [eσ7_6]; exact JC_w80 hIσ1_1 (by omega) (by omega) (Int32.le_toInt _) (Int32.toInt_le _)
      have hfσ7_6 : Fr fr_fX0_takePair_79 σ σ7_6 := by
        have hj : (80 + a4_1.toNatClampNeg) = 80 ∨ (80 + a4_1.toNatClampNeg) = 81 := by omega
        rw [eσ7_6]; exact Fr_w0 hfσ1_1 (by rcases hj with hj | hj <;> rw [hj] <;> decide)
      have sσ7_6_0_0 : (σ7_6.1 0 0).toInt = (σ1_1.1 0 0).toInt := by rw [eσ7_6, gsI_1, if_neg (by omega)]
      have sσ7_6_197_3 : (σ7_6.1 197 3).toInt = (σ1_1.1 197 3).toInt := by rw [eσ7_6, gsI_1, if_neg (by omega)]
      refine ok_nm2 (fun σ8_6 eσ8_6 => ?_)
      have f12 : 0 ≤ (σ7_6.1 197 3).toInt ∧ (σ7_6.1 197 3).toInt ≤ 1600 := hIσ7_6 197 3
      have f13 : ((σ7_6.1 197 3) + (4 : Int32)).toInt = (σ7_6.1 197 3).toInt + (4 : Int32).toInt := iadd_toInt (by omega) (by omega)
      have hIσ8_6 : JC σ8_6 := by rw [eσ8_6]; exact JC_w hIσ7_6 (show 0 ≤ _ by omega) (show _ ≤ 1600 by omega)
      have hfσ8_6 : Fr fr_fX0_takePair_79 σ σ8_6 := by rw [eσ8_6]; exact Fr_w hfσ7_6 (by decide)
      have sσ8_6_0_0 : (σ8_6.1 0 0).toInt = (σ7_6.1 0 0).toInt := by rw [eσ8_6]; rfl
      have sσ8_6_197_3 : (σ8_6.1 197 3).toInt = ((σ7_6.1 197 3) + 4).toInt := by rw [eσ8_6]; rfl
      refine ok_nm2 (fun x9_6 ex9_6 => ?_)
      have f14 : (1 : Int32).toInt = 1 := by decide
      have f15 : (a4_1 + (1 : Int32)).toInt = a4_1.toInt + (1 : Int32).toInt := iadd_toInt (by omega) (by omega)
      have qx9_6 : x9_6.toInt = (a4_1 + 1).toInt := congrArg Int32.toInt ex9_6
      have f16 : 0 ≤ (σ8_6.1 197 3).toInt ∧ (σ8_6.1 197 3).toInt ≤ 1600 := hIσ8_6 197 3
      exact hrec_1 _ (x9_6, σ8_6) (show (3 + 1 - x9_6.toInt).toNat < n_1 by omega) ⟨rfl, hIσ8_6, hfσ8_6, (show 0 ≤ x9_6.toInt by omega), (show x9_6.toInt ≤ 3 by omega), (show (x9_6.toInt = 0 ∧ (σ8_6.1 197 3).toInt = (σ.1 197 3).toInt) ∨ (x9_6.toInt = 1 ∧ (σ8_6.1 197 3).toInt = (σ.1 197 3).toInt + 4) ∨ (x9_6.toInt = 2 ∧ (σ8_6.1 197 3).toInt = (σ.1 197 3).toInt + 8) by omega)⟩
    · have f17 : (4 : Int32).toInt = 4 := by decide
      have g18 : ¬ (4 : Int32).toInt ≤ a6_5.toInt := fun z => h_8 (Int32.le_iff_toInt_le.mpr z)
      have f19 : 0 ≤ (σ1_1.1 197 3).toInt ∧ (σ1_1.1 197 3).toInt ≤ 1600 := hIσ1_1 197 3
      have f20 : ((σ1_1.1 197 3) + a6_5).toInt = (σ1_1.1 197 3).toInt + a6_5.toInt := iadd_toInt (by omega) (by omega)
      have f21 : 1600 ≤ (gsz zC.1 0 0 p1) ∧ (gsz zC.1 0 0 p1) ≤ 1600 := by
        have hj : p1 = 1 := by omega
        rcases hj with hj <;> rw [hj] <;> decide
      refine ok_gd.mpr ⟨gb_of (by omega) (by omega), ?_⟩
      refine ok_nm2 (fun v10_6 ev10_6 => ?_)
      have qv10_6 : v10_6.toInt = (σ1_1.1 p1 ((σ1_1.1 197 3) + a6_5).toNatClampNeg).toInt := congrArg Int32.toInt ev10_6
      refine ok_nm2 (fun x11_6 ex11_6 => ?_)
      have qx11_6 : x11_6.toInt = ((a5_5 <<< (8 &&& 31)) ||| v10_6).toInt := congrArg Int32.toInt ex11_6
      refine ok_nm2 (fun x12_6 ex12_6 => ?_)
      have f22 : (1 : Int32).toInt = 1 := by decide
      have f23 : (a6_5 + (1 : Int32)).toInt = a6_5.toInt + (1 : Int32).toInt := iadd_toInt (by omega) (by omega)
      have qx12_6 : x12_6.toInt = (a6_5 + 1).toInt := congrArg Int32.toInt ex12_6
      exact hrec_5 _ (x11_6, x12_6) (show (4 + 1 - x12_6.toInt).toNat < n_5 by omega) ⟨rfl, (show 0 ≤ x12_6.toInt by omega), (show x12_6.toInt ≤ 4 by omega)⟩
set_option maxRecDepth 20000 in
set_option maxHeartbeats 2000000 in
theorem o_fX0_takePair_76 {σ : gS} (hIσ : JC σ) {p1 : Nat} {p3 : Int32} (h0p1 : 1 ≤ p1) (h1p1 : p1 ≤ 1) (h0p3 : 0 ≤ p3.toInt) (h1p3 : p3.toInt ≤ 19) (pre0 : (σ.1 197 3).toInt ≤ 1592) : Ok (fX0_takePair_76 σ p1 p3) (fun out => JC out ∧ Fr fr_fX0_takePair_76 σ out ∧ (out.1 197 3).toInt = (σ.1 197 3).toInt + 8) := by
  unfold fX0_takePair_76
  have hfσ : Fr fr_fX0_takePair_76 σ σ := Fr_r
  have f1 : 0 ≤ (σ.1 197 3).toInt ∧ (σ.1 197 3).toInt ≤ 1600 := hIσ 197 3
  refine ok_nm2 (fun x1 ex1 => ?_)
  have f2 : (0 : Int32).toInt = 0 := by decide
  have qx1 : x1.toInt = 0 := by rw [ex1]; decide
  refine ok_lpc (I := fun n s => n = (3 + 1 - s.1.toInt).toNat ∧ JC s.2 ∧ Fr fr_fX0_takePair_76 σ s.2 ∧ 0 ≤ s.1.toInt ∧ s.1.toInt ≤ 3 ∧ ((s.1.toInt = 0 ∧ (s.2.1 197 3).toInt = (σ.1 197 3).toInt) ∨ (s.1.toInt = 1 ∧ (s.2.1 197 3).toInt = (σ.1 197 3).toInt + 4) ∨ (s.1.toInt = 2 ∧ (s.2.1 197 3).toInt = (σ.1 197 3).toInt + 8))) (fun rec3_1r n_1 s_1 hs_1 hrec_1 => ?_) K9 ((3 + 1 - x1.toInt).toNat) (x1, σ) ⟨rfl, hIσ, hfσ, (show 0 ≤ x1.toInt by omega), (show x1.toInt ≤ 3 by omega), (show (x1.toInt = 0 ∧ (σ.1 197 3).toInt = (σ.1 197 3).toInt) ∨ (x1.toInt = 1 ∧ (σ.1 197 3).toInt = (σ.1 197 3).toInt + 4) ∨ (x1.toInt = 2 ∧ (σ.1 197 3).toInt = (σ.1 197 3).toInt + 8) by omega)⟩ (by unfold K9; omega)
  obtain ⟨a4_1, σ1_1⟩ := s_1
  obtain ⟨hn_1, hIσ1_1, hfσ1_1, b0a4_1, b1a4_1, iv0_1⟩ := hs_1
  dsimp only at hn_1 hIσ1_1 hfσ1_1 b0a4_1 b1a4_1 iv0_1
  unfold bX0_takePair_76_3
  try dsimp only
  refine ok_ite.mpr ⟨fun h_3 => ?_, fun h_3 => ?_⟩
  · have f4 : (2 : Int32).toInt = 2 := by decide
    have g5 : (2 : Int32).toInt ≤ a4_1.toInt := Int32.le_iff_toInt_le.mp h_3
    refine ok_some.mpr ?_
    exact ⟨hIσ1_1, hfσ1_1, (show (σ1_1.1 197 3).toInt = (σ.1 197 3).toInt + 8 by omega)⟩
  · have f6 : (2 : Int32).toInt = 2 := by decide
    have g7 : ¬ (2 : Int32).toInt ≤ a4_1.toInt := fun z => h_3 (Int32.le_iff_toInt_le.mpr z)
    refine ok_nm2 (fun x3_2 ex3_2 => ?_)
    have qx3_2 : x3_2.toInt = 0 := by rw [ex3_2]; decide
    refine ok_nm2 (fun x4_2 ex4_2 => ?_)
    have qx4_2 : x4_2.toInt = 0 := by rw [ex4_2]; decide
    refine ok_lpc (I := fun n s => n = (4 + 1 - s.2.toInt).toNat ∧ 0 ≤ s.2.toInt ∧ s.2.toInt ≤ 4) (fun rec15_5r n_5 s_5 hs_5 hrec_5 => ?_) K9 ((4 + 1 - x4_2.toInt).toNat) (x3_2, x4_2) ⟨rfl, (show 0 ≤ x4_2.toInt by omega), (show x4_2.toInt ≤ 4 by omega)⟩ (by unfold K9; omega)
    obtain ⟨a5_5, a6_5⟩ := s_5
    obtain ⟨hn_5, b0a6_5, b1a6_5⟩ := hs_5
    dsimp only at hn_5 b0a6_5 b1a6_5
    unfold bX0_takePair_76_15
    try dsimp only
    refine ok_ite.mpr ⟨fun h_8 => ?_, fun h_8 => ?_⟩
    · have f9 : (4 : Int32).toInt = 4 := by decide
      have g10 : (4 : Int32).toInt ≤ a6_5.toInt := Int32.le_iff_toInt_le.mp h_8
      refine ok_gd.mpr ⟨gb_of (by omega) (by omega), ?_⟩
      refine ok_gd.mpr ⟨gb_of (by omega) (by omega), ?_⟩
      refine ok_nm2 (fun σ7_6 eσ7_6 => ?_)
      have f11 : a4_1.toNatClampNeg = a4_1.toInt.toNat := rfl
      have hIσ7_6 : JC σ7_6 := by rw [eσ7_6]; exact JC_w77 hIσ1_1 (by omega) (by omega) (Int32.le_toInt _) (Int32.toInt_le _)
      have hfσ7_6 : Fr fr_fX0_takePair_76 σ σ7_6 := by
        have hj : (77 + a4_1.toNatClampNeg) = 77 ∨ (77 + a4_1.toNatClampNeg) = 78 := by omega
        rw [eσ7_6]; exact Fr_w0 hfσ1_1 (by rcases hj with hj | hj <;> rw [hj] <;> decide)
      have sσ7_6_0_0 : (σ7_6.1 0 0).toInt = (σ1_1.1 0 0).toInt := by rw [eσ7_6, gsI_1, if_neg (by omega)]
      have sσ7_6_197_3 : (σ7_6.1 197 3).toInt = (σ1_1.1 197 3).toInt := by rw [eσ7_6, gsI_1, if_neg (by omega)]
      refine ok_nm2 (fun σ8_6 eσ8_6 => ?_)
      have f12 : 0 ≤ (σ7_6.1 197 3).toInt ∧ (σ7_6.1 197 3).toInt ≤ 1600 := hIσ7_6 197 3
      have f13 : ((σ7_6.1 197 3) + (4 : Int32)).toInt = (σ7_6.1 197 3).toInt + (4 : Int32).toInt := iadd_toInt (by omega) (by omega)
      have hIσ8_6 : JC σ8_6 := by rw [eσ8_6]; exact JC_w hIσ7_6 (show 0 ≤ _ by omega) (show _ ≤ 1600 by omega)
      have hfσ8_6 : Fr fr_fX0_takePair_76 σ σ8_6 := by rw [eσ8_6]; exact Fr_w hfσ7_6 (by decide)
      have sσ8_6_0_0 : (σ8_6.1 0 0).toInt = (σ7_6.1 0 0).toInt := by rw [eσ8_6]; rfl
      have sσ8_6_197_3 : (σ8_6.1 197 3).toInt = ((σ7_6.1 197 3) + 4).toInt := by rw [eσ8_6]; rfl
      refine ok_nm2 (fun x9_6 ex9_6 => ?_)
      have f14 : (1 : Int32).toInt = 1 := by decide
      have f15 : (a4_1 + (1 : Int32)).toInt = a4_1.toInt + (1 : Int32).toInt := iadd_toInt (by omega) (by omega)
      have qx9_6 : x9_6.toInt = (a4_1 + 1).toInt := congrArg Int32.toInt ex9_6
      have f16 : 0 ≤ (σ8_6.1 197 3).toInt ∧ (σ8_6.1 197 3).toInt ≤ 1600 := hIσ8_6 197 3
      exact hrec_1 _ (x9_6, σ8_6) (show (3 + 1 - x9_6.toInt).toNat < n_1 by omega) ⟨rfl, hIσ8_6, hfσ8_6, (show 0 ≤ x9_6.toInt by omega), (show x9_6.toInt ≤ 3 by omega), (show (x9_6.toInt = 0 ∧ (σ8_6.1 197 3).toInt = (σ.1 197 3).toInt) ∨ (x9_6.toInt = 1 ∧ (σ8_6.1 197 3).toInt = (σ.1 197 3).toInt + 4) ∨ (x9_6.toInt = 2 ∧ (σ8_6.1 197 3).toInt = (σ.1 197 3).toInt + 8) by omega)⟩
    · have f17 : (4 : Int32).toInt = 4 := by decide
      have g18 : ¬ (4 : Int32).toInt ≤ a6_5.toInt := fun z => h_8 (Int32.le_iff_toInt_le.mpr z)
      have f19 : 0 ≤ (σ1_1.1 197 3).toInt ∧ (σ1_1.1 197 3).toInt ≤ 1600 := hIσ1_1 197 3
      have f20 : ((σ1_1.1 197 3) + a6_5).toInt = (σ1_1.1 197 3).toInt + a6_5.toInt := iadd_toInt (by omega) (by omega)
      have f21 : 1600 ≤ (gsz zC.1 0 0 p1) ∧ (gsz zC.1 0 0 p1) ≤ 1600 := by
        have hj : p1 = 1 := by omega
        rcases hj with hj <;> rw [hj] <;> decide
      refine ok_gd.mpr ⟨gb_of (by omega) (by omega), ?_⟩
      refine ok_nm2 (fun v10_6 ev10_6 => ?_)
      have qv10_6 : v10_6.toInt = (σ1_1.1 p1 ((σ1_1.1 197 3) + a6_5).toNatClampNeg).toInt := congrArg Int32.toInt ev10_6
      refine ok_nm2 (fun x11_6 ex11_6 => ?_)
      have qx11_6 : x11_6.toInt = ((a5_5 <<< (8 &&& 31)) ||| v10_6).toInt := congrArg Int32.toInt ex11_6
      refine ok_nm2 (fun x12_6 ex12_6 => ?_)
      have f22 : (1 : Int32).toInt = 1 := by decide
      have f23 : (a6_5 + (1 : Int32)).toInt = a6_5.toInt + (1 : Int32).toInt := iadd_toInt (by omega) (by omega)
      have qx12_6 : x12_6.toInt = (a6_5 + 1).toInt := congrArg Int32.toInt ex12_6
      exact hrec_5 _ (x11_6, x12_6) (show (4 + 1 - x12_6.toInt).toNat < n_5 by omega) ⟨rfl, (show 0 ≤ x12_6.toInt by omega), (show x12_6.toInt ≤ 4 by omega)⟩
set_option maxRecDepth 20000 in
set_option maxHeartbeats 2000000 in
theorem o_fX0_takePair_73 {σ : gS} (hIσ : JC σ) {p1 : Nat} {p3 : Int32} (h0p1 : 1 ≤ p1) (h1p1 : p1 ≤ 1) (h0p3 : 0 ≤ p3.toInt) (h1p3 : p3.toInt ≤ 11) (pre0 : (σ.1 197 3).toInt ≤ 1592) : Ok (fX0_takePair_73 σ p1 p3) (fun out => JC out ∧ Fr fr_fX0_takePair_73 σ out ∧ (out.1 197 3).toInt = (σ.1 197 3).toInt + 8) := by
  unfold fX0_takePair_73
  have hfσ : Fr fr_fX0_takePair_73 σ σ := Fr_r
  have f1 : 0 ≤ (σ.1 197 3).toInt ∧ (σ.1 197 3).toInt ≤ 1600 := hIσ 197 3
  refine ok_nm2 (fun x1 ex1 => ?_)
  have f2 : (0 : Int32).toInt = 0 := by decide
  have qx1 : x1.toInt = 0 := by rw [ex1]; decide
  refine ok_lpc (I := fun n s => n = (3 + 1 - s.1.toInt).toNat ∧ JC s.2 ∧ Fr fr_fX0_takePair_73 σ s.2 ∧ 0 ≤ s.1.toInt ∧ s.1.toInt ≤ 3 ∧ ((s.1.toInt = 0 ∧ (s.2.1 197 3).toInt = (σ.1 197 3).toInt) ∨ (s.1.toInt = 1 ∧ (s.2.1 197 3).toInt = (σ.1 197 3).toInt + 4) ∨ (s.1.toInt = 2 ∧ (s.2.1 197 3).toInt = (σ.1 197 3).toInt + 8))) (fun rec3_1r n_1 s_1 hs_1 hrec_1 => ?_) K9 ((3 + 1 - x1.toInt).toNat) (x1, σ) ⟨rfl, hIσ, hfσ, (show 0 ≤ x1.toInt by omega), (show x1.toInt ≤ 3 by omega), (show (x1.toInt = 0 ∧ (σ.1 197 3).toInt = (σ.1 197 3).toInt) ∨ (x1.toInt = 1 ∧ (σ.1 197 3).toInt = (σ.1 197 3).toInt + 4) ∨ (x1.toInt = 2 ∧ (σ.1 197 3).toInt = (σ.1 197 3).toInt + 8) by omega)⟩ (by unfold K9; omega)
  obtain ⟨a4_1, σ1_1⟩ := s_1
  obtain ⟨hn_1, hIσ1_1, hfσ1_1, b0a4_1, b1a4_1, iv0_1⟩ := hs_1
  dsimp only at hn_1 hIσ1_1 hfσ1_1 b0a4_1 b1a4_1 iv0_1
  unfold bX0_takePair_73_3
  try dsimp only
  refine ok_ite.mpr ⟨fun h_3 => ?_, fun h_3 => ?_⟩
  · have f4 : (2 : Int32).toInt = 2 := by decide
    have g5 : (2 : Int32).toInt ≤ a4_1.toInt := Int32.le_iff_toInt_le.mp h_3
    refine ok_some.mpr ?_
    exact ⟨hIσ1_1, hfσ1_1, (show (σ1_1.1 197 3).toInt = (σ.1 197 3).toInt + 8 by omega)⟩
  · have f6 : (2 : Int32).toInt = 2 := by decide
    have g7 : ¬ (2 : Int32).toInt ≤ a4_1.toInt := fun z => h_3 (Int32.le_iff_toInt_le.mpr z)
    refine ok_nm2 (fun x3_2 ex3_2 => ?_)
    have qx3_2 : x3_2.toInt = 0 := by rw [ex3_2]; decide
    refine ok_nm2 (fun x4_2 ex4_2 => ?_)
    have qx4_2 : x4_2.toInt = 0 := by rw [ex4_2]; decide
    refine ok_lpc (I := fun n s => n = (4 + 1 - s.2.toInt).toNat ∧ 0 ≤ s.2.toInt ∧ s.2.toInt ≤ 4) (fun rec15_5r n_5 s_5 hs_5 hrec_5 => ?_) K9 ((4 + 1 - x4_2.toInt).toNat) (x3_2, x4_2) ⟨rfl, (show 0 ≤ x4_2.toInt by omega), (show x4_2.toInt ≤ 4 by omega)⟩ (by unfold K9; omega)
    obtain ⟨a5_5, a6_5⟩ := s_5
    obtain ⟨hn_5, b0a6_5, b1a6_5⟩ := hs_5
    dsimp only at hn_5 b0a6_5 b1a6_5
    unfold bX0_takePair_73_15
    try dsimp only
    refine ok_ite.mpr ⟨fun h_8 => ?_, fun h_8 => ?_⟩
    · have f9 : (4 : Int32).toInt = 4 := by decide
      have g10 : (4 : Int32).toInt ≤ a6_5.toInt := Int32.le_iff_toInt_le.mp h_8
      refine ok_gd.mpr ⟨gb_of (by omega) (by omega), ?_⟩
      refine ok_gd.mpr ⟨gb_of (by omega) (by omega), ?_⟩
      refine ok_nm2 (fun σ7_6 eσ7_6 => ?_)
      have f11 : a4_1.toNatClampNeg = a4_1.toInt.toNat := rfl
      have hIσ7_6 : JC σ7_6 := by rw [eσ7_6]; exact JC_w74 hIσ1_1 (by omega) (by omega) (Int32.le_toInt _) (Int32.toInt_le _)
      have hfσ7_6 : Fr fr_fX0_takePair_73 σ σ7_6 := by
        have hj : (74 + a4_1.toNatClampNeg) = 74 ∨ (74 + a4_1.toNatClampNeg) = 75 := by omega
        rw [eσ7_6]; exact Fr_w0 hfσ1_1 (by rcases hj with hj | hj <;> rw [hj] <;> decide)
      have sσ7_6_0_0 : (σ7_6.1 0 0).toInt = (σ1_1.1 0 0).toInt := by rw [eσ7_6, gsI_1, if_neg (by omega)]
      have sσ7_6_197_3 : (σ7_6.1 197 3).toInt = (σ1_1.1 197 3).toInt := by rw [eσ7_6, gsI_1, if_neg (by omega)]
      refine ok_nm2 (fun σ8_6 eσ8_6 => ?_)
      have f12 : 0 ≤ (σ7_6.1 197 3).toInt ∧ (σ7_6.1 197 3).toInt ≤ 1600 := hIσ7_6 197 3
      have f13 : ((σ7_6.1 197 3) + (4 : Int32)).toInt = (σ7_6.1 197 3).toInt + (4 : Int32).toInt := iadd_toInt (by omega) (by omega)
      have hIσ8_6 : JC σ8_6 := by rw [eσ8_6]; exact JC_w hIσ7_6 (show 0 ≤ _ by omega) (show _ ≤ 1600 by omega)
      have hfσ8_6 : Fr fr_fX0_takePair_73 σ σ8_6 := by rw [eσ8_6]; exact Fr_w hfσ7_6 (by decide)
      have sσ8_6_0_0 : (σ8_6.1 0 0).toInt = (σ7_6.1 0 0).toInt := by rw [eσ8_6]; rfl
      have sσ8_6_197_3 : (σ8_6.1 197 3).toInt = ((σ7_6.1 197 3) + 4).toInt := by rw [eσ8_6]; rfl
      refine ok_nm2 (fun x9_6 ex9_6 => ?_)
      have f14 : (1 : Int32).toInt = 1 := by decide
      have f15 : (a4_1 + (1 : Int32)).toInt = a4_1.toInt + (1 : Int32).toInt := iadd_toInt (by omega) (by omega)
      have qx9_6 : x9_6.toInt = (a4_1 + 1).toInt := congrArg Int32.toInt ex9_6
      have f16 : 0 ≤ (σ8_6.1 197 3).toInt ∧ (σ8_6.1 197 3).toInt ≤ 1600 := hIσ8_6 197 3
      exact hrec_1 _ (x9_6, σ8_6) (show (3 + 1 - x9_6.toInt).toNat < n_1 by omega) ⟨rfl, hIσ8_6, hfσ8_6, (show 0 ≤ x9_6.toInt by omega), (show x9_6.toInt ≤ 3 by omega), (show (x9_6.toInt = 0 ∧ (σ8_6.1 197 3).toInt = (σ.1 197 3).toInt) ∨ (x9_6.toInt = 1 ∧ (σ8_6.1 197 3).toInt = (σ.1 197 3).toInt + 4) ∨ (x9_6.toInt = 2 ∧ (σ8_6.1 197 3).toInt = (σ.1 197 3).toInt + 8) by omega)⟩
    · have f17 : (4 : Int32).toInt = 4 := by decide
      have g18 : ¬ (4 : Int32).toInt ≤ a6_5.toInt := fun z => h_8 (Int32.le_iff_toInt_le.mpr z)
      have f19 : 0 ≤ (σ1_1.1 197 3).toInt ∧ (σ1_1.1 197 3).toInt ≤ 1600 := hIσ1_1 197 3
      have f20 : ((σ1_1.1 197 3) + a6_5).toInt = (σ1_1.1 197 3).toInt + a6_5.toInt := iadd_toInt (by omega) (by omega)
      have f21 : 1600 ≤ (gsz zC.1 0 0 p1) ∧ (gsz zC.1 0 0 p1) ≤ 1600 := by
        have hj : p1 = 1 := by omega
        rcases hj with hj <;> rw [hj] <;> decide
      refine ok_gd.mpr ⟨gb_of (by omega) (by omega), ?_⟩
      refine ok_nm2 (fun v10_6 ev10_6 => ?_)
      have qv10_6 : v10_6.toInt = (σ1_1.1 p1 ((σ1_1.1 197 3) + a6_5).toNatClampNeg).toInt := congrArg Int32.toInt ev10_6
      refine ok_nm2 (fun x11_6 ex11_6 => ?_)
      have qx11_6 : x11_6.toInt = ((a5_5 <<< (8 &&& 31)) ||| v10_6).toInt := congrArg Int32.toInt ex11_6
      refine ok_nm2 (fun x12_6 ex12_6 => ?_)
      have f22 : (1 : Int32).toInt = 1 := by decide
      have f23 : (a6_5 + (1 : Int32)).toInt = a6_5.toInt + (1 : Int32).toInt := iadd_toInt (by omega) (by omega)
      have qx12_6 : x12_6.toInt = (a6_5 + 1).toInt := congrArg Int32.toInt ex12_6
      exact hrec_5 _ (x11_6, x12_6) (show (4 + 1 - x12_6.toInt).toNat < n_5 by omega) ⟨rfl, (show 0 ≤ x12_6.toInt by omega), (show x12_6.toInt ≤ 4 by omega)⟩
set_option maxRecDepth 20000 in
set_option maxHeartbeats 2000000 in
theorem o_fX0_take_71 {σ : gS} (hIσ : JC σ) {p1 : Nat} (h0p1 : 1 ≤ p1) (h1p1 : p1 ≤ 1) : Ok (fX0_take_71 σ p1) (fun out => JC out ∧ Fr fr_fX0_take_71 σ out) := by
  unfold fX0_take_71
  have hfσ : Fr fr_fX0_take_71 σ σ := Fr_r
  have f1 : 0 ≤ (σ.1 197 3).toInt ∧ (σ.1 197 3).toInt ≤ 1600 := hIσ 197 3
  have f2 : (0 : Int32).toInt = 0 := by decide
  have f3 : 1600 ≤ (gsz zC.1 0 0 p1) ∧ (gsz zC.1 0 0 p1) ≤ 1600 := by
    have hj : p1 = 1 := by omega
    rcases hj with hj <;> rw [hj] <;> decide
  refine ok_gd.mpr ⟨gb_of (by omega) (by omega), ?_⟩
  refine ok_nm2 (fun v1 ev1 => ?_)
  have qv1 : v1.toInt = (σ.1 p1 0).toInt := congrArg Int32.toInt ev1
  refine ok_nm2 (fun σ2 eσ2 => ?_)
  have hIσ2 : JC σ2 := by rw [eσ2]; exact JC_w hIσ (Int32.le_toInt _) (Int32.toInt_le _)
  have hfσ2 : Fr fr_fX0_take_71 σ σ2 := by rw [eσ2]; exact Fr_w hfσ (by decide)
  have sσ2_0_0 : (σ2.1 0 0).toInt = (σ.1 0 0).toInt := by rw [eσ2]; rfl
  have sσ2_197_3 : (σ2.1 197 3).toInt = (σ.1 197 3).toInt := by rw [eσ2]; rfl
  refine ok_nm2 (fun σ3 eσ3 => ?_)
  have f4 : (1 : Int32).toInt = 1 := by decide
  have hIσ3 : JC σ3 := by rw [eσ3]; exact JC_w hIσ2 (show 0 ≤ _ by omega) (show _ ≤ 1600 by omega)
  have hfσ3 : Fr fr_fX0_take_71 σ σ3 := by rw [eσ3]; exact Fr_w hfσ2 (by decide)
  have sσ3_0_0 : (σ3.1 0 0).toInt = (σ2.1 0 0).toInt := by rw [eσ3]; rfl
  have sσ3_197_3 : (σ3.1 197 3).toInt = (1 : Int32).toInt := by rw [eσ3]; rfl
  refine ok_nm2 (fun x4 ex4 => ?_)
  have qx4 : x4.toInt = 0 := by rw [ex4]; decide
  have f5 : 0 ≤ (σ3.1 197 3).toInt ∧ (σ3.1 197 3).toInt ≤ 1600 := hIσ3 197 3
  refine ok_lpc (I := fun n s => n = (12 + 1 - s.1.toInt).toNat ∧ JC s.2 ∧ Fr fr_fX0_take_71 σ s.2 ∧ 0 ≤ s.1.toInt ∧ s.1.toInt ≤ 12 ∧ (s.2.1 197 3).toInt = 1 + 9 * s.1.toInt) (fun rec14_1r n_1 s_1 hs_1 hrec_1 => ?_) K9 ((12 + 1 - x4.toInt).toNat) (x4, σ3) ⟨rfl, hIσ3, hfσ3, (show 0 ≤ x4.toInt by omega), (show x4.toInt ≤ 12 by omega), (show (σ3.1 197 3).toInt = 1 + 9 * x4.toInt by omega)⟩ (by unfold K9; omega)
  obtain ⟨a3_1, σ1_1⟩ := s_1
  obtain ⟨hn_1, hIσ1_1, hfσ1_1, b0a3_1, b1a3_1, iv0_1⟩ := hs_1
  dsimp only at hn_1 hIσ1_1 hfσ1_1 b0a3_1 b1a3_1 iv0_1
  unfold bX0_take_71_14
  try dsimp only
  refine ok_gd.mpr ⟨gb_of (by omega) (by omega), ?_⟩
  refine ok_nm2 (fun v5_2 ev5_2 => ?_)
  have f6 : 0 ≤ (σ1_1.1 3 1).toInt ∧ (σ1_1.1 3 1).toInt ≤ 12 := hIσ1_1 3 1
  have qv5_2 : v5_2.toInt = (σ1_1.1 3 1).toInt := congrArg Int32.toInt ev5_2
  refine ok_ite.mpr ⟨fun h_7 => ?_, fun h_7 => ?_⟩
  · have g8 : v5_2.toInt ≤ a3_1.toInt := Int32.le_iff_toInt_le.mp h_7
    refine ok_nm2 (fun x7_2 ex7_2 => ?_)
    have qx7_2 : x7_2.toInt = 0 := by rw [ex7_2]; decide
    have f9 : 0 ≤ (σ1_1.1 197 3).toInt ∧ (σ1_1.1 197 3).toInt ≤ 1600 := hIσ1_1 197 3
    refine ok_lpc (I := fun n s => n = (20 + 1 - s.1.toInt).toNat ∧ JC s.2 ∧ Fr fr_fX0_take_71 σ s.2 ∧ 0 ≤ s.1.toInt ∧ s.1.toInt ≤ 20 ∧ (s.2.1 197 3).toInt ≤ 109 + 8 * s.1.toInt) (fun rec67_3r n_3 s_3 hs_3 hrec_3 => ?_) K9 ((20 + 1 - x7_2.toInt).toNat) (x7_2, σ1_1) ⟨rfl, hIσ1_1, hfσ1_1, (show 0 ≤ x7_2.toInt by omega), (show x7_2.toInt ≤ 20 by omega), (show (σ1_1.1 197 3).toInt ≤ 109 + 8 * x7_2.toInt by omega)⟩ (by unfold K9; omega)
    obtain ⟨a3_3, σ1_3⟩ := s_3
    obtain ⟨hn_3, hIσ1_3, hfσ1_3, b0a3_3, b1a3_3, iv0_3⟩ := hs_3
    dsimp only at hn_3 hIσ1_3 hfσ1_3 b0a3_3 b1a3_3 iv0_3
    unfold bX0_take_71_67
    try dsimp only
    have f10 : (2 : Int32).toInt = 2 := by decide
    refine ok_gd.mpr ⟨gb_of (by omega) (by omega), ?_⟩
    refine ok_nm2 (fun v8_4 ev8_4 => ?_)
    have f11 : 0 ≤ (σ1_3.1 3 2).toInt ∧ (σ1_3.1 3 2).toInt ≤ 20 := hIσ1_3 3 2
    have qv8_4 : v8_4.toInt = (σ1_3.1 3 2).toInt := congrArg Int32.toInt ev8_4
    refine ok_ite.mpr ⟨fun h_12 => ?_, fun h_12 => ?_⟩
    · have g13 : v8_4.toInt ≤ a3_3.toInt := Int32.le_iff_toInt_le.mp h_12
      refine ok_nm2 (fun x10_4 ex10_4 => ?_)
      have qx10_4 : x10_4.toInt = 0 := by rw [ex10_4]; decide
      have f14 : 0 ≤ (σ1_3.1 197 3).toInt ∧ (σ1_3.1 197 3).toInt ≤ 1600 := hIσ1_3 197 3
      refine ok_lpc (I := fun n s => n = (6 + 1 - s.1.toInt).toNat ∧ JC s.2 ∧ Fr fr_fX0_take_71 σ s.2 ∧ 0 ≤ s.1.toInt ∧ s.1.toInt ≤ 6 ∧ (s.2.1 197 3).toInt ≤ 269 + 8 * s.1.toInt) (fun rec98_5r n_5 s_5 hs_5 hrec_5 => ?_) K9 ((6 + 1 - x10_4.toInt).toNat) (x10_4, σ1_3) ⟨rfl, hIσ1_3, hfσ1_3, (show 0 ≤ x10_4.toInt by omega), (show x10_4.toInt ≤ 6 by omega), (show (σ1_3.1 197 3).toInt ≤ 269 + 8 * x10_4.toInt by omega)⟩ (by unfold K9; omega)
      obtain ⟨a3_5, σ1_5⟩ := s_5
      obtain ⟨hn_5, hIσ1_5, hfσ1_5, b0a3_5, b1a3_5, iv0_5⟩ := hs_5
      dsimp only at hn_5 hIσ1_5 hfσ1_5 b0a3_5 b1a3_5 iv0_5
      unfold bX0_take_71_98
      try dsimp only
      refine ok_gd.mpr ⟨gb_of (by omega) (by omega), ?_⟩
      refine ok_nm2 (fun v11_6 ev11_6 => ?_)
      have f15 : 0 ≤ (σ1_5.1 3 0).toInt ∧ (σ1_5.1 3 0).toInt ≤ 6 := hIσ1_5 3 0
      have qv11_6 : v11_6.toInt = (σ1_5.1 3 0).toInt := congrArg Int32.toInt ev11_6
      refine ok_ite.mpr ⟨fun h_16 => ?_, fun h_16 => ?_⟩
      · have g17 : v11_6.toInt ≤ a3_5.toInt := Int32.le_iff_toInt_le.mp h_16
        refine ok_nm2 (fun x13_6 ex13_6 => ?_)
        have qx13_6 : x13_6.toInt = 0 := by rw [ex13_6]; decide
        have f18 : 0 ≤ (σ1_5.1 197 3).toInt ∧ (σ1_5.1 197 3).toInt ≤ 1600 := hIσ1_5 197 3
        refine ok_lpc (I := fun n s => n = (60 + 1 - s.1.toInt).toNat ∧ JC s.2 ∧ Fr fr_fX0_take_71 σ s.2 ∧ 0 ≤ s.1.toInt ∧ s.1.toInt ≤ 60 ∧ (s.2.1 197 3).toInt ≤ 317 + s.1.toInt) (fun rec129_7r n_7 s_7 hs_7 hrec_7 => ?_) K9 ((60 + 1 - x13_6.toInt).toNat) (x13_6, σ1_5) ⟨rfl, hIσ1_5, hfσ1_5, (show 0 ≤ x13_6.toInt by omega), (show x13_6.toInt ≤ 60 by omega), (show (σ1_5.1 197 3).toInt ≤ 317 + x13_6.toInt by omega)⟩ (by unfold K9; omega)
        obtain ⟨a3_7, σ1_7⟩ := s_7
        obtain ⟨hn_7, hIσ1_7, hfσ1_7, b0a3_7, b1a3_7, iv0_7⟩ := hs_7
        dsimp only at hn_7 hIσ1_7 hfσ1_7 b0a3_7 b1a3_7 iv0_7
        unfold bX0_take_71_129
        try dsimp only
        have f19 : (3 : Int32).toInt = 3 := by decide
        refine ok_gd.mpr ⟨gb_of (by omega) (by omega), ?_⟩
        refine ok_nm2 (fun v14_8 ev14_8 => ?_)
        have f20 : 0 ≤ (σ1_7.1 3 3).toInt ∧ (σ1_7.1 3 3).toInt ≤ 60 := hIσ1_7 3 3
        have qv14_8 : v14_8.toInt = (σ1_7.1 3 3).toInt := congrArg Int32.toInt ev14_8
        refine ok_ite.mpr ⟨fun h_21 => ?_, fun h_21 => ?_⟩
        · have g22 : v14_8.toInt ≤ a3_7.toInt := Int32.le_iff_toInt_le.mp h_21
          refine ok_some.mpr ?_
          exact ⟨hIσ1_7, hfσ1_7⟩
        · have g23 : ¬ v14_8.toInt ≤ a3_7.toInt := fun z => h_21 (Int32.le_iff_toInt_le.mpr z)
          have f24 : 0 ≤ (σ1_7.1 197 3).toInt ∧ (σ1_7.1 197 3).toInt ≤ 1600 := hIσ1_7 197 3
          refine ok_gd.mpr ⟨gb_of (by omega) (by omega), ?_⟩
          refine ok_nm2 (fun v16_8 ev16_8 => ?_)
          have qv16_8 : v16_8.toInt = (σ1_7.1 p1 (σ1_7.1 197 3).toNatClampNeg).toInt := congrArg Int32.toInt ev16_8
          refine ok_gd.mpr ⟨gb_of (by omega) (by omega), ?_⟩
          refine ok_nm2 (fun σ17_8 eσ17_8 => ?_)
          have hIσ17_8 : JC σ17_8 := by rw [eσ17_8]; exact JC_w hIσ1_7 (Int32.le_toInt _) (Int32.toInt_le _)
          have hfσ17_8 : Fr fr_fX0_take_71 σ σ17_8 := by rw [eσ17_8]; exact Fr_w0 hfσ1_7 (by decide)
          have sσ17_8_0_0 : (σ17_8.1 0 0).toInt = (σ1_7.1 0 0).toInt := by rw [eσ17_8]; rfl
          have sσ17_8_197_3 : (σ17_8.1 197 3).toInt = (σ1_7.1 197 3).toInt := by rw [eσ17_8]; rfl
          refine ok_nm2 (fun σ18_8 eσ18_8 => ?_)
          have f25 : 0 ≤ (σ17_8.1 197 3).toInt ∧ (σ17_8.1 197 3).toInt ≤ 1600 := hIσ17_8 197 3
          have f26 : ((σ17_8.1 197 3) + (1 : Int32)).toInt = (σ17_8.1 197 3).toInt + (1 : Int32).toInt := iadd_toInt (by omega) (by omega)
          have hIσ18_8 : JC σ18_8 := by rw [eσ18_8]; exact JC_w hIσ17_8 (show 0 ≤ _ by omega) (show _ ≤ 1600 by omega)
          have hfσ18_8 : Fr fr_fX0_take_71 σ σ18_8 := by rw [eσ18_8]; exact Fr_w hfσ17_8 (by decide)
          have sσ18_8_0_0 : (σ18_8.1 0 0).toInt = (σ17_8.1 0 0).toInt := by rw [eσ18_8]; rfl
          have sσ18_8_197_3 : (σ18_8.1 197 3).toInt = ((σ17_8.1 197 3) + 1).toInt := by rw [eσ18_8]; rfl
          refine ok_nm2 (fun x19_8 ex19_8 => ?_)
          have f27 : (a3_7 + (1 : Int32)).toInt = a3_7.toInt + (1 : Int32).toInt := iadd_toInt (by omega) (by omega)
          have qx19_8 : x19_8.toInt = (a3_7 + 1).toInt := congrArg Int32.toInt ex19_8
          have f28 : 0 ≤ (σ18_8.1 197 3).toInt ∧ (σ18_8.1 197 3).toInt ≤ 1600 := hIσ18_8 197 3
          exact hrec_7 _ (x19_8, σ18_8) (show (60 + 1 - x19_8.toInt).toNat < n_7 by omega) ⟨rfl, hIσ18_8, hfσ18_8, (show 0 ≤ x19_8.toInt by omega), (show x19_8.toInt ≤ 60 by omega), (show (σ18_8.1 197 3).toInt ≤ 317 + x19_8.toInt by omega)⟩
      · have g29 : ¬ v11_6.toInt ≤ a3_5.toInt := fun z => h_16 (Int32.le_iff_toInt_le.mpr z)
        refine ok_bd.mpr ((o_fX0_takePair_79 hIσ1_5 (p1 := p1) (p3 := a3_5) (by omega) (by omega) (by omega) (by omega) (by omega)).mono (fun σ21_6 ho_31 => ?_))
        obtain ⟨hIσ21_6, hcσ21_6, hp_32⟩ := ho_31
        have hfσ21_6 : Fr fr_fX0_take_71 σ σ21_6 := Fr_c hfσ1_5 hcσ21_6 (by decide)
        have sσ21_6_0_0 : (σ21_6.1 0 0).toInt = (σ1_5.1 0 0).toInt := by rw [(hcσ21_6 0 0 (by decide) (by decide)).1]
        refine ok_nm2 (fun x22_6 ex22_6 => ?_)
        have f33 : (a3_5 + (1 : Int32)).toInt = a3_5.toInt + (1 : Int32).toInt := iadd_toInt (by omega) (by omega)
        have qx22_6 : x22_6.toInt = (a3_5 + 1).toInt := congrArg Int32.toInt ex22_6
        have f34 : 0 ≤ (σ21_6.1 197 3).toInt ∧ (σ21_6.1 197 3).toInt ≤ 1600 := hIσ21_6 197 3
        exact hrec_5 _ (x22_6, σ21_6) (show (6 + 1 - x22_6.toInt).toNat < n_5 by omega) ⟨rfl, hIσ21_6, hfσ21_6, (show 0 ≤ x22_6.toInt by omega), (show x22_6.toInt ≤ 6 by omega), (show (σ21_6.1 197 3).toInt ≤ 269 + 8 * x22_6.toInt by omega)⟩
    · have g35 : ¬ v8_4.toInt ≤ a3_3.toInt := fun z => h_12 (Int32.le_iff_toInt_le.mpr z)
      refine ok_bd.mpr ((o_fX0_takePair_76 hIσ1_3 (p1 := p1) (p3 := a3_3) (by omega) (by omega) (by omega) (by omega) (by omega)).mono (fun σ24_4 ho_37 => ?_))
      obtain ⟨hIσ24_4, hcσ24_4, hp_38⟩ := ho_37
      have hfσ24_4 : Fr fr_fX0_take_71 σ σ24_4 := Fr_c hfσ1_3 hcσ24_4 (by decide)
      have sσ24_4_0_0 : (σ24_4.1 0 0).toInt = (σ1_3.1 0 0).toInt := by rw [(hcσ24_4 0 0 (by decide) (by decide)).1]
      refine ok_nm2 (fun x25_4 ex25_4 => ?_)
      have f39 : (a3_3 + (1 : Int32)).toInt = a3_3.toInt + (1 : Int32).toInt := iadd_toInt (by omega) (by omega)
      have qx25_4 : x25_4.toInt = (a3_3 + 1).toInt := congrArg Int32.toInt ex25_4
      have f40 : 0 ≤ (σ24_4.1 197 3).toInt ∧ (σ24_4.1 197 3).toInt ≤ 1600 := hIσ24_4 197 3
      exact hrec_3 _ (x25_4, σ24_4) (show (20 + 1 - x25_4.toInt).toNat < n_3 by omega) ⟨rfl, hIσ24_4, hfσ24_4, (show 0 ≤ x25_4.toInt by omega), (show x25_4.toInt ≤ 20 by omega), (show (σ24_4.1 197 3).toInt ≤ 109 + 8 * x25_4.toInt by omega)⟩
  · have g41 : ¬ v5_2.toInt ≤ a3_1.toInt := fun z => h_7 (Int32.le_iff_toInt_le.mpr z)
    have f42 : 0 ≤ (σ1_1.1 197 3).toInt ∧ (σ1_1.1 197 3).toInt ≤ 1600 := hIσ1_1 197 3
    refine ok_gd.mpr ⟨gb_of (by omega) (by omega), ?_⟩
    refine ok_nm2 (fun v26_2 ev26_2 => ?_)
    have qv26_2 : v26_2.toInt = (σ1_1.1 p1 (σ1_1.1 197 3).toNatClampNeg).toInt := congrArg Int32.toInt ev26_2
    refine ok_gd.mpr ⟨gb_of (by omega) (by omega), ?_⟩
    refine ok_nm2 (fun σ27_2 eσ27_2 => ?_)
    have hIσ27_2 : JC σ27_2 := by rw [eσ27_2]; exact JC_w hIσ1_1 (Int32.le_toInt _) (Int32.toInt_le _)
    have hfσ27_2 : Fr fr_fX0_take_71 σ σ27_2 := by rw [eσ27_2]; exact Fr_w0 hfσ1_1 (by decide)
    have sσ27_2_0_0 : (σ27_2.1 0 0).toInt = (σ1_1.1 0 0).toInt := by rw [eσ27_2]; rfl
    have sσ27_2_197_3 : (σ27_2.1 197 3).toInt = (σ1_1.1 197 3).toInt := by rw [eσ27_2]; rfl
    refine ok_nm2 (fun σ28_2 eσ28_2 => ?_)
    have f43 : 0 ≤ (σ27_2.1 197 3).toInt ∧ (σ27_2.1 197 3).toInt ≤ 1600 := hIσ27_2 197 3
    have f44 : ((σ27_2.1 197 3) + (1 : Int32)).toInt = (σ27_2.1 197 3).toInt + (1 : Int32).toInt := iadd_toInt (by omega) (by omega)
    have hIσ28_2 : JC σ28_2 := by rw [eσ28_2]; exact JC_w hIσ27_2 (show 0 ≤ _ by omega) (show _ ≤ 1600 by omega)
    have hfσ28_2 : Fr fr_fX0_take_71 σ σ28_2 := by rw [eσ28_2]; exact Fr_w hfσ27_2 (by decide)
    have sσ28_2_0_0 : (σ28_2.1 0 0).toInt = (σ27_2.1 0 0).toInt := by rw [eσ28_2]; rfl
    have sσ28_2_197_3 : (σ28_2.1 197 3).toInt = ((σ27_2.1 197 3) + 1).toInt := by rw [eσ28_2]; rfl
    refine ok_bd.mpr ((o_fX0_takePair_73 hIσ28_2 (p1 := p1) (p3 := a3_1) (by omega) (by omega) (by omega) (by omega) (by omega)).mono (fun σ30_2 ho_46 => ?_))
    obtain ⟨hIσ30_2, hcσ30_2, hp_47⟩ := ho_46
    have hfσ30_2 : Fr fr_fX0_take_71 σ σ30_2 := Fr_c hfσ28_2 hcσ30_2 (by decide)
    have sσ30_2_0_0 : (σ30_2.1 0 0).toInt = (σ28_2.1 0 0).toInt := by rw [(hcσ30_2 0 0 (by decide) (by decide)).1]
    refine ok_nm2 (fun x31_2 ex31_2 => ?_)
    have f48 : (a3_1 + (1 : Int32)).toInt = a3_1.toInt + (1 : Int32).toInt := iadd_toInt (by omega) (by omega)
    have qx31_2 : x31_2.toInt = (a3_1 + 1).toInt := congrArg Int32.toInt ex31_2
    have f49 : 0 ≤ (σ30_2.1 197 3).toInt ∧ (σ30_2.1 197 3).toInt ≤ 1600 := hIσ30_2 197 3
    exact hrec_1 _ (x31_2, σ30_2) (show (12 + 1 - x31_2.toInt).toNat < n_1 by omega) ⟨rfl, hIσ30_2, hfσ30_2, (show 0 ≤ x31_2.toInt by omega), (show x31_2.toInt ≤ 12 by omega), (show (σ30_2.1 197 3).toInt = 1 + 9 * x31_2.toInt by omega)⟩
