/-! comes through, c 1 -/
theorem w9_tn {σ ρ : gS} {c a : Int32} {o : Int} {rec : Int32 → gS → Option gS} {P : gS → Prop} (hI : JC ρ) (hF : Fr fr_fX9_tapeNumber σ ρ) (ho : (ρ.1 0 1).toInt = o) (h0 : 0 ≤ o) (h1 : o ≤ 1599) (hn : ¬ a < 0) (k : ∀ u, JC u → Fr fr_fX9_tapeNumber σ u → (u.1 0 1).toInt = o + 1 → Ok (rec (a + (-8)) u) P) : Ok (bX9_tapeNumber_3 σ c rec a ρ) P := by
  unfold bX9_tapeNumber_3
  have e1 : (ρ.1 0 1 + 1).toInt = (ρ.1 0 1).toInt + 1 := i_inc (c := 1600) (by omega) (by omega) (by decide)
  refine ok_ite.mpr ⟨fun h => absurd h hn, fun _ => ok_gd.mpr ⟨gb_of (by omega) (by omega), ok_nm.mpr (ok_nm.mpr (ok_nm.mpr ?_))⟩⟩
  refine k _ (JC_w (JC_w hI (Int32.le_toInt _) (Int32.toInt_le _)) ?_ ?_) (Fr_w (Fr_w0 hF (by decide)) (by decide)) ?_
  · show 0 ≤ (ρ.1 0 1 + 1).toInt
    omega
  · show (ρ.1 0 1 + 1).toInt ≤ 1600
    omega
  · rw [gsI_1, if_pos ⟨rfl, rfl⟩, gsI_1, if_neg (fun z => absurd z.1 (by decide)), e1, ho]
theorem o_fX9_tapeNumber {σ : gS} (hIσ : JC σ) {p1 : Int32} (pre0 : (σ.1 0 1).toInt ≤ 1596) : Ok (fX9_tapeNumber σ p1) (fun out => JC out ∧ Fr fr_fX9_tapeNumber σ out ∧ (out.1 0 1).toInt = (σ.1 0 1).toInt + 4) := by
  have hb : 0 ≤ (σ.1 0 1).toInt ∧ (σ.1 0 1).toInt ≤ 1600 := hIσ 0 1
  unfold fX9_tapeNumber
  refine ok_nm.mpr ?_
  rw [show K9 = 1048571 + 1 + 1 + 1 + 1 + 1 from rfl]
  refine ok_lpcS ?_
  refine w9_tn (σ := σ) (ρ := σ) (a := 24) (o := (σ.1 0 1).toInt) hIσ Fr_r rfl (by omega) (by omega) (by decide) (fun u1 i1 f1 o1 => ok_lpcS ?_)
  refine w9_tn (σ := σ) (ρ := u1) (a := 24 + (-8)) (o := (σ.1 0 1).toInt + 1) i1 f1 (by omega) (by omega) (by omega) (by decide) (fun u2 i2 f2 o2 => ok_lpcS ?_)
  refine w9_tn (σ := σ) (ρ := u2) (a := 24 + (-8) + (-8)) (o := (σ.1 0 1).toInt + 2) i2 f2 (by omega) (by omega) (by omega) (by decide) (fun u3 i3 f3 o3 => ok_lpcS ?_)
  refine w9_tn (σ := σ) (ρ := u3) (a := 24 + (-8) + (-8) + (-8)) (o := (σ.1 0 1).toInt + 3) i3 f3 (by omega) (by omega) (by omega) (by decide) (fun u4 i4 f4 o4 => ok_lpcS ?_)
  show Ok (bX9_tapeNumber_3 σ p1 _ (24 + (-8) + (-8) + (-8) + (-8)) u4) _
  unfold bX9_tapeNumber_3
  exact ok_ite.mpr ⟨fun _ => ok_some.mpr ⟨i4, f4, by rw [o4]; omega⟩, fun h => absurd (by decide) h⟩
set_option maxRecDepth 20000 in
set_option maxHeartbeats 2000000 in
theorem o_fX9_feed {σ : gS} (hIσ : JC σ) {p1 : Int32} {p2 : Int32} {p3 : Int32} {p4 : Int32} {p5 : Int32}  : Ok (fX9_feed σ p1 p2 p3 p4 p5) (fun out => JC out.2 ∧ Fr fr_fX9_feed σ out.2 ∧ -1 ≤ out.1.toInt ∧ out.1.toInt ≤ 1600 ∧ (((σ.1 0 1).toInt ≤ 1580 → (out.2.1 0 1).toInt = (σ.1 0 1).toInt + 20 ∧ out.1.toInt = (out.2.1 0 1).toInt) ∧ (1580 < (σ.1 0 1).toInt → (out.2.1 0 1).toInt = (σ.1 0 1).toInt ∧ out.1.toInt = -1))) := by
  unfold fX9_feed
  have hfσ : Fr fr_fX9_feed σ σ := Fr_r
  have f1 : 0 ≤ (σ.1 0 1).toInt ∧ (σ.1 0 1).toInt ≤ 1600 := hIσ 0 1
  refine ok_ite.mpr ⟨fun h_2 => ?_, fun h_2 => ?_⟩
  · have f3 : (20 : Int32).toInt = 20 := by decide
    have f4 : ((σ.1 0 1) + (20 : Int32)).toInt = (σ.1 0 1).toInt + (20 : Int32).toInt := iadd_toInt (by omega) (by omega)
    have f5 : (1600 : Int32).toInt = 1600 := by decide
    have g6 : ((σ.1 0 1) + 20).toInt ≤ (1600 : Int32).toInt := Int32.le_iff_toInt_le.mp h_2
    refine ok_bd.mpr ((o_fX9_tapeNumber hIσ (p1 := p1) (by omega)).mono (fun σ3 ho_8 => ?_))
    obtain ⟨hIσ3, hcσ3, hp_9⟩ := ho_8
    have hfσ3 : Fr fr_fX9_feed σ σ3 := Fr_c hfσ hcσ3 (by decide)
    refine ok_bd.mpr ((o_fX9_tapeNumber hIσ3 (p1 := p2) (by omega)).mono (fun σ5 ho_11 => ?_))
    obtain ⟨hIσ5, hcσ5, hp_12⟩ := ho_11
    have hfσ5 : Fr fr_fX9_feed σ σ5 := Fr_c hfσ3 hcσ5 (by decide)
    refine ok_bd.mpr ((o_fX9_tapeNumber hIσ5 (p1 := p3) (by omega)).mono (fun σ7 ho_14 => ?_))
    obtain ⟨hIσ7, hcσ7, hp_15⟩ := ho_14
    have hfσ7 : Fr fr_fX9_feed σ σ7 := Fr_c hfσ5 hcσ7 (by decide)
    refine ok_bd.mpr ((o_fX9_tapeNumber hIσ7 (p1 := p4) (by omega)).mono (fun σ9 ho_17 => ?_))
    obtain ⟨hIσ9, hcσ9, hp_18⟩ := ho_17
    have hfσ9 : Fr fr_fX9_feed σ σ9 := Fr_c hfσ7 hcσ9 (by decide)
    refine ok_bd.mpr ((o_fX9_tapeNumber hIσ9 (p1 := p5) (by omega)).mono (fun σ11 ho_20 => ?_))
    obtain ⟨hIσ11, hcσ11, hp_21⟩ := ho_20
    have hfσ11 : Fr fr_fX9_feed σ σ11 := Fr_c hfσ9 hcσ11 (by decide)
    refine ok_some.mpr ?_
    have f22 : 0 ≤ (σ11.1 0 1).toInt ∧ (σ11.1 0 1).toInt ≤ 1600 := hIσ11 0 1
    exact ⟨hIσ11, hfσ11, (show -1 ≤ (σ11.1 0 1).toInt by omega), (show (σ11.1 0 1).toInt ≤ 1600 by omega), (show ((σ.1 0 1).toInt ≤ 1580 → (σ11.1 0 1).toInt = (σ.1 0 1).toInt + 20 ∧ (σ11.1 0 1).toInt = (σ11.1 0 1).toInt) ∧ (1580 < (σ.1 0 1).toInt → (σ11.1 0 1).toInt = (σ.1 0 1).toInt ∧ (σ11.1 0 1).toInt = -1) by omega)⟩
  · have f23 : (20 : Int32).toInt = 20 := by decide
    have f24 : ((σ.1 0 1) + (20 : Int32)).toInt = (σ.1 0 1).toInt + (20 : Int32).toInt := iadd_toInt (by omega) (by omega)
    have f25 : (1600 : Int32).toInt = 1600 := by decide
    have g26 : ¬ ((σ.1 0 1) + 20).toInt ≤ (1600 : Int32).toInt := fun z => h_2 (Int32.le_iff_toInt_le.mpr z)
    refine ok_some.mpr ?_
    have f27 : (-1 : Int32).toInt = -1 := by decide
    exact ⟨hIσ, hfσ, (show -1 ≤ (-1 : Int32).toInt by omega), (show (-1 : Int32).toInt ≤ 1600 by omega), (show ((σ.1 0 1).toInt ≤ 1580 → (σ.1 0 1).toInt = (σ.1 0 1).toInt + 20 ∧ (-1 : Int32).toInt = (σ.1 0 1).toInt) ∧ (1580 < (σ.1 0 1).toInt → (σ.1 0 1).toInt = (σ.1 0 1).toInt ∧ (-1 : Int32).toInt = -1) by omega)⟩
set_option maxRecDepth 20000 in
set_option maxHeartbeats 2000000 in
theorem o_fX9_end {σ : gS} (hIσ : JC σ) {p1 : Int32}  : Ok (fX9_end σ p1) (fun out => JC out.2 ∧ Fr fr_fX9_end σ out.2 ∧ 0 ≤ out.1.toInt ∧ out.1.toInt ≤ 1) := by
  unfold fX9_end
  have hfσ : Fr fr_fX9_end σ σ := Fr_r
  have f1 : 0 ≤ (σ.1 0 1).toInt ∧ (σ.1 0 1).toInt ≤ 1600 := hIσ 0 1
  refine ok_ite.mpr ⟨fun h_2 => ?_, fun h_2 => ?_⟩
  · have f3 : (0 : Int32).toInt = 0 := by decide
    have g4 : p1.toInt < (0 : Int32).toInt := Int32.lt_iff_toInt_lt.mp h_2
    refine ok_some.mpr ?_
    exact ⟨hIσ, hfσ, (show 0 ≤ (0 : Int32).toInt by omega), (show (0 : Int32).toInt ≤ 1 by omega)⟩
  · have f5 : (0 : Int32).toInt = 0 := by decide
    have g6 : ¬ p1.toInt < (0 : Int32).toInt := fun z => h_2 (Int32.lt_iff_toInt_lt.mpr z)
    refine ok_ite.mpr ⟨fun h_7 => ?_, fun h_7 => ?_⟩
    · have g8 : p1.toInt ≤ (σ.1 0 1).toInt := Int32.le_iff_toInt_le.mp h_7
      refine ok_nm2 (fun σ3 eσ3 => ?_)
      have hIσ3 : JC σ3 := by rw [eσ3]; exact JC_w hIσ (show 0 ≤ _ by omega) (show _ ≤ 1600 by omega)
      have hfσ3 : Fr fr_fX9_end σ σ3 := by rw [eσ3]; exact Fr_w hfσ (by decide)
      have sσ3_0_1 : (σ3.1 0 1).toInt = p1.toInt := by rw [eσ3]; rfl
      refine ok_some.mpr ?_
      have f9 : (1 : Int32).toInt = 1 := by decide
      exact ⟨hIσ3, hfσ3, (show 0 ≤ (1 : Int32).toInt by omega), (show (1 : Int32).toInt ≤ 1 by omega)⟩
    · have g10 : ¬ p1.toInt ≤ (σ.1 0 1).toInt := fun z => h_7 (Int32.le_iff_toInt_le.mpr z)
      refine ok_some.mpr ?_
      exact ⟨hIσ, hfσ, (show 0 ≤ (0 : Int32).toInt by omega), (show (0 : Int32).toInt ≤ 1 by omega)⟩
/-! fill: o_fill -/
theorem o_fX8_clear_24 {σ : gS} (hIσ : JC σ)   : Ok (fX8_clear_24 σ ) (fun out => JC out ∧ Fr fr_fX8_clear_24 σ out) := by
  unfold fX8_clear_24
  refine ok_bd.mpr ((o_fill (c := 25) (v := 0) hIσ (by decide) (fun i => ?_)).mono (fun τ1 h1 => ?_))
  · match i with
    | 0 => exact ⟨by decide, by decide⟩
    | 1 => exact ⟨by decide, by decide⟩
    | 2 => exact ⟨by decide, by decide⟩
    | 3 => exact ⟨by decide, by decide⟩
    | 4 => exact ⟨by decide, by decide⟩
    | 5 => exact ⟨by decide, by decide⟩
    | i + 6 => exact ⟨show (-2147483648 : Int) ≤ (0 : Int32).toInt by decide, show (0 : Int32).toInt ≤ 2147483647 by decide⟩
  refine ok_bd.mpr ((o_fill (c := 38) (v := 0) h1.1 (by decide) (fun i => ⟨show (-2147483648 : Int) ≤ (0 : Int32).toInt by decide, show (0 : Int32).toInt ≤ 2147483647 by decide⟩)).mono (fun τ2 h2 => ?_))
  refine ok_bd.mpr ((o_fill (c := 42) (v := 0) h2.1 (by decide) (fun i => ⟨show (-2147483648 : Int) ≤ (0 : Int32).toInt by decide, show (0 : Int32).toInt ≤ 2147483647 by decide⟩)).mono (fun τ3 h3 => ok_some.mpr ?_))
  exact ⟨h3.1, Fr_c (Fr_c (Fr_c Fr_r h1.2.1 (by decide)) h2.2.1 (by decide)) h3.2.1 (by decide)⟩
set_option maxRecDepth 20000 in
set_option maxHeartbeats 2000000 in
theorem o_fX3_skipBlanks {σ : gS} (hIσ : JC σ)   : Ok (fX3_skipBlanks σ ) (fun out => JC out ∧ Fr fr_fX3_skipBlanks σ out) := by
  unfold fX3_skipBlanks
  have hfσ : Fr fr_fX3_skipBlanks σ σ := Fr_r
  have f1 : 0 ≤ (σ.1 46 4).toInt ∧ (σ.1 46 4).toInt ≤ 1600 := hIσ 46 4
  have f2 : 0 ≤ (σ.1 46 5).toInt ∧ (σ.1 46 5).toInt ≤ 1600 := hIσ 46 5
  refine ok_lpc (I := fun n s => n = (1600 + 1 - (s.1 46 5).toInt).toNat ∧ JC s ∧ Fr fr_fX3_skipBlanks σ s) (fun rec0_1r n_1 s_1 hs_1 hrec_1 => ?_) K9 ((1600 + 1 - (σ.1 46 5).toInt).toNat) σ ⟨rfl, hIσ, hfσ⟩ (by unfold K9; omega)
  obtain ⟨σ1_1, hq_1⟩ : ∃ y, y = s_1 := ⟨_, rfl⟩
  subst hq_1
  obtain ⟨hn_1, hIσ1_1, hfσ1_1⟩ := hs_1
  skip
  unfold bX3_skipBlanks_0
  try dsimp only
  refine ok_ite.mpr ⟨fun h_3 => ?_, fun h_3 => ?_⟩
  · have f4 : 0 ≤ (σ1_1.1 46 4).toInt ∧ (σ1_1.1 46 4).toInt ≤ 1600 := hIσ1_1 46 4
    have f5 : 0 ≤ (σ1_1.1 46 5).toInt ∧ (σ1_1.1 46 5).toInt ≤ 1600 := hIσ1_1 46 5
    have g6 : (σ1_1.1 46 4).toInt ≤ (σ1_1.1 46 5).toInt := Int32.le_iff_toInt_le.mp h_3
    refine ok_some.mpr ?_
    exact ⟨hIσ1_1, hfσ1_1⟩
  · have f7 : 0 ≤ (σ1_1.1 46 4).toInt ∧ (σ1_1.1 46 4).toInt ≤ 1600 := hIσ1_1 46 4
    have f8 : 0 ≤ (σ1_1.1 46 5).toInt ∧ (σ1_1.1 46 5).toInt ≤ 1600 := hIσ1_1 46 5
    have g9 : ¬ (σ1_1.1 46 4).toInt ≤ (σ1_1.1 46 5).toInt := fun z => h_3 (Int32.le_iff_toInt_le.mpr z)
    refine ok_gd.mpr ⟨gb_of (by omega) (by omega), ?_⟩
    refine ok_nm2 (fun v2_2 ev2_2 => ?_)
    have qv2_2 : v2_2.toInt = (σ1_1.1 1 (σ1_1.1 46 5).toNatClampNeg).toInt := congrArg Int32.toInt ev2_2
    refine ok_ite.mpr ⟨fun h_10 => ?_, fun h_10 => ?_⟩
    · have f11 : (10 : Int32).toInt = 10 := by decide
      have g12 : v2_2.toInt = (10 : Int32).toInt := by rw [h_10]
      try unfold jX3_skipBlanks_39
      refine ok_nm2 (fun σ4_5 eσ4_5 => ?_)
      have f13 : (1 : Int32).toInt = 1 := by decide
      have f14 : ((σ1_1.1 46 5) + (1 : Int32)).toInt = (σ1_1.1 46 5).toInt + (1 : Int32).toInt := iadd_toInt (by omega) (by omega)
      have hIσ4_5 : JC σ4_5 := by rw [eσ4_5]; exact JC_w hIσ1_1 (show 0 ≤ _ by omega) (show _ ≤ 1600 by omega)
      have hfσ4_5 : Fr fr_fX3_skipBlanks σ σ4_5 := by rw [eσ4_5]; exact Fr_w hfσ1_1 (by decide)
      have sσ4_5_46_4 : (σ4_5.1 46 4).toInt = (σ1_1.1 46 4).toInt := by rw [eσ4_5]; rfl
      have sσ4_5_46_5 : (σ4_5.1 46 5).toInt = ((σ1_1.1 46 5) + 1).toInt := by rw [eσ4_5]; rfl
      exact hrec_1 _ σ4_5 (show (1600 + 1 - (σ4_5.1 46 5).toInt).toNat < n_1 by omega) ⟨rfl, hIσ4_5, hfσ4_5⟩
    · have f15 : (10 : Int32).toInt = 10 := by decide
      have g16 : v2_2.toInt ≠ (10 : Int32).toInt := fun z => h_10 (Int32.toInt_inj.mp z)
      refine ok_gd.mpr ⟨gb_of (by omega) (by omega), ?_⟩
      refine ok_nm2 (fun v5_2 ev5_2 => ?_)
      have qv5_2 : v5_2.toInt = (σ1_1.1 1 (σ1_1.1 46 5).toNatClampNeg).toInt := congrArg Int32.toInt ev5_2
      refine ok_ite.mpr ⟨fun h_17 => ?_, fun h_17 => ?_⟩
      · have f18 : (32 : Int32).toInt = 32 := by decide
        have g19 : v5_2.toInt = (32 : Int32).toInt := by rw [h_17]
        try unfold jX3_skipBlanks_39
        refine ok_nm2 (fun σ4_6 eσ4_6 => ?_)
        have f20 : (1 : Int32).toInt = 1 := by decide
        have f21 : ((σ1_1.1 46 5) + (1 : Int32)).toInt = (σ1_1.1 46 5).toInt + (1 : Int32).toInt := iadd_toInt (by omega) (by omega)
        have hIσ4_6 : JC σ4_6 := by rw [eσ4_6]; exact JC_w hIσ1_1 (show 0 ≤ _ by omega) (show _ ≤ 1600 by omega)
        have hfσ4_6 : Fr fr_fX3_skipBlanks σ σ4_6 := by rw [eσ4_6]; exact Fr_w hfσ1_1 (by decide)
        have sσ4_6_46_4 : (σ4_6.1 46 4).toInt = (σ1_1.1 46 4).toInt := by rw [eσ4_6]; rfl
        have sσ4_6_46_5 : (σ4_6.1 46 5).toInt = ((σ1_1.1 46 5) + 1).toInt := by rw [eσ4_6]; rfl
        exact hrec_1 _ σ4_6 (show (1600 + 1 - (σ4_6.1 46 5).toInt).toNat < n_1 by omega) ⟨rfl, hIσ4_6, hfσ4_6⟩
      · have f22 : (32 : Int32).toInt = 32 := by decide
        have g23 : v5_2.toInt ≠ (32 : Int32).toInt := fun z => h_17 (Int32.toInt_inj.mp z)
        refine ok_some.mpr ?_
        exact ⟨hIσ1_1, hfσ1_1⟩
set_option maxRecDepth 20000 in
set_option maxHeartbeats 2000000 in
theorem o_fX3_markRun {σ : gS} (hIσ : JC σ) {p1 : Int32} {p2 : Int32}  : Ok (fX3_markRun σ p1 p2) (fun out => JC out ∧ Fr fr_fX3_markRun σ out) := by
  unfold fX3_markRun
  have hfσ : Fr fr_fX3_markRun σ σ := Fr_r
  have f1 : 0 ≤ (σ.1 46 4).toInt ∧ (σ.1 46 4).toInt ≤ 1600 := hIσ 46 4
  have f2 : 0 ≤ (σ.1 46 5).toInt ∧ (σ.1 46 5).toInt ≤ 1600 := hIσ 46 5
  have f3 : 0 ≤ (σ.1 46 7).toInt ∧ (σ.1 46 7).toInt ≤ 1600 := hIσ 46 7
  refine ok_bd.mpr ((o_fX3_skipBlanks hIσ  ).mono (fun σ2 ho_5 => ?_))
  obtain ⟨hIσ2, hcσ2⟩ := ho_5
  have hfσ2 : Fr fr_fX3_markRun σ σ2 := Fr_c hfσ hcσ2 (by decide)
  have sσ2_46_4 : (σ2.1 46 4).toInt = (σ.1 46 4).toInt := by rw [(hcσ2 46 4 (by decide) (by decide)).1]
  have sσ2_46_7 : (σ2.1 46 7).toInt = (σ.1 46 7).toInt := by rw [(hcσ2 46 7 (by decide) (by decide)).1]
  refine ok_nm2 (fun σ3 eσ3 => ?_)
  have f6 : 0 ≤ (σ2.1 46 5).toInt ∧ (σ2.1 46 5).toInt ≤ 1600 := hIσ2 46 5
  have hIσ3 : JC σ3 := by rw [eσ3]; exact JC_w hIσ2 (show 0 ≤ _ by omega) (show _ ≤ 1600 by omega)
  have hfσ3 : Fr fr_fX3_markRun σ σ3 := by rw [eσ3]; exact Fr_w hfσ2 (by decide)
  have sσ3_46_4 : (σ3.1 46 4).toInt = (σ2.1 46 4).toInt := by rw [eσ3]; rfl
  have sσ3_46_5 : (σ3.1 46 5).toInt = (σ2.1 46 5).toInt := by rw [eσ3]; rfl
  have sσ3_46_7 : (σ3.1 46 7).toInt = (σ2.1 46 7).toInt := by rw [eσ3]; rfl
  refine ok_nm2 (fun σ4 eσ4 => ?_)
  have f7 : 0 ≤ (σ3.1 46 5).toInt ∧ (σ3.1 46 5).toInt ≤ 1600 := hIσ3 46 5
  have hIσ4 : JC σ4 := by rw [eσ4]; exact JC_w hIσ3 (show 0 ≤ _ by omega) (show _ ≤ 1600 by omega)
  have hfσ4 : Fr fr_fX3_markRun σ σ4 := by rw [eσ4]; exact Fr_w hfσ3 (by decide)
  have sσ4_46_4 : (σ4.1 46 4).toInt = (σ3.1 46 4).toInt := by rw [eσ4]; rfl
  have sσ4_46_5 : (σ4.1 46 5).toInt = (σ3.1 46 5).toInt := by rw [eσ4]; rfl
  have sσ4_46_7 : (σ4.1 46 7).toInt = (σ3.1 46 5).toInt := by rw [eσ4]; rfl
  have f8 : 0 ≤ (σ4.1 46 7).toInt ∧ (σ4.1 46 7).toInt ≤ 1600 := hIσ4 46 7
  refine ok_lpc (I := fun n s => n = (1600 + 1 - (s.1 46 7).toInt).toNat ∧ JC s ∧ Fr fr_fX3_markRun σ s) (fun rec20_1r n_1 s_1 hs_1 hrec_1 => ?_) K9 ((1600 + 1 - (σ4.1 46 7).toInt).toNat) σ4 ⟨rfl, hIσ4, hfσ4⟩ (by unfold K9; omega)
  obtain ⟨σ1_1, hq_1⟩ : ∃ y, y = s_1 := ⟨_, rfl⟩
  subst hq_1
  obtain ⟨hn_1, hIσ1_1, hfσ1_1⟩ := hs_1
  skip
  unfold bX3_markRun_20
  try dsimp only
  refine ok_ite.mpr ⟨fun h_9 => ?_, fun h_9 => ?_⟩
  · have f10 : 0 ≤ (σ1_1.1 46 4).toInt ∧ (σ1_1.1 46 4).toInt ≤ 1600 := hIσ1_1 46 4
    have f11 : 0 ≤ (σ1_1.1 46 7).toInt ∧ (σ1_1.1 46 7).toInt ≤ 1600 := hIσ1_1 46 7
    have g12 : (σ1_1.1 46 4).toInt ≤ (σ1_1.1 46 7).toInt := Int32.le_iff_toInt_le.mp h_9
    refine ok_some.mpr ?_
    exact ⟨hIσ1_1, hfσ1_1⟩
  · have f13 : 0 ≤ (σ1_1.1 46 4).toInt ∧ (σ1_1.1 46 4).toInt ≤ 1600 := hIσ1_1 46 4
    have f14 : 0 ≤ (σ1_1.1 46 7).toInt ∧ (σ1_1.1 46 7).toInt ≤ 1600 := hIσ1_1 46 7
    have g15 : ¬ (σ1_1.1 46 4).toInt ≤ (σ1_1.1 46 7).toInt := fun z => h_9 (Int32.le_iff_toInt_le.mpr z)
    refine ok_gd.mpr ⟨gb_of (by omega) (by omega), ?_⟩
    refine ok_nm2 (fun v6_2 ev6_2 => ?_)
    have qv6_2 : v6_2.toInt = (σ1_1.1 1 (σ1_1.1 46 7).toNatClampNeg).toInt := congrArg Int32.toInt ev6_2
    refine ok_ite.mpr ⟨fun h_16 => ?_, fun h_16 => ?_⟩
    · have g17 : v6_2.toInt < p1.toInt := Int32.lt_iff_toInt_lt.mp h_16
      refine ok_some.mpr ?_
      exact ⟨hIσ1_1, hfσ1_1⟩
    · have g18 : ¬ v6_2.toInt < p1.toInt := fun z => h_16 (Int32.lt_iff_toInt_lt.mpr z)
      refine ok_gd.mpr ⟨gb_of (by omega) (by omega), ?_⟩
      refine ok_nm2 (fun v8_2 ev8_2 => ?_)
      have qv8_2 : v8_2.toInt = (σ1_1.1 1 (σ1_1.1 46 7).toNatClampNeg).toInt := congrArg Int32.toInt ev8_2
      refine ok_ite.mpr ⟨fun h_19 => ?_, fun h_19 => ?_⟩
      · have g20 : p2.toInt < v8_2.toInt := Int32.lt_iff_toInt_lt.mp h_19
        refine ok_some.mpr ?_
        exact ⟨hIσ1_1, hfσ1_1⟩
      · have g21 : ¬ p2.toInt < v8_2.toInt := fun z => h_19 (Int32.lt_iff_toInt_lt.mpr z)
        refine ok_nm2 (fun σ10_2 eσ10_2 => ?_)
        have f22 : (1 : Int32).toInt = 1 := by decide
        have f23 : ((σ1_1.1 46 7) + (1 : Int32)).toInt = (σ1_1.1 46 7).toInt + (1 : Int32).toInt := iadd_toInt (by omega) (by omega)
        have hIσ10_2 : JC σ10_2 := by rw [eσ10_2]; exact JC_w hIσ1_1 (show 0 ≤ _ by omega) (show _ ≤ 1600 by omega)
        have hfσ10_2 : Fr fr_fX3_markRun σ σ10_2 := by rw [eσ10_2]; exact Fr_w hfσ1_1 (by decide)
        have sσ10_2_46_4 : (σ10_2.1 46 4).toInt = (σ1_1.1 46 4).toInt := by rw [eσ10_2]; rfl
        have sσ10_2_46_5 : (σ10_2.1 46 5).toInt = (σ1_1.1 46 5).toInt := by rw [eσ10_2]; rfl
        have sσ10_2_46_7 : (σ10_2.1 46 7).toInt = ((σ1_1.1 46 7) + 1).toInt := by rw [eσ10_2]; rfl
        exact hrec_1 _ σ10_2 (show (1600 + 1 - (σ10_2.1 46 7).toInt).toNat < n_1 by omega) ⟨rfl, hIσ10_2, hfσ10_2⟩
set_option maxRecDepth 20000 in
set_option maxHeartbeats 2000000 in
theorem o_fJ0_coder_7d493_K0 {σ : gS} (hIσ : JC σ)   : Ok (fJ0_coder_7d493_K0 σ ) (fun out => 0 ≤ out.toInt ∧ out.toInt ≤ 0) := by
  unfold fJ0_coder_7d493_K0
  refine ok_ite.mpr ⟨fun h_1 => ?_, fun h_1 => ?_⟩
  · have f2 : (1 : Int32).toInt = 1 := by decide
    have f3 : (0 : Int32).toInt = 0 := by decide
    have g4 : (1 : Int32).toInt = (0 : Int32).toInt := by rw [h_1]
    exfalso
    omega
  · have f5 : (1 : Int32).toInt = 1 := by decide
    have f6 : (0 : Int32).toInt = 0 := by decide
    have g7 : (1 : Int32).toInt ≠ (0 : Int32).toInt := fun z => h_1 (Int32.toInt_inj.mp z)
    refine ok_some.mpr ?_
    have f8 : (vp_nar .byte 0).toInt = 0 := by decide
    exact ⟨(show 0 ≤ (vp_nar .byte 0).toInt by omega), (show (vp_nar .byte 0).toInt ≤ 0 by omega)⟩
set_option maxRecDepth 20000 in
set_option maxHeartbeats 2000000 in
theorem o_fJ0_length_8abf5_K0 {σ : gS} (hIσ : JC σ)   : Ok (fJ0_length_8abf5_K0 σ ) (fun out => 0 ≤ out.toInt ∧ out.toInt ≤ 5) := by
  unfold fJ0_length_8abf5_K0
  refine ok_bd.mpr ?_
  try unfold fJ0_coder_7d493_K0
  refine ok_ite.mpr ⟨fun h_1 => ?_, fun h_1 => ?_⟩
  · have f2 : (1 : Int32).toInt = 1 := by decide
    have f3 : (0 : Int32).toInt = 0 := by decide
    have g4 : (1 : Int32).toInt = (0 : Int32).toInt := by rw [h_1]
    exfalso
    omega
  · have f5 : (1 : Int32).toInt = 1 := by decide
    have f6 : (0 : Int32).toInt = 0 := by decide
    have g7 : (1 : Int32).toInt ≠ (0 : Int32).toInt := fun z => h_1 (Int32.toInt_inj.mp z)
    refine ok_some.mpr ?_
    refine ok_some.mpr ?_
    have f8 : ((5 : Int32) >>> ((vp_nar .byte 0) &&& 31)).toInt = 5 := by decide
    exact ⟨(show 0 ≤ ((5 : Int32) >>> ((vp_nar .byte 0) &&& 31)).toInt by omega), (show ((5 : Int32) >>> ((vp_nar .byte 0) &&& 31)).toInt ≤ 5 by omega)⟩
set_option maxRecDepth 20000 in
set_option maxHeartbeats 2000000 in
theorem o_fJ0_isLatin1_aae02_K0 {σ : gS} (hIσ : JC σ)   : Ok (fJ0_isLatin1_aae02_K0 σ ) (fun out => 1 ≤ out.toInt ∧ out.toInt ≤ 1) := by
  unfold fJ0_isLatin1_aae02_K0
  refine ok_ite.mpr ⟨fun h_1 => ?_, fun h_1 => ?_⟩
  · have f2 : (1 : Int32).toInt = 1 := by decide
    have f3 : (0 : Int32).toInt = 0 := by decide
    have g4 : (1 : Int32).toInt = (0 : Int32).toInt := by rw [h_1]
    exfalso
    omega
  · have f5 : (1 : Int32).toInt = 1 := by decide
    have f6 : (0 : Int32).toInt = 0 := by decide
    have g7 : (1 : Int32).toInt ≠ (0 : Int32).toInt := fun z => h_1 (Int32.toInt_inj.mp z)
    refine ok_ite.mpr ⟨fun h_8 => ?_, fun h_8 => ?_⟩
    · have g9 : (0 : Int32).toInt = (0 : Int32).toInt := by rw [h_8]
      refine ok_some.mpr ?_
      exact ⟨(show 1 ≤ (1 : Int32).toInt by omega), (show (1 : Int32).toInt ≤ 1 by omega)⟩
    · have g10 : (0 : Int32).toInt ≠ (0 : Int32).toInt := fun z => h_8 (Int32.toInt_inj.mp z)
      exfalso
      omega
set_option maxRecDepth 20000 in
set_option maxHeartbeats 2000000 in
theorem o_fJ3_checkIndex_8e157_O0 {σ : gS} (hIσ : JC σ) {p0 : Int32} {p1 : Int32} (pre0 : 0 ≤ p0.toInt ∧ p0.toInt < p1.toInt) : Ok (fJ3_checkIndex_8e157_O0 σ p0 p1) (fun _ => True) := by
  unfold fJ3_checkIndex_8e157_O0
  refine ok_ite.mpr ⟨fun h_1 => ?_, fun h_1 => ?_⟩
  · have f2 : (0 : Int32).toInt = 0 := by decide
    have g3 : p0.toInt < (0 : Int32).toInt := Int32.lt_iff_toInt_lt.mp h_1
    try unfold jJ3_checkIndex_8e157_O0_9
    exfalso
    omega
  · have f4 : (0 : Int32).toInt = 0 := by decide
    have g5 : ¬ p0.toInt < (0 : Int32).toInt := fun z => h_1 (Int32.lt_iff_toInt_lt.mpr z)
    refine ok_ite.mpr ⟨fun h_6 => ?_, fun h_6 => ?_⟩
    · have g7 : p0.toInt < p1.toInt := Int32.lt_iff_toInt_lt.mp h_6
      refine ok_some.mpr ?_
      exact trivial
    · have g8 : ¬ p0.toInt < p1.toInt := fun z => h_6 (Int32.lt_iff_toInt_lt.mpr z)
      try unfold jJ3_checkIndex_8e157_O0_9
      exfalso
      omega
set_option maxRecDepth 20000 in
set_option maxHeartbeats 2000000 in
theorem o_fJ0_checkIndex_df160 {σ : gS} (hIσ : JC σ) {p0 : Int32} {p1 : Int32} (pre0 : 0 ≤ p0.toInt ∧ p0.toInt < p1.toInt) : Ok (fJ0_checkIndex_df160 σ p0 p1) (fun _ => True) := by
  unfold fJ0_checkIndex_df160
  refine ok_bd.mpr ?_
  try unfold fJ3_checkIndex_8e157_O0
  refine ok_ite.mpr ⟨fun h_1 => ?_, fun h_1 => ?_⟩
  · have f2 : (0 : Int32).toInt = 0 := by decide
    have g3 : p0.toInt < (0 : Int32).toInt := Int32.lt_iff_toInt_lt.mp h_1
    try unfold jJ3_checkIndex_8e157_O0_9
    exfalso
    omega
  · have f4 : (0 : Int32).toInt = 0 := by decide
    have g5 : ¬ p0.toInt < (0 : Int32).toInt := fun z => h_1 (Int32.lt_iff_toInt_lt.mpr z)
    refine ok_ite.mpr ⟨fun h_6 => ?_, fun h_6 => ?_⟩
    · have g7 : p0.toInt < p1.toInt := Int32.lt_iff_toInt_lt.mp h_6
      refine ok_some.mpr ?_
      refine ok_some.mpr ?_
      exact trivial
    · have g8 : ¬ p0.toInt < p1.toInt := fun z => h_6 (Int32.lt_iff_toInt_lt.mpr z)
      try unfold jJ3_checkIndex_8e157_O0_9
      exfalso
      omega
set_option maxRecDepth 20000 in
set_option maxHeartbeats 2000000 in
theorem o_fJ1_charAt_3b067_V0 {σ : gS} (hIσ : JC σ) {p1 : Int32} (pre0 : 0 ≤ p1.toInt ∧ p1.toInt < 5) : Ok (fJ1_charAt_3b067_V0 σ p1) (fun _ => True) := by
  unfold fJ1_charAt_3b067_V0
  have f1 : (5 : Int32).toInt = 5 := by decide
  refine ok_bd.mpr ((o_fJ0_checkIndex_df160 hIσ (p0 := p1) (p1 := (5 : Int32)) (by omega)).mono (fun u2 ho_3 => ?_))
  refine ok_gd.mpr ⟨gb_of (by omega) (by omega), ?_⟩
  refine ok_nm2 (fun v3 ev3 => ?_)
  have qv3 : v3.toInt = ((bytC 0) p1.toNatClampNeg).toInt := congrArg Int32.toInt ev3
  refine ok_some.mpr ?_
  exact trivial
set_option maxRecDepth 20000 in
set_option maxHeartbeats 2000000 in
theorem o_fJ0_charAt_5068e_K0 {σ : gS} (hIσ : JC σ) {p1 : Int32} (pre0 : 0 ≤ p1.toInt ∧ p1.toInt < 5) : Ok (fJ0_charAt_5068e_K0 σ p1) (fun _ => True) := by
  unfold fJ0_charAt_5068e_K0
  refine ok_bd.mpr ?_
  try unfold fJ0_isLatin1_aae02_K0
  refine ok_ite.mpr ⟨fun h_1 => ?_, fun h_1 => ?_⟩
  · have f2 : (1 : Int32).toInt = 1 := by decide
    have f3 : (0 : Int32).toInt = 0 := by decide
    have g4 : (1 : Int32).toInt = (0 : Int32).toInt := by rw [h_1]
    exfalso
    omega
  · have f5 : (1 : Int32).toInt = 1 := by decide
    have f6 : (0 : Int32).toInt = 0 := by decide
    have g7 : (1 : Int32).toInt ≠ (0 : Int32).toInt := fun z => h_1 (Int32.toInt_inj.mp z)
    refine ok_ite.mpr ⟨fun h_8 => ?_, fun h_8 => ?_⟩
    · have g9 : (0 : Int32).toInt = (0 : Int32).toInt := by rw [h_8]
      refine ok_some.mpr ?_
      refine ok_ite.mpr ⟨fun h_10 => ?_, fun h_10 => ?_⟩
      · have g11 : (1 : Int32).toInt = (0 : Int32).toInt := by rw [h_10]
        exfalso
        omega
      · have g12 : (1 : Int32).toInt ≠ (0 : Int32).toInt := fun z => h_10 (Int32.toInt_inj.mp z)
        refine ok_bd.mpr ((o_fJ1_charAt_3b067_V0 hIσ (p1 := p1) (by omega)).mono (fun r5_2 ho_14 => ?_))
        refine ok_some.mpr ?_
        exact trivial
    · have g15 : (0 : Int32).toInt ≠ (0 : Int32).toInt := fun z => h_8 (Int32.toInt_inj.mp z)
      exfalso
      omega
set_option maxRecDepth 20000 in
set_option maxHeartbeats 2000000 in
theorem o_fX3_isWord_K0 {σ : gS} (hIσ : JC σ)   : Ok (fX3_isWord_K0 σ ) (fun out => 0 ≤ out.toInt ∧ out.toInt ≤ 1) := by
  unfold fX3_isWord_K0
  have f1 : 0 ≤ (σ.1 46 6).toInt ∧ (σ.1 46 6).toInt ≤ 1600 := hIσ 46 6
  have f2 : 0 ≤ (σ.1 46 7).toInt ∧ (σ.1 46 7).toInt ≤ 1600 := hIσ 46 7
  refine ok_bd.mpr ?_
  try unfold fJ0_length_8abf5_K0
  refine ok_bd.mpr ?_
  try unfold fJ0_coder_7d493_K0
  refine ok_ite.mpr ⟨fun h_3 => ?_, fun h_3 => ?_⟩
  · have f4 : (1 : Int32).toInt = 1 := by decide
    have f5 : (0 : Int32).toInt = 0 := by decide
    have g6 : (1 : Int32).toInt = (0 : Int32).toInt := by rw [h_3]
    exfalso
    omega
  · have f7 : (1 : Int32).toInt = 1 := by decide
    have f8 : (0 : Int32).toInt = 0 := by decide
    have g9 : (1 : Int32).toInt ≠ (0 : Int32).toInt := fun z => h_3 (Int32.toInt_inj.mp z)
    refine ok_some.mpr ?_
    refine ok_some.mpr ?_
    refine ok_ite.mpr ⟨fun h_10 => ?_, fun h_10 => ?_⟩
    · have f11 : ((σ.1 46 7) - (σ.1 46 6)).toInt = (σ.1 46 7).toInt - (σ.1 46 6).toInt := isub_toInt (by omega) (by omega)
      have f12 : ((5 : Int32) >>> ((vp_nar .byte 0) &&& 31)).toInt = 5 := by decide
      have g13 : ((σ.1 46 7) - (σ.1 46 6)).toInt = ((5 : Int32) >>> ((vp_nar .byte 0) &&& 31)).toInt := by rw [h_10]
      refine ok_nm2 (fun x4_3_4 ex4_3_4 => ?_)
      have qx4_3_4 : x4_3_4.toInt = 0 := by rw [ex4_3_4]; decide
      refine ok_lpc (I := fun n s => n = (5 + 1 - s.toInt).toNat ∧ 0 ≤ s.toInt ∧ s.toInt ≤ 5) (fun rec20_5r n_5 s_5 hs_5 hrec_5 => ?_) K9 ((5 + 1 - x4_3_4.toInt).toNat) x4_3_4 ⟨rfl, (show 0 ≤ x4_3_4.toInt by omega), (show x4_3_4.toInt ≤ 5 by omega)⟩ (by unfold K9; omega)
      obtain ⟨a2_5, hq_5⟩ : ∃ y, y = s_5 := ⟨_, rfl⟩
      subst hq_5
      obtain ⟨hn_5, b0a2_5, b1a2_5⟩ := hs_5
      skip
      unfold bX3_isWord_K0_20
      try dsimp only
      refine ok_bd.mpr ?_
      try unfold fJ0_length_8abf5_K0
      refine ok_bd.mpr ?_
      try unfold fJ0_coder_7d493_K0
      refine ok_ite.mpr ⟨fun h_14 => ?_, fun h_14 => ?_⟩
      · have g15 : (1 : Int32).toInt = (0 : Int32).toInt := by rw [h_14]
        exfalso
        omega
      · have g16 : (1 : Int32).toInt ≠ (0 : Int32).toInt := fun z => h_14 (Int32.toInt_inj.mp z)
        refine ok_some.mpr ?_
        refine ok_some.mpr ?_
        refine ok_ite.mpr ⟨fun h_17 => ?_, fun h_17 => ?_⟩
        · have g18 : ((5 : Int32) >>> ((vp_nar .byte 0) &&& 31)).toInt ≤ a2_5.toInt := Int32.le_iff_toInt_le.mp h_17
          refine ok_some.mpr ?_
          exact ⟨(show 0 ≤ (1 : Int32).toInt by omega), (show (1 : Int32).toInt ≤ 1 by omega)⟩
        · have g19 : ¬ ((5 : Int32) >>> ((vp_nar .byte 0) &&& 31)).toInt ≤ a2_5.toInt := fun z => h_17 (Int32.le_iff_toInt_le.mpr z)
          have f20 : ((σ.1 46 6) + a2_5).toInt = (σ.1 46 6).toInt + a2_5.toInt := iadd_toInt (by omega) (by omega)
          refine ok_gd.mpr ⟨gb_of (by omega) (by omega), ?_⟩
          refine ok_nm2 (fun v8_18_21_22 ev8_18_21_22 => ?_)
          have qv8_18_21_22 : v8_18_21_22.toInt = (σ.1 1 ((σ.1 46 6) + a2_5).toNatClampNeg).toInt := congrArg Int32.toInt ev8_18_21_22
          refine ok_bd.mpr ((o_fJ0_charAt_5068e_K0 hIσ (p1 := a2_5) (by omega)).mono (fun r10_18_21_22 ho_22 => ?_))
          refine ok_ite.mpr ⟨fun h_23 => ?_, fun h_23 => ?_⟩
          · have g24 : v8_18_21_22.toInt = r10_18_21_22.toInt := by rw [h_23]
            refine ok_nm2 (fun x12_18_21_22 ex12_18_21_22 => ?_)
            have f25 : (a2_5 + (1 : Int32)).toInt = a2_5.toInt + (1 : Int32).toInt := iadd_toInt (by omega) (by omega)
            have qx12_18_21_22 : x12_18_21_22.toInt = (a2_5 + 1).toInt := congrArg Int32.toInt ex12_18_21_22
            exact hrec_5 _ x12_18_21_22 (show (5 + 1 - x12_18_21_22.toInt).toNat < n_5 by omega) ⟨rfl, (show 0 ≤ x12_18_21_22.toInt by omega), (show x12_18_21_22.toInt ≤ 5 by omega)⟩
          · have g26 : v8_18_21_22.toInt ≠ r10_18_21_22.toInt := fun z => h_23 (Int32.toInt_inj.mp z)
            refine ok_some.mpr ?_
            exact ⟨(show 0 ≤ (0 : Int32).toInt by omega), (show (0 : Int32).toInt ≤ 1 by omega)⟩
    · have f27 : ((σ.1 46 7) - (σ.1 46 6)).toInt = (σ.1 46 7).toInt - (σ.1 46 6).toInt := isub_toInt (by omega) (by omega)
      have f28 : ((5 : Int32) >>> ((vp_nar .byte 0) &&& 31)).toInt = 5 := by decide
      have g29 : ((σ.1 46 7) - (σ.1 46 6)).toInt ≠ ((5 : Int32) >>> ((vp_nar .byte 0) &&& 31)).toInt := fun z => h_10 (Int32.toInt_inj.mp z)
      refine ok_some.mpr ?_
      exact ⟨(show 0 ≤ (0 : Int32).toInt by omega), (show (0 : Int32).toInt ≤ 1 by omega)⟩
set_option maxRecDepth 20000 in
set_option maxHeartbeats 2000000 in
theorem o_fJ0_coder_7d493_K1 {σ : gS} (hIσ : JC σ)   : Ok (fJ0_coder_7d493_K1 σ ) (fun out => 0 ≤ out.toInt ∧ out.toInt ≤ 0) := by
  unfold fJ0_coder_7d493_K1
  refine ok_ite.mpr ⟨fun h_1 => ?_, fun h_1 => ?_⟩
  · have f2 : (1 : Int32).toInt = 1 := by decide
    have f3 : (0 : Int32).toInt = 0 := by decide
    have g4 : (1 : Int32).toInt = (0 : Int32).toInt := by rw [h_1]
    exfalso
    omega
  · have f5 : (1 : Int32).toInt = 1 := by decide
    have f6 : (0 : Int32).toInt = 0 := by decide
    have g7 : (1 : Int32).toInt ≠ (0 : Int32).toInt := fun z => h_1 (Int32.toInt_inj.mp z)
    refine ok_some.mpr ?_
    have f8 : (vp_nar .byte 0).toInt = 0 := by decide
    exact ⟨(show 0 ≤ (vp_nar .byte 0).toInt by omega), (show (vp_nar .byte 0).toInt ≤ 0 by omega)⟩
set_option maxRecDepth 20000 in
set_option maxHeartbeats 2000000 in
theorem o_fJ0_length_8abf5_K1 {σ : gS} (hIσ : JC σ)   : Ok (fJ0_length_8abf5_K1 σ ) (fun out => 0 ≤ out.toInt ∧ out.toInt ≤ 7) := by
  unfold fJ0_length_8abf5_K1
  refine ok_bd.mpr ?_
  try unfold fJ0_coder_7d493_K1
  refine ok_ite.mpr ⟨fun h_1 => ?_, fun h_1 => ?_⟩
  · have f2 : (1 : Int32).toInt = 1 := by decide
    have f3 : (0 : Int32).toInt = 0 := by decide
    have g4 : (1 : Int32).toInt = (0 : Int32).toInt := by rw [h_1]
    exfalso
    omega
  · have f5 : (1 : Int32).toInt = 1 := by decide
    have f6 : (0 : Int32).toInt = 0 := by decide
    have g7 : (1 : Int32).toInt ≠ (0 : Int32).toInt := fun z => h_1 (Int32.toInt_inj.mp z)
    refine ok_some.mpr ?_
    refine ok_some.mpr ?_
    have f8 : ((7 : Int32) >>> ((vp_nar .byte 0) &&& 31)).toInt = 7 := by decide
    exact ⟨(show 0 ≤ ((7 : Int32) >>> ((vp_nar .byte 0) &&& 31)).toInt by omega), (show ((7 : Int32) >>> ((vp_nar .byte 0) &&& 31)).toInt ≤ 7 by omega)⟩
set_option maxRecDepth 20000 in
set_option maxHeartbeats 2000000 in
theorem o_fJ0_isLatin1_aae02_K1 {σ : gS} (hIσ : JC σ)   : Ok (fJ0_isLatin1_aae02_K1 σ ) (fun out => 1 ≤ out.toInt ∧ out.toInt ≤ 1) := by
  unfold fJ0_isLatin1_aae02_K1
  refine ok_ite.mpr ⟨fun h_1 => ?_, fun h_1 => ?_⟩
  · have f2 : (1 : Int32).toInt = 1 := by decide
    have f3 : (0 : Int32).toInt = 0 := by decide
    have g4 : (1 : Int32).toInt = (0 : Int32).toInt := by rw [h_1]
    exfalso
    omega
  · have f5 : (1 : Int32).toInt = 1 := by decide
    have f6 : (0 : Int32).toInt = 0 := by decide
    have g7 : (1 : Int32).toInt ≠ (0 : Int32).toInt := fun z => h_1 (Int32.toInt_inj.mp z)
    refine ok_ite.mpr ⟨fun h_8 => ?_, fun h_8 => ?_⟩
    · have g9 : (0 : Int32).toInt = (0 : Int32).toInt := by rw [h_8]
      refine ok_some.mpr ?_
      exact ⟨(show 1 ≤ (1 : Int32).toInt by omega), (show (1 : Int32).toInt ≤ 1 by omega)⟩
    · have g10 : (0 : Int32).toInt ≠ (0 : Int32).toInt := fun z => h_8 (Int32.toInt_inj.mp z)
      exfalso
      omega
set_option maxRecDepth 20000 in
set_option maxHeartbeats 2000000 in
theorem o_fJ1_charAt_3b067_V1 {σ : gS} (hIσ : JC σ) {p1 : Int32} (pre0 : 0 ≤ p1.toInt ∧ p1.toInt < 7) : Ok (fJ1_charAt_3b067_V1 σ p1) (fun _ => True) := by
  unfold fJ1_charAt_3b067_V1
  have f1 : (7 : Int32).toInt = 7 := by decide
  refine ok_bd.mpr ((o_fJ0_checkIndex_df160 hIσ (p0 := p1) (p1 := (7 : Int32)) (by omega)).mono (fun u2 ho_3 => ?_))
  refine ok_gd.mpr ⟨gb_of (by omega) (by omega), ?_⟩
  refine ok_nm2 (fun v3 ev3 => ?_)
  have qv3 : v3.toInt = ((bytC 1) p1.toNatClampNeg).toInt := congrArg Int32.toInt ev3
  refine ok_some.mpr ?_
  exact trivial
set_option maxRecDepth 20000 in
set_option maxHeartbeats 2000000 in
theorem o_fJ0_charAt_5068e_K1 {σ : gS} (hIσ : JC σ) {p1 : Int32} (pre0 : 0 ≤ p1.toInt ∧ p1.toInt < 7) : Ok (fJ0_charAt_5068e_K1 σ p1) (fun _ => True) := by
  unfold fJ0_charAt_5068e_K1
  refine ok_bd.mpr ?_
  try unfold fJ0_isLatin1_aae02_K1
  refine ok_ite.mpr ⟨fun h_1 => ?_, fun h_1 => ?_⟩
  · have f2 : (1 : Int32).toInt = 1 := by decide
    have f3 : (0 : Int32).toInt = 0 := by decide
    have g4 : (1 : Int32).toInt = (0 : Int32).toInt := by rw [h_1]
    exfalso
    omega
  · have f5 : (1 : Int32).toInt = 1 := by decide
    have f6 : (0 : Int32).toInt = 0 := by decide
    have g7 : (1 : Int32).toInt ≠ (0 : Int32).toInt := fun z => h_1 (Int32.toInt_inj.mp z)
    refine ok_ite.mpr ⟨fun h_8 => ?_, fun h_8 => ?_⟩
    · have g9 : (0 : Int32).toInt = (0 : Int32).toInt := by rw [h_8]
      refine ok_some.mpr ?_
      refine ok_ite.mpr ⟨fun h_10 => ?_, fun h_10 => ?_⟩
      · have g11 : (1 : Int32).toInt = (0 : Int32).toInt := by rw [h_10]
        exfalso
        omega
      · have g12 : (1 : Int32).toInt ≠ (0 : Int32).toInt := fun z => h_10 (Int32.toInt_inj.mp z)
        refine ok_bd.mpr ((o_fJ1_charAt_3b067_V1 hIσ (p1 := p1) (by omega)).mono (fun r5_2 ho_14 => ?_))
        refine ok_some.mpr ?_
        exact trivial
    · have g15 : (0 : Int32).toInt ≠ (0 : Int32).toInt := fun z => h_8 (Int32.toInt_inj.mp z)
      exfalso
      omega
set_option maxRecDepth 20000 in
set_option maxHeartbeats 2000000 in
theorem o_fX3_isWord_K1 {σ : gS} (hIσ : JC σ)   : Ok (fX3_isWord_K1 σ ) (fun out => 0 ≤ out.toInt ∧ out.toInt ≤ 1) := by
  unfold fX3_isWord_K1
  have f1 : 0 ≤ (σ.1 46 6).toInt ∧ (σ.1 46 6).toInt ≤ 1600 := hIσ 46 6
  have f2 : 0 ≤ (σ.1 46 7).toInt ∧ (σ.1 46 7).toInt ≤ 1600 := hIσ 46 7
  refine ok_bd.mpr ?_
  try unfold fJ0_length_8abf5_K1
  refine ok_bd.mpr ?_
  try unfold fJ0_coder_7d493_K1
  refine ok_ite.mpr ⟨fun h_3 => ?_, fun h_3 => ?_⟩
  · have f4 : (1 : Int32).toInt = 1 := by decide
    have f5 : (0 : Int32).toInt = 0 := by decide
    have g6 : (1 : Int32).toInt = (0 : Int32).toInt := by rw [h_3]
    exfalso
    omega
  · have f7 : (1 : Int32).toInt = 1 := by decide
    have f8 : (0 : Int32).toInt = 0 := by decide
    have g9 : (1 : Int32).toInt ≠ (0 : Int32).toInt := fun z => h_3 (Int32.toInt_inj.mp z)
    refine ok_some.mpr ?_
    refine ok_some.mpr ?_
    refine ok_ite.mpr ⟨fun h_10 => ?_, fun h_10 => ?_⟩
    · have f11 : ((σ.1 46 7) - (σ.1 46 6)).toInt = (σ.1 46 7).toInt - (σ.1 46 6).toInt := isub_toInt (by omega) (by omega)
      have f12 : ((7 : Int32) >>> ((vp_nar .byte 0) &&& 31)).toInt = 7 := by decide
      have g13 : ((σ.1 46 7) - (σ.1 46 6)).toInt = ((7 : Int32) >>> ((vp_nar .byte 0) &&& 31)).toInt := by rw [h_10]
      refine ok_nm2 (fun x4_3_4 ex4_3_4 => ?_)
      have qx4_3_4 : x4_3_4.toInt = 0 := by rw [ex4_3_4]; decide
      refine ok_lpc (I := fun n s => n = (11 + 1 - s.toInt).toNat ∧ 0 ≤ s.toInt ∧ s.toInt ≤ 11) (fun rec20_5r n_5 s_5 hs_5 hrec_5 => ?_) K9 ((11 + 1 - x4_3_4.toInt).toNat) x4_3_4 ⟨rfl, (show 0 ≤ x4_3_4.toInt by omega), (show x4_3_4.toInt ≤ 11 by omega)⟩ (by unfold K9; omega)
      obtain ⟨a2_5, hq_5⟩ : ∃ y, y = s_5 := ⟨_, rfl⟩
      subst hq_5
      obtain ⟨hn_5, b0a2_5, b1a2_5⟩ := hs_5
      skip
      unfold bX3_isWord_K1_20
      try dsimp only
      refine ok_bd.mpr ?_
      try unfold fJ0_length_8abf5_K1
      refine ok_bd.mpr ?_
      try unfold fJ0_coder_7d493_K1
      refine ok_ite.mpr ⟨fun h_14 => ?_, fun h_14 => ?_⟩
      · have g15 : (1 : Int32).toInt = (0 : Int32).toInt := by rw [h_14]
        exfalso
        omega
      · have g16 : (1 : Int32).toInt ≠ (0 : Int32).toInt := fun z => h_14 (Int32.toInt_inj.mp z)
        refine ok_some.mpr ?_
        refine ok_some.mpr ?_
        refine ok_ite.mpr ⟨fun h_17 => ?_, fun h_17 => ?_⟩
        · have g18 : ((7 : Int32) >>> ((vp_nar .byte 0) &&& 31)).toInt ≤ a2_5.toInt := Int32.le_iff_toInt_le.mp h_17
          refine ok_some.mpr ?_
          exact ⟨(show 0 ≤ (1 : Int32).toInt by omega), (show (1 : Int32).toInt ≤ 1 by omega)⟩
        · have g19 : ¬ ((7 : Int32) >>> ((vp_nar .byte 0) &&& 31)).toInt ≤ a2_5.toInt := fun z => h_17 (Int32.le_iff_toInt_le.mpr z)
          have f20 : ((σ.1 46 6) + a2_5).toInt = (σ.1 46 6).toInt + a2_5.toInt := iadd_toInt (by omega) (by omega)
          refine ok_gd.mpr ⟨gb_of (by omega) (by omega), ?_⟩
          refine ok_nm2 (fun v8_22_25_26 ev8_22_25_26 => ?_)
          have qv8_22_25_26 : v8_22_25_26.toInt = (σ.1 1 ((σ.1 46 6) + a2_5).toNatClampNeg).toInt := congrArg Int32.toInt ev8_22_25_26
          refine ok_bd.mpr ((o_fJ0_charAt_5068e_K1 hIσ (p1 := a2_5) (by omega)).mono (fun r10_22_25_26 ho_22 => ?_))
          refine ok_ite.mpr ⟨fun h_23 => ?_, fun h_23 => ?_⟩
          · have g24 : v8_22_25_26.toInt = r10_22_25_26.toInt := by rw [h_23]
            refine ok_nm2 (fun x12_22_25_26 ex12_22_25_26 => ?_)
            have f25 : (a2_5 + (1 : Int32)).toInt = a2_5.toInt + (1 : Int32).toInt := iadd_toInt (by omega) (by omega)
            have qx12_22_25_26 : x12_22_25_26.toInt = (a2_5 + 1).toInt := congrArg Int32.toInt ex12_22_25_26
            exact hrec_5 _ x12_22_25_26 (show (11 + 1 - x12_22_25_26.toInt).toNat < n_5 by omega) ⟨rfl, (show 0 ≤ x12_22_25_26.toInt by omega), (show x12_22_25_26.toInt ≤ 11 by omega)⟩
          · have g26 : v8_22_25_26.toInt ≠ r10_22_25_26.toInt := fun z => h_23 (Int32.toInt_inj.mp z)
            refine ok_some.mpr ?_
            exact ⟨(show 0 ≤ (0 : Int32).toInt by omega), (show (0 : Int32).toInt ≤ 1 by omega)⟩
    · have f27 : ((σ.1 46 7) - (σ.1 46 6)).toInt = (σ.1 46 7).toInt - (σ.1 46 6).toInt := isub_toInt (by omega) (by omega)
      have f28 : ((7 : Int32) >>> ((vp_nar .byte 0) &&& 31)).toInt = 7 := by decide
      have g29 : ((σ.1 46 7) - (σ.1 46 6)).toInt ≠ ((7 : Int32) >>> ((vp_nar .byte 0) &&& 31)).toInt := fun z => h_10 (Int32.toInt_inj.mp z)
      refine ok_some.mpr ?_
      exact ⟨(show 0 ≤ (0 : Int32).toInt by omega), (show (0 : Int32).toInt ≤ 1 by omega)⟩
set_option maxRecDepth 20000 in
set_option maxHeartbeats 2000000 in
theorem o_fJ0_coder_7d493_K2 {σ : gS} (hIσ : JC σ)   : Ok (fJ0_coder_7d493_K2 σ ) (fun out => 0 ≤ out.toInt ∧ out.toInt ≤ 0) := by
  unfold fJ0_coder_7d493_K2
  refine ok_ite.mpr ⟨fun h_1 => ?_, fun h_1 => ?_⟩
  · have f2 : (1 : Int32).toInt = 1 := by decide
    have f3 : (0 : Int32).toInt = 0 := by decide
    have g4 : (1 : Int32).toInt = (0 : Int32).toInt := by rw [h_1]
    exfalso
    omega
  · have f5 : (1 : Int32).toInt = 1 := by decide
    have f6 : (0 : Int32).toInt = 0 := by decide
    have g7 : (1 : Int32).toInt ≠ (0 : Int32).toInt := fun z => h_1 (Int32.toInt_inj.mp z)
    refine ok_some.mpr ?_
    have f8 : (vp_nar .byte 0).toInt = 0 := by decide
    exact ⟨(show 0 ≤ (vp_nar .byte 0).toInt by omega), (show (vp_nar .byte 0).toInt ≤ 0 by omega)⟩
set_option maxRecDepth 20000 in
set_option maxHeartbeats 2000000 in
theorem o_fJ0_length_8abf5_K2 {σ : gS} (hIσ : JC σ)   : Ok (fJ0_length_8abf5_K2 σ ) (fun out => 0 ≤ out.toInt ∧ out.toInt ≤ 5) := by
  unfold fJ0_length_8abf5_K2
  refine ok_bd.mpr ?_
  try unfold fJ0_coder_7d493_K2
  refine ok_ite.mpr ⟨fun h_1 => ?_, fun h_1 => ?_⟩
  · have f2 : (1 : Int32).toInt = 1 := by decide
    have f3 : (0 : Int32).toInt = 0 := by decide
    have g4 : (1 : Int32).toInt = (0 : Int32).toInt := by rw [h_1]
    exfalso
    omega
  · have f5 : (1 : Int32).toInt = 1 := by decide
    have f6 : (0 : Int32).toInt = 0 := by decide
    have g7 : (1 : Int32).toInt ≠ (0 : Int32).toInt := fun z => h_1 (Int32.toInt_inj.mp z)
    refine ok_some.mpr ?_
    refine ok_some.mpr ?_
    have f8 : ((5 : Int32) >>> ((vp_nar .byte 0) &&& 31)).toInt = 5 := by decide
    exact ⟨(show 0 ≤ ((5 : Int32) >>> ((vp_nar .byte 0) &&& 31)).toInt by omega), (show ((5 : Int32) >>> ((vp_nar .byte 0) &&& 31)).toInt ≤ 5 by omega)⟩
set_option maxRecDepth 20000 in
set_option maxHeartbeats 2000000 in
theorem o_fJ0_isLatin1_aae02_K2 {σ : gS} (hIσ : JC σ)   : Ok (fJ0_isLatin1_aae02_K2 σ ) (fun out => 1 ≤ out.toInt ∧ out.toInt ≤ 1) := by
  unfold fJ0_isLatin1_aae02_K2
  refine ok_ite.mpr ⟨fun h_1 => ?_, fun h_1 => ?_⟩
  · have f2 : (1 : Int32).toInt = 1 := by decide
    have f3 : (0 : Int32).toInt = 0 := by decide
    have g4 : (1 : Int32).toInt = (0 : Int32).toInt := by rw [h_1]
    exfalso
    omega
  · have f5 : (1 : Int32).toInt = 1 := by decide
    have f6 : (0 : Int32).toInt = 0 := by decide
    have g7 : (1 : Int32).toInt ≠ (0 : Int32).toInt := fun z => h_1 (Int32.toInt_inj.mp z)
    refine ok_ite.mpr ⟨fun h_8 => ?_, fun h_8 => ?_⟩
    · have g9 : (0 : Int32).toInt = (0 : Int32).toInt := by rw [h_8]
      refine ok_some.mpr ?_
      exact ⟨(show 1 ≤ (1 : Int32).toInt by omega), (show (1 : Int32).toInt ≤ 1 by omega)⟩
    · have g10 : (0 : Int32).toInt ≠ (0 : Int32).toInt := fun z => h_8 (Int32.toInt_inj.mp z)
      exfalso
      omega
set_option maxRecDepth 20000 in
set_option maxHeartbeats 2000000 in
theorem o_fJ1_charAt_3b067_V2 {σ : gS} (hIσ : JC σ) {p1 : Int32} (pre0 : 0 ≤ p1.toInt ∧ p1.toInt < 5) : Ok (fJ1_charAt_3b067_V2 σ p1) (fun _ => True) := by
  unfold fJ1_charAt_3b067_V2
  have f1 : (5 : Int32).toInt = 5 := by decide
  refine ok_bd.mpr ((o_fJ0_checkIndex_df160 hIσ (p0 := p1) (p1 := (5 : Int32)) (by omega)).mono (fun u2 ho_3 => ?_))
  refine ok_gd.mpr ⟨gb_of (by omega) (by omega), ?_⟩
  refine ok_nm2 (fun v3 ev3 => ?_)
  have qv3 : v3.toInt = ((bytC 2) p1.toNatClampNeg).toInt := congrArg Int32.toInt ev3
  refine ok_some.mpr ?_
  exact trivial
set_option maxRecDepth 20000 in
set_option maxHeartbeats 2000000 in
theorem o_fJ0_charAt_5068e_K2 {σ : gS} (hIσ : JC σ) {p1 : Int32} (pre0 : 0 ≤ p1.toInt ∧ p1.toInt < 5) : Ok (fJ0_charAt_5068e_K2 σ p1) (fun _ => True) := by
  unfold fJ0_charAt_5068e_K2
  refine ok_bd.mpr ?_
  try unfold fJ0_isLatin1_aae02_K2
  refine ok_ite.mpr ⟨fun h_1 => ?_, fun h_1 => ?_⟩
  · have f2 : (1 : Int32).toInt = 1 := by decide
    have f3 : (0 : Int32).toInt = 0 := by decide
    have g4 : (1 : Int32).toInt = (0 : Int32).toInt := by rw [h_1]
    exfalso
    omega
  · have f5 : (1 : Int32).toInt = 1 := by decide
    have f6 : (0 : Int32).toInt = 0 := by decide
    have g7 : (1 : Int32).toInt ≠ (0 : Int32).toInt := fun z => h_1 (Int32.toInt_inj.mp z)
    refine ok_ite.mpr ⟨fun h_8 => ?_, fun h_8 => ?_⟩
    · have g9 : (0 : Int32).toInt = (0 : Int32).toInt := by rw [h_8]
      refine ok_some.mpr ?_
      refine ok_ite.mpr ⟨fun h_10 => ?_, fun h_10 => ?_⟩
      · have g11 : (1 : Int32).toInt = (0 : Int32).toInt := by rw [h_10]
        exfalso
        omega
      · have g12 : (1 : Int32).toInt ≠ (0 : Int32).toInt := fun z => h_10 (Int32.toInt_inj.mp z)
        refine ok_bd.mpr ((o_fJ1_charAt_3b067_V2 hIσ (p1 := p1) (by omega)).mono (fun r5_2 ho_14 => ?_))
        refine ok_some.mpr ?_
        exact trivial
    · have g15 : (0 : Int32).toInt ≠ (0 : Int32).toInt := fun z => h_8 (Int32.toInt_inj.mp z)
      exfalso
      omega
set_option maxRecDepth 20000 in
set_option maxHeartbeats 2000000 in
theorem o_fX3_isWord_K2 {σ : gS} (hIσ : JC σ)   : Ok (fX3_isWord_K2 σ ) (fun out => 0 ≤ out.toInt ∧ out.toInt ≤ 1) := by
  unfold fX3_isWord_K2
  have f1 : 0 ≤ (σ.1 46 6).toInt ∧ (σ.1 46 6).toInt ≤ 1600 := hIσ 46 6
  have f2 : 0 ≤ (σ.1 46 7).toInt ∧ (σ.1 46 7).toInt ≤ 1600 := hIσ 46 7
  refine ok_bd.mpr ?_
  try unfold fJ0_length_8abf5_K2
  refine ok_bd.mpr ?_
  try unfold fJ0_coder_7d493_K2
  refine ok_ite.mpr ⟨fun h_3 => ?_, fun h_3 => ?_⟩
  · have f4 : (1 : Int32).toInt = 1 := by decide
    have f5 : (0 : Int32).toInt = 0 := by decide
    have g6 : (1 : Int32).toInt = (0 : Int32).toInt := by rw [h_3]
    exfalso
    omega
  · have f7 : (1 : Int32).toInt = 1 := by decide
    have f8 : (0 : Int32).toInt = 0 := by decide
    have g9 : (1 : Int32).toInt ≠ (0 : Int32).toInt := fun z => h_3 (Int32.toInt_inj.mp z)
    refine ok_some.mpr ?_
    refine ok_some.mpr ?_
    refine ok_ite.mpr ⟨fun h_10 => ?_, fun h_10 => ?_⟩
    · have f11 : ((σ.1 46 7) - (σ.1 46 6)).toInt = (σ.1 46 7).toInt - (σ.1 46 6).toInt := isub_toInt (by omega) (by omega)
      have f12 : ((5 : Int32) >>> ((vp_nar .byte 0) &&& 31)).toInt = 5 := by decide
      have g13 : ((σ.1 46 7) - (σ.1 46 6)).toInt = ((5 : Int32) >>> ((vp_nar .byte 0) &&& 31)).toInt := by rw [h_10]
      refine ok_nm2 (fun x4_3_4 ex4_3_4 => ?_)
      have qx4_3_4 : x4_3_4.toInt = 0 := by rw [ex4_3_4]; decide
      refine ok_lpc (I := fun n s => n = (5 + 1 - s.toInt).toNat ∧ 0 ≤ s.toInt ∧ s.toInt ≤ 5) (fun rec20_5r n_5 s_5 hs_5 hrec_5 => ?_) K9 ((5 + 1 - x4_3_4.toInt).toNat) x4_3_4 ⟨rfl, (show 0 ≤ x4_3_4.toInt by omega), (show x4_3_4.toInt ≤ 5 by omega)⟩ (by unfold K9; omega)
      obtain ⟨a2_5, hq_5⟩ : ∃ y, y = s_5 := ⟨_, rfl⟩
      subst hq_5
      obtain ⟨hn_5, b0a2_5, b1a2_5⟩ := hs_5
      skip
      unfold bX3_isWord_K2_20
      try dsimp only
      refine ok_bd.mpr ?_
      try unfold fJ0_length_8abf5_K2
      refine ok_bd.mpr ?_
      try unfold fJ0_coder_7d493_K2
      refine ok_ite.mpr ⟨fun h_14 => ?_, fun h_14 => ?_⟩
      · have g15 : (1 : Int32).toInt = (0 : Int32).toInt := by rw [h_14]
        exfalso
        omega
      · have g16 : (1 : Int32).toInt ≠ (0 : Int32).toInt := fun z => h_14 (Int32.toInt_inj.mp z)
        refine ok_some.mpr ?_
        refine ok_some.mpr ?_
        refine ok_ite.mpr ⟨fun h_17 => ?_, fun h_17 => ?_⟩
        · have g18 : ((5 : Int32) >>> ((vp_nar .byte 0) &&& 31)).toInt ≤ a2_5.toInt := Int32.le_iff_toInt_le.mp h_17
          refine ok_some.mpr ?_
          exact ⟨(show 0 ≤ (1 : Int32).toInt by omega), (show (1 : Int32).toInt ≤ 1 by omega)⟩
        · have g19 : ¬ ((5 : Int32) >>> ((vp_nar .byte 0) &&& 31)).toInt ≤ a2_5.toInt := fun z => h_17 (Int32.le_iff_toInt_le.mpr z)
          have f20 : ((σ.1 46 6) + a2_5).toInt = (σ.1 46 6).toInt + a2_5.toInt := iadd_toInt (by omega) (by omega)
          refine ok_gd.mpr ⟨gb_of (by omega) (by omega), ?_⟩
          refine ok_nm2 (fun v8_18_21_22 ev8_18_21_22 => ?_)
          have qv8_18_21_22 : v8_18_21_22.toInt = (σ.1 1 ((σ.1 46 6) + a2_5).toNatClampNeg).toInt := congrArg Int32.toInt ev8_18_21_22
          refine ok_bd.mpr ((o_fJ0_charAt_5068e_K2 hIσ (p1 := a2_5) (by omega)).mono (fun r10_18_21_22 ho_22 => ?_))
          refine ok_ite.mpr ⟨fun h_23 => ?_, fun h_23 => ?_⟩
          · have g24 : v8_18_21_22.toInt = r10_18_21_22.toInt := by rw [h_23]
            refine ok_nm2 (fun x12_18_21_22 ex12_18_21_22 => ?_)
            have f25 : (a2_5 + (1 : Int32)).toInt = a2_5.toInt + (1 : Int32).toInt := iadd_toInt (by omega) (by omega)
            have qx12_18_21_22 : x12_18_21_22.toInt = (a2_5 + 1).toInt := congrArg Int32.toInt ex12_18_21_22
            exact hrec_5 _ x12_18_21_22 (show (5 + 1 - x12_18_21_22.toInt).toNat < n_5 by omega) ⟨rfl, (show 0 ≤ x12_18_21_22.toInt by omega), (show x12_18_21_22.toInt ≤ 5 by omega)⟩
          · have g26 : v8_18_21_22.toInt ≠ r10_18_21_22.toInt := fun z => h_23 (Int32.toInt_inj.mp z)
            refine ok_some.mpr ?_
            exact ⟨(show 0 ≤ (0 : Int32).toInt by omega), (show (0 : Int32).toInt ≤ 1 by omega)⟩
    · have f27 : ((σ.1 46 7) - (σ.1 46 6)).toInt = (σ.1 46 7).toInt - (σ.1 46 6).toInt := isub_toInt (by omega) (by omega)
      have f28 : ((5 : Int32) >>> ((vp_nar .byte 0) &&& 31)).toInt = 5 := by decide
      have g29 : ((σ.1 46 7) - (σ.1 46 6)).toInt ≠ ((5 : Int32) >>> ((vp_nar .byte 0) &&& 31)).toInt := fun z => h_10 (Int32.toInt_inj.mp z)
      refine ok_some.mpr ?_
      exact ⟨(show 0 ≤ (0 : Int32).toInt by omega), (show (0 : Int32).toInt ≤ 1 by omega)⟩
set_option maxRecDepth 20000 in
set_option maxHeartbeats 2000000 in
theorem o_fJ0_coder_7d493_K3 {σ : gS} (hIσ : JC σ)   : Ok (fJ0_coder_7d493_K3 σ ) (fun out => 0 ≤ out.toInt ∧ out.toInt ≤ 0) := by
  unfold fJ0_coder_7d493_K3
  refine ok_ite.mpr ⟨fun h_1 => ?_, fun h_1 => ?_⟩
  · have f2 : (1 : Int32).toInt = 1 := by decide
    have f3 : (0 : Int32).toInt = 0 := by decide
    have g4 : (1 : Int32).toInt = (0 : Int32).toInt := by rw [h_1]
    exfalso
    omega
  · have f5 : (1 : Int32).toInt = 1 := by decide
    have f6 : (0 : Int32).toInt = 0 := by decide
    have g7 : (1 : Int32).toInt ≠ (0 : Int32).toInt := fun z => h_1 (Int32.toInt_inj.mp z)
    refine ok_some.mpr ?_
    have f8 : (vp_nar .byte 0).toInt = 0 := by decide
    exact ⟨(show 0 ≤ (vp_nar .byte 0).toInt by omega), (show (vp_nar .byte 0).toInt ≤ 0 by omega)⟩
set_option maxRecDepth 20000 in
set_option maxHeartbeats 2000000 in
theorem o_fJ0_length_8abf5_K3 {σ : gS} (hIσ : JC σ)   : Ok (fJ0_length_8abf5_K3 σ ) (fun out => 0 ≤ out.toInt ∧ out.toInt ≤ 3) := by
  unfold fJ0_length_8abf5_K3
  refine ok_bd.mpr ?_
  try unfold fJ0_coder_7d493_K3
  refine ok_ite.mpr ⟨fun h_1 => ?_, fun h_1 => ?_⟩
  · have f2 : (1 : Int32).toInt = 1 := by decide
    have f3 : (0 : Int32).toInt = 0 := by decide
    have g4 : (1 : Int32).toInt = (0 : Int32).toInt := by rw [h_1]
    exfalso
    omega
  · have f5 : (1 : Int32).toInt = 1 := by decide
    have f6 : (0 : Int32).toInt = 0 := by decide
    have g7 : (1 : Int32).toInt ≠ (0 : Int32).toInt := fun z => h_1 (Int32.toInt_inj.mp z)
    refine ok_some.mpr ?_
    refine ok_some.mpr ?_
    have f8 : ((3 : Int32) >>> ((vp_nar .byte 0) &&& 31)).toInt = 3 := by decide
    exact ⟨(show 0 ≤ ((3 : Int32) >>> ((vp_nar .byte 0) &&& 31)).toInt by omega), (show ((3 : Int32) >>> ((vp_nar .byte 0) &&& 31)).toInt ≤ 3 by omega)⟩
set_option maxRecDepth 20000 in
set_option maxHeartbeats 2000000 in
theorem o_fJ0_isLatin1_aae02_K3 {σ : gS} (hIσ : JC σ)   : Ok (fJ0_isLatin1_aae02_K3 σ ) (fun out => 1 ≤ out.toInt ∧ out.toInt ≤ 1) := by
  unfold fJ0_isLatin1_aae02_K3
  refine ok_ite.mpr ⟨fun h_1 => ?_, fun h_1 => ?_⟩
  · have f2 : (1 : Int32).toInt = 1 := by decide
    have f3 : (0 : Int32).toInt = 0 := by decide
    have g4 : (1 : Int32).toInt = (0 : Int32).toInt := by rw [h_1]
    exfalso
    omega
  · have f5 : (1 : Int32).toInt = 1 := by decide
    have f6 : (0 : Int32).toInt = 0 := by decide
    have g7 : (1 : Int32).toInt ≠ (0 : Int32).toInt := fun z => h_1 (Int32.toInt_inj.mp z)
    refine ok_ite.mpr ⟨fun h_8 => ?_, fun h_8 => ?_⟩
    · have g9 : (0 : Int32).toInt = (0 : Int32).toInt := by rw [h_8]
      refine ok_some.mpr ?_
      exact ⟨(show 1 ≤ (1 : Int32).toInt by omega), (show (1 : Int32).toInt ≤ 1 by omega)⟩
    · have g10 : (0 : Int32).toInt ≠ (0 : Int32).toInt := fun z => h_8 (Int32.toInt_inj.mp z)
      exfalso
      omega
set_option maxRecDepth 20000 in
set_option maxHeartbeats 2000000 in
theorem o_fJ1_charAt_3b067_V3 {σ : gS} (hIσ : JC σ) {p1 : Int32} (pre0 : 0 ≤ p1.toInt ∧ p1.toInt < 3) : Ok (fJ1_charAt_3b067_V3 σ p1) (fun _ => True) := by
  unfold fJ1_charAt_3b067_V3
  have f1 : (3 : Int32).toInt = 3 := by decide
  refine ok_bd.mpr ((o_fJ0_checkIndex_df160 hIσ (p0 := p1) (p1 := (3 : Int32)) (by omega)).mono (fun u2 ho_3 => ?_))
  refine ok_gd.mpr ⟨gb_of (by omega) (by omega), ?_⟩
  refine ok_nm2 (fun v3 ev3 => ?_)
  have qv3 : v3.toInt = ((bytC 3) p1.toNatClampNeg).toInt := congrArg Int32.toInt ev3
  refine ok_some.mpr ?_
  exact trivial
set_option maxRecDepth 20000 in
set_option maxHeartbeats 2000000 in
theorem o_fJ0_charAt_5068e_K3 {σ : gS} (hIσ : JC σ) {p1 : Int32} (pre0 : 0 ≤ p1.toInt ∧ p1.toInt < 3) : Ok (fJ0_charAt_5068e_K3 σ p1) (fun _ => True) := by
  unfold fJ0_charAt_5068e_K3
  refine ok_bd.mpr ?_
  try unfold fJ0_isLatin1_aae02_K3
  refine ok_ite.mpr ⟨fun h_1 => ?_, fun h_1 => ?_⟩
  · have f2 : (1 : Int32).toInt = 1 := by decide
    have f3 : (0 : Int32).toInt = 0 := by decide
    have g4 : (1 : Int32).toInt = (0 : Int32).toInt := by rw [h_1]
    exfalso
    omega
  · have f5 : (1 : Int32).toInt = 1 := by decide
    have f6 : (0 : Int32).toInt = 0 := by decide
    have g7 : (1 : Int32).toInt ≠ (0 : Int32).toInt := fun z => h_1 (Int32.toInt_inj.mp z)
    refine ok_ite.mpr ⟨fun h_8 => ?_, fun h_8 => ?_⟩
    · have g9 : (0 : Int32).toInt = (0 : Int32).toInt := by rw [h_8]
      refine ok_some.mpr ?_
      refine ok_ite.mpr ⟨fun h_10 => ?_, fun h_10 => ?_⟩
      · have g11 : (1 : Int32).toInt = (0 : Int32).toInt := by rw [h_10]
        exfalso
        omega
      · have g12 : (1 : Int32).toInt ≠ (0 : Int32).toInt := fun z => h_10 (Int32.toInt_inj.mp z)
        refine ok_bd.mpr ((o_fJ1_charAt_3b067_V3 hIσ (p1 := p1) (by omega)).mono (fun r5_2 ho_14 => ?_))
        refine ok_some.mpr ?_
        exact trivial
    · have g15 : (0 : Int32).toInt ≠ (0 : Int32).toInt := fun z => h_8 (Int32.toInt_inj.mp z)
      exfalso
      omega
set_option maxRecDepth 20000 in
set_option maxHeartbeats 2000000 in
theorem o_fX3_isWord_K3 {σ : gS} (hIσ : JC σ)   : Ok (fX3_isWord_K3 σ ) (fun out => 0 ≤ out.toInt ∧ out.toInt ≤ 1) := by
  unfold fX3_isWord_K3
  have f1 : 0 ≤ (σ.1 46 6).toInt ∧ (σ.1 46 6).toInt ≤ 1600 := hIσ 46 6
  have f2 : 0 ≤ (σ.1 46 7).toInt ∧ (σ.1 46 7).toInt ≤ 1600 := hIσ 46 7
  refine ok_bd.mpr ?_
  try unfold fJ0_length_8abf5_K3
  refine ok_bd.mpr ?_
  try unfold fJ0_coder_7d493_K3
  refine ok_ite.mpr ⟨fun h_3 => ?_, fun h_3 => ?_⟩
  · have f4 : (1 : Int32).toInt = 1 := by decide
    have f5 : (0 : Int32).toInt = 0 := by decide
    have g6 : (1 : Int32).toInt = (0 : Int32).toInt := by rw [h_3]
    exfalso
    omega
  · have f7 : (1 : Int32).toInt = 1 := by decide
    have f8 : (0 : Int32).toInt = 0 := by decide
    have g9 : (1 : Int32).toInt ≠ (0 : Int32).toInt := fun z => h_3 (Int32.toInt_inj.mp z)
    refine ok_some.mpr ?_
    refine ok_some.mpr ?_
    refine ok_ite.mpr ⟨fun h_10 => ?_, fun h_10 => ?_⟩
    · have f11 : ((σ.1 46 7) - (σ.1 46 6)).toInt = (σ.1 46 7).toInt - (σ.1 46 6).toInt := isub_toInt (by omega) (by omega)
      have f12 : ((3 : Int32) >>> ((vp_nar .byte 0) &&& 31)).toInt = 3 := by decide
      have g13 : ((σ.1 46 7) - (σ.1 46 6)).toInt = ((3 : Int32) >>> ((vp_nar .byte 0) &&& 31)).toInt := by rw [h_10]
      refine ok_nm2 (fun x4_3_4 ex4_3_4 => ?_)
      have qx4_3_4 : x4_3_4.toInt = 0 := by rw [ex4_3_4]; decide
      refine ok_lpc (I := fun n s => n = (3 + 1 - s.toInt).toNat ∧ 0 ≤ s.toInt ∧ s.toInt ≤ 3) (fun rec20_5r n_5 s_5 hs_5 hrec_5 => ?_) K9 ((3 + 1 - x4_3_4.toInt).toNat) x4_3_4 ⟨rfl, (show 0 ≤ x4_3_4.toInt by omega), (show x4_3_4.toInt ≤ 3 by omega)⟩ (by unfold K9; omega)
      obtain ⟨a2_5, hq_5⟩ : ∃ y, y = s_5 := ⟨_, rfl⟩
      subst hq_5
      obtain ⟨hn_5, b0a2_5, b1a2_5⟩ := hs_5
      skip
      unfold bX3_isWord_K3_20
      try dsimp only
      refine ok_bd.mpr ?_
      try unfold fJ0_length_8abf5_K3
      refine ok_bd.mpr ?_
      try unfold fJ0_coder_7d493_K3
      refine ok_ite.mpr ⟨fun h_14 => ?_, fun h_14 => ?_⟩
      · have g15 : (1 : Int32).toInt = (0 : Int32).toInt := by rw [h_14]
        exfalso
        omega
      · have g16 : (1 : Int32).toInt ≠ (0 : Int32).toInt := fun z => h_14 (Int32.toInt_inj.mp z)
        refine ok_some.mpr ?_
        refine ok_some.mpr ?_
        refine ok_ite.mpr ⟨fun h_17 => ?_, fun h_17 => ?_⟩
        · have g18 : ((3 : Int32) >>> ((vp_nar .byte 0) &&& 31)).toInt ≤ a2_5.toInt := Int32.le_iff_toInt_le.mp h_17
          refine ok_some.mpr ?_
          exact ⟨(show 0 ≤ (1 : Int32).toInt by omega), (show (1 : Int32).toInt ≤ 1 by omega)⟩
        · have g19 : ¬ ((3 : Int32) >>> ((vp_nar .byte 0) &&& 31)).toInt ≤ a2_5.toInt := fun z => h_17 (Int32.le_iff_toInt_le.mpr z)
          have f20 : ((σ.1 46 6) + a2_5).toInt = (σ.1 46 6).toInt + a2_5.toInt := iadd_toInt (by omega) (by omega)
          refine ok_gd.mpr ⟨gb_of (by omega) (by omega), ?_⟩
          refine ok_nm2 (fun v8_14_17_18 ev8_14_17_18 => ?_)
          have qv8_14_17_18 : v8_14_17_18.toInt = (σ.1 1 ((σ.1 46 6) + a2_5).toNatClampNeg).toInt := congrArg Int32.toInt ev8_14_17_18
          refine ok_bd.mpr ((o_fJ0_charAt_5068e_K3 hIσ (p1 := a2_5) (by omega)).mono (fun r10_14_17_18 ho_22 => ?_))
          refine ok_ite.mpr ⟨fun h_23 => ?_, fun h_23 => ?_⟩
          · have g24 : v8_14_17_18.toInt = r10_14_17_18.toInt := by rw [h_23]
            refine ok_nm2 (fun x12_14_17_18 ex12_14_17_18 => ?_)
            have f25 : (a2_5 + (1 : Int32)).toInt = a2_5.toInt + (1 : Int32).toInt := iadd_toInt (by omega) (by omega)
            have qx12_14_17_18 : x12_14_17_18.toInt = (a2_5 + 1).toInt := congrArg Int32.toInt ex12_14_17_18
            exact hrec_5 _ x12_14_17_18 (show (3 + 1 - x12_14_17_18.toInt).toNat < n_5 by omega) ⟨rfl, (show 0 ≤ x12_14_17_18.toInt by omega), (show x12_14_17_18.toInt ≤ 3 by omega)⟩
          · have g26 : v8_14_17_18.toInt ≠ r10_14_17_18.toInt := fun z => h_23 (Int32.toInt_inj.mp z)
            refine ok_some.mpr ?_
            exact ⟨(show 0 ≤ (0 : Int32).toInt by omega), (show (0 : Int32).toInt ≤ 1 by omega)⟩
    · have f27 : ((σ.1 46 7) - (σ.1 46 6)).toInt = (σ.1 46 7).toInt - (σ.1 46 6).toInt := isub_toInt (by omega) (by omega)
      have f28 : ((3 : Int32) >>> ((vp_nar .byte 0) &&& 31)).toInt = 3 := by decide
      have g29 : ((σ.1 46 7) - (σ.1 46 6)).toInt ≠ ((3 : Int32) >>> ((vp_nar .byte 0) &&& 31)).toInt := fun z => h_10 (Int32.toInt_inj.mp z)
      refine ok_some.mpr ?_
      exact ⟨(show 0 ≤ (0 : Int32).toInt by omega), (show (0 : Int32).toInt ≤ 1 by omega)⟩
set_option maxRecDepth 20000 in
set_option maxHeartbeats 2000000 in
theorem o_fJ0_coder_7d493_K4 {σ : gS} (hIσ : JC σ)   : Ok (fJ0_coder_7d493_K4 σ ) (fun out => 0 ≤ out.toInt ∧ out.toInt ≤ 0) := by
  unfold fJ0_coder_7d493_K4
  refine ok_ite.mpr ⟨fun h_1 => ?_, fun h_1 => ?_⟩
  · have f2 : (1 : Int32).toInt = 1 := by decide
    have f3 : (0 : Int32).toInt = 0 := by decide
    have g4 : (1 : Int32).toInt = (0 : Int32).toInt := by rw [h_1]
    exfalso
    omega
  · have f5 : (1 : Int32).toInt = 1 := by decide
    have f6 : (0 : Int32).toInt = 0 := by decide
    have g7 : (1 : Int32).toInt ≠ (0 : Int32).toInt := fun z => h_1 (Int32.toInt_inj.mp z)
    refine ok_some.mpr ?_
    have f8 : (vp_nar .byte 0).toInt = 0 := by decide
    exact ⟨(show 0 ≤ (vp_nar .byte 0).toInt by omega), (show (vp_nar .byte 0).toInt ≤ 0 by omega)⟩
set_option maxRecDepth 20000 in
set_option maxHeartbeats 2000000 in
theorem o_fJ0_length_8abf5_K4 {σ : gS} (hIσ : JC σ)   : Ok (fJ0_length_8abf5_K4 σ ) (fun out => 0 ≤ out.toInt ∧ out.toInt ≤ 7) := by
  unfold fJ0_length_8abf5_K4
  refine ok_bd.mpr ?_
  try unfold fJ0_coder_7d493_K4
  refine ok_ite.mpr ⟨fun h_1 => ?_, fun h_1 => ?_⟩
  · have f2 : (1 : Int32).toInt = 1 := by decide
    have f3 : (0 : Int32).toInt = 0 := by decide
    have g4 : (1 : Int32).toInt = (0 : Int32).toInt := by rw [h_1]
    exfalso
    omega
  · have f5 : (1 : Int32).toInt = 1 := by decide
    have f6 : (0 : Int32).toInt = 0 := by decide
    have g7 : (1 : Int32).toInt ≠ (0 : Int32).toInt := fun z => h_1 (Int32.toInt_inj.mp z)
    refine ok_some.mpr ?_
    refine ok_some.mpr ?_
    have f8 : ((7 : Int32) >>> ((vp_nar .byte 0) &&& 31)).toInt = 7 := by decide
    exact ⟨(show 0 ≤ ((7 : Int32) >>> ((vp_nar .byte 0) &&& 31)).toInt by omega), (show ((7 : Int32) >>> ((vp_nar .byte 0) &&& 31)).toInt ≤ 7 by omega)⟩
set_option maxRecDepth 20000 in
set_option maxHeartbeats 2000000 in
theorem o_fJ0_isLatin1_aae02_K4 {σ : gS} (hIσ : JC σ)   : Ok (fJ0_isLatin1_aae02_K4 σ ) (fun out => 1 ≤ out.toInt ∧ out.toInt ≤ 1) := by
  unfold fJ0_isLatin1_aae02_K4
  refine ok_ite.mpr ⟨fun h_1 => ?_, fun h_1 => ?_⟩
  · have f2 : (1 : Int32).toInt = 1 := by decide
    have f3 : (0 : Int32).toInt = 0 := by decide
    have g4 : (1 : Int32).toInt = (0 : Int32).toInt := by rw [h_1]
    exfalso
    omega
  · have f5 : (1 : Int32).toInt = 1 := by decide
    have f6 : (0 : Int32).toInt = 0 := by decide
    have g7 : (1 : Int32).toInt ≠ (0 : Int32).toInt := fun z => h_1 (Int32.toInt_inj.mp z)
    refine ok_ite.mpr ⟨fun h_8 => ?_, fun h_8 => ?_⟩
    · have g9 : (0 : Int32).toInt = (0 : Int32).toInt := by rw [h_8]
      refine ok_some.mpr ?_
      exact ⟨(show 1 ≤ (1 : Int32).toInt by omega), (show (1 : Int32).toInt ≤ 1 by omega)⟩
    · have g10 : (0 : Int32).toInt ≠ (0 : Int32).toInt := fun z => h_8 (Int32.toInt_inj.mp z)
      exfalso
      omega
set_option maxRecDepth 20000 in
set_option maxHeartbeats 2000000 in
theorem o_fJ1_charAt_3b067_V4 {σ : gS} (hIσ : JC σ) {p1 : Int32} (pre0 : 0 ≤ p1.toInt ∧ p1.toInt < 7) : Ok (fJ1_charAt_3b067_V4 σ p1) (fun _ => True) := by
  unfold fJ1_charAt_3b067_V4
  have f1 : (7 : Int32).toInt = 7 := by decide
  refine ok_bd.mpr ((o_fJ0_checkIndex_df160 hIσ (p0 := p1) (p1 := (7 : Int32)) (by omega)).mono (fun u2 ho_3 => ?_))
  refine ok_gd.mpr ⟨gb_of (by omega) (by omega), ?_⟩
  refine ok_nm2 (fun v3 ev3 => ?_)
  have qv3 : v3.toInt = ((bytC 4) p1.toNatClampNeg).toInt := congrArg Int32.toInt ev3
  refine ok_some.mpr ?_
  exact trivial
set_option maxRecDepth 20000 in
set_option maxHeartbeats 2000000 in
theorem o_fJ0_charAt_5068e_K4 {σ : gS} (hIσ : JC σ) {p1 : Int32} (pre0 : 0 ≤ p1.toInt ∧ p1.toInt < 7) : Ok (fJ0_charAt_5068e_K4 σ p1) (fun _ => True) := by
  unfold fJ0_charAt_5068e_K4
  refine ok_bd.mpr ?_
  try unfold fJ0_isLatin1_aae02_K4
  refine ok_ite.mpr ⟨fun h_1 => ?_, fun h_1 => ?_⟩
  · have f2 : (1 : Int32).toInt = 1 := by decide
    have f3 : (0 : Int32).toInt = 0 := by decide
    have g4 : (1 : Int32).toInt = (0 : Int32).toInt := by rw [h_1]
    exfalso
    omega
  · have f5 : (1 : Int32).toInt = 1 := by decide
    have f6 : (0 : Int32).toInt = 0 := by decide
    have g7 : (1 : Int32).toInt ≠ (0 : Int32).toInt := fun z => h_1 (Int32.toInt_inj.mp z)
    refine ok_ite.mpr ⟨fun h_8 => ?_, fun h_8 => ?_⟩
    · have g9 : (0 : Int32).toInt = (0 : Int32).toInt := by rw [h_8]
      refine ok_some.mpr ?_
      refine ok_ite.mpr ⟨fun h_10 => ?_, fun h_10 => ?_⟩
      · have g11 : (1 : Int32).toInt = (0 : Int32).toInt := by rw [h_10]
        exfalso
        omega
      · have g12 : (1 : Int32).toInt ≠ (0 : Int32).toInt := fun z => h_10 (Int32.toInt_inj.mp z)
        refine ok_bd.mpr ((o_fJ1_charAt_3b067_V4 hIσ (p1 := p1) (by omega)).mono (fun r5_2 ho_14 => ?_))
        refine ok_some.mpr ?_
        exact trivial
    · have g15 : (0 : Int32).toInt ≠ (0 : Int32).toInt := fun z => h_8 (Int32.toInt_inj.mp z)
      exfalso
      omega
set_option maxRecDepth 20000 in
set_option maxHeartbeats 2000000 in
theorem o_fX3_isWord_K4 {σ : gS} (hIσ : JC σ)   : Ok (fX3_isWord_K4 σ ) (fun out => 0 ≤ out.toInt ∧ out.toInt ≤ 1) := by
  unfold fX3_isWord_K4
  have f1 : 0 ≤ (σ.1 46 6).toInt ∧ (σ.1 46 6).toInt ≤ 1600 := hIσ 46 6
  have f2 : 0 ≤ (σ.1 46 7).toInt ∧ (σ.1 46 7).toInt ≤ 1600 := hIσ 46 7
  refine ok_bd.mpr ?_
  try unfold fJ0_length_8abf5_K4
  refine ok_bd.mpr ?_
  try unfold fJ0_coder_7d493_K4
  refine ok_ite.mpr ⟨fun h_3 => ?_, fun h_3 => ?_⟩
  · have f4 : (1 : Int32).toInt = 1 := by decide
    have f5 : (0 : Int32).toInt = 0 := by decide
    have g6 : (1 : Int32).toInt = (0 : Int32).toInt := by rw [h_3]
    exfalso
    omega
  · have f7 : (1 : Int32).toInt = 1 := by decide
    have f8 : (0 : Int32).toInt = 0 := by decide
    have g9 : (1 : Int32).toInt ≠ (0 : Int32).toInt := fun z => h_3 (Int32.toInt_inj.mp z)
    refine ok_some.mpr ?_
    refine ok_some.mpr ?_
    refine ok_ite.mpr ⟨fun h_10 => ?_, fun h_10 => ?_⟩
    · have f11 : ((σ.1 46 7) - (σ.1 46 6)).toInt = (σ.1 46 7).toInt - (σ.1 46 6).toInt := isub_toInt (by omega) (by omega)
      have f12 : ((7 : Int32) >>> ((vp_nar .byte 0) &&& 31)).toInt = 7 := by decide
      have g13 : ((σ.1 46 7) - (σ.1 46 6)).toInt = ((7 : Int32) >>> ((vp_nar .byte 0) &&& 31)).toInt := by rw [h_10]
      refine ok_nm2 (fun x4_3_4 ex4_3_4 => ?_)
      have qx4_3_4 : x4_3_4.toInt = 0 := by rw [ex4_3_4]; decide
      refine ok_lpc (I := fun n s => n = (11 + 1 - s.toInt).toNat ∧ 0 ≤ s.toInt ∧ s.toInt ≤ 11) (fun rec20_5r n_5 s_5 hs_5 hrec_5 => ?_) K9 ((11 + 1 - x4_3_4.toInt).toNat) x4_3_4 ⟨rfl, (show 0 ≤ x4_3_4.toInt by omega), (show x4_3_4.toInt ≤ 11 by omega)⟩ (by unfold K9; omega)
      obtain ⟨a2_5, hq_5⟩ : ∃ y, y = s_5 := ⟨_, rfl⟩
      subst hq_5
      obtain ⟨hn_5, b0a2_5, b1a2_5⟩ := hs_5
      skip
      unfold bX3_isWord_K4_20
      try dsimp only
      refine ok_bd.mpr ?_
      try unfold fJ0_length_8abf5_K4
      refine ok_bd.mpr ?_
      try unfold fJ0_coder_7d493_K4
      refine ok_ite.mpr ⟨fun h_14 => ?_, fun h_14 => ?_⟩
      · have g15 : (1 : Int32).toInt = (0 : Int32).toInt := by rw [h_14]
        exfalso
        omega
      · have g16 : (1 : Int32).toInt ≠ (0 : Int32).toInt := fun z => h_14 (Int32.toInt_inj.mp z)
        refine ok_some.mpr ?_
        refine ok_some.mpr ?_
        refine ok_ite.mpr ⟨fun h_17 => ?_, fun h_17 => ?_⟩
        · have g18 : ((7 : Int32) >>> ((vp_nar .byte 0) &&& 31)).toInt ≤ a2_5.toInt := Int32.le_iff_toInt_le.mp h_17
          refine ok_some.mpr ?_
          exact ⟨(show 0 ≤ (1 : Int32).toInt by omega), (show (1 : Int32).toInt ≤ 1 by omega)⟩
        · have g19 : ¬ ((7 : Int32) >>> ((vp_nar .byte 0) &&& 31)).toInt ≤ a2_5.toInt := fun z => h_17 (Int32.le_iff_toInt_le.mpr z)
          have f20 : ((σ.1 46 6) + a2_5).toInt = (σ.1 46 6).toInt + a2_5.toInt := iadd_toInt (by omega) (by omega)
          refine ok_gd.mpr ⟨gb_of (by omega) (by omega), ?_⟩
          refine ok_nm2 (fun v8_22_25_26 ev8_22_25_26 => ?_)
          have qv8_22_25_26 : v8_22_25_26.toInt = (σ.1 1 ((σ.1 46 6) + a2_5).toNatClampNeg).toInt := congrArg Int32.toInt ev8_22_25_26
          refine ok_bd.mpr ((o_fJ0_charAt_5068e_K4 hIσ (p1 := a2_5) (by omega)).mono (fun r10_22_25_26 ho_22 => ?_))
          refine ok_ite.mpr ⟨fun h_23 => ?_, fun h_23 => ?_⟩
          · have g24 : v8_22_25_26.toInt = r10_22_25_26.toInt := by rw [h_23]
            refine ok_nm2 (fun x12_22_25_26 ex12_22_25_26 => ?_)
            have f25 : (a2_5 + (1 : Int32)).toInt = a2_5.toInt + (1 : Int32).toInt := iadd_toInt (by omega) (by omega)
            have qx12_22_25_26 : x12_22_25_26.toInt = (a2_5 + 1).toInt := congrArg Int32.toInt ex12_22_25_26
            exact hrec_5 _ x12_22_25_26 (show (11 + 1 - x12_22_25_26.toInt).toNat < n_5 by omega) ⟨rfl, (show 0 ≤ x12_22_25_26.toInt by omega), (show x12_22_25_26.toInt ≤ 11 by omega)⟩
          · have g26 : v8_22_25_26.toInt ≠ r10_22_25_26.toInt := fun z => h_23 (Int32.toInt_inj.mp z)
            refine ok_some.mpr ?_
            exact ⟨(show 0 ≤ (0 : Int32).toInt by omega), (show (0 : Int32).toInt ≤ 1 by omega)⟩
    · have f27 : ((σ.1 46 7) - (σ.1 46 6)).toInt = (σ.1 46 7).toInt - (σ.1 46 6).toInt := isub_toInt (by omega) (by omega)
      have f28 : ((7 : Int32) >>> ((vp_nar .byte 0) &&& 31)).toInt = 7 := by decide
      have g29 : ((σ.1 46 7) - (σ.1 46 6)).toInt ≠ ((7 : Int32) >>> ((vp_nar .byte 0) &&& 31)).toInt := fun z => h_10 (Int32.toInt_inj.mp z)
      refine ok_some.mpr ?_
      exact ⟨(show 0 ≤ (0 : Int32).toInt by omega), (show (0 : Int32).toInt ≤ 1 by omega)⟩
set_option maxRecDepth 20000 in
set_option maxHeartbeats 2000000 in
theorem o_fJ0_coder_7d493_K5 {σ : gS} (hIσ : JC σ)   : Ok (fJ0_coder_7d493_K5 σ ) (fun out => 0 ≤ out.toInt ∧ out.toInt ≤ 0) := by
  unfold fJ0_coder_7d493_K5
  refine ok_ite.mpr ⟨fun h_1 => ?_, fun h_1 => ?_⟩
  · have f2 : (1 : Int32).toInt = 1 := by decide
    have f3 : (0 : Int32).toInt = 0 := by decide
    have g4 : (1 : Int32).toInt = (0 : Int32).toInt := by rw [h_1]
    exfalso
    omega
  · have f5 : (1 : Int32).toInt = 1 := by decide
    have f6 : (0 : Int32).toInt = 0 := by decide
    have g7 : (1 : Int32).toInt ≠ (0 : Int32).toInt := fun z => h_1 (Int32.toInt_inj.mp z)
    refine ok_some.mpr ?_
    have f8 : (vp_nar .byte 0).toInt = 0 := by decide
    exact ⟨(show 0 ≤ (vp_nar .byte 0).toInt by omega), (show (vp_nar .byte 0).toInt ≤ 0 by omega)⟩
set_option maxRecDepth 20000 in
set_option maxHeartbeats 2000000 in
theorem o_fJ0_length_8abf5_K5 {σ : gS} (hIσ : JC σ)   : Ok (fJ0_length_8abf5_K5 σ ) (fun out => 0 ≤ out.toInt ∧ out.toInt ≤ 6) := by
  unfold fJ0_length_8abf5_K5
  refine ok_bd.mpr ?_
  try unfold fJ0_coder_7d493_K5
  refine ok_ite.mpr ⟨fun h_1 => ?_, fun h_1 => ?_⟩
  · have f2 : (1 : Int32).toInt = 1 := by decide
    have f3 : (0 : Int32).toInt = 0 := by decide
    have g4 : (1 : Int32).toInt = (0 : Int32).toInt := by rw [h_1]
    exfalso
    omega
  · have f5 : (1 : Int32).toInt = 1 := by decide
    have f6 : (0 : Int32).toInt = 0 := by decide
    have g7 : (1 : Int32).toInt ≠ (0 : Int32).toInt := fun z => h_1 (Int32.toInt_inj.mp z)
    refine ok_some.mpr ?_
    refine ok_some.mpr ?_
    have f8 : ((6 : Int32) >>> ((vp_nar .byte 0) &&& 31)).toInt = 6 := by decide
    exact ⟨(show 0 ≤ ((6 : Int32) >>> ((vp_nar .byte 0) &&& 31)).toInt by omega), (show ((6 : Int32) >>> ((vp_nar .byte 0) &&& 31)).toInt ≤ 6 by omega)⟩
set_option maxRecDepth 20000 in
set_option maxHeartbeats 2000000 in
theorem o_fJ0_isLatin1_aae02_K5 {σ : gS} (hIσ : JC σ)   : Ok (fJ0_isLatin1_aae02_K5 σ ) (fun out => 1 ≤ out.toInt ∧ out.toInt ≤ 1) := by
  unfold fJ0_isLatin1_aae02_K5
  refine ok_ite.mpr ⟨fun h_1 => ?_, fun h_1 => ?_⟩
  · have f2 : (1 : Int32).toInt = 1 := by decide
    have f3 : (0 : Int32).toInt = 0 := by decide
    have g4 : (1 : Int32).toInt = (0 : Int32).toInt := by rw [h_1]
    exfalso
    omega
  · have f5 : (1 : Int32).toInt = 1 := by decide
    have f6 : (0 : Int32).toInt = 0 := by decide
    have g7 : (1 : Int32).toInt ≠ (0 : Int32).toInt := fun z => h_1 (Int32.toInt_inj.mp z)
    refine ok_ite.mpr ⟨fun h_8 => ?_, fun h_8 => ?_⟩
    · have g9 : (0 : Int32).toInt = (0 : Int32).toInt := by rw [h_8]
      refine ok_some.mpr ?_
      exact ⟨(show 1 ≤ (1 : Int32).toInt by omega), (show (1 : Int32).toInt ≤ 1 by omega)⟩
    · have g10 : (0 : Int32).toInt ≠ (0 : Int32).toInt := fun z => h_8 (Int32.toInt_inj.mp z)
      exfalso
      omega
set_option maxRecDepth 20000 in
set_option maxHeartbeats 2000000 in
theorem o_fJ1_charAt_3b067_V5 {σ : gS} (hIσ : JC σ) {p1 : Int32} (pre0 : 0 ≤ p1.toInt ∧ p1.toInt < 6) : Ok (fJ1_charAt_3b067_V5 σ p1) (fun _ => True) := by
  unfold fJ1_charAt_3b067_V5
  have f1 : (6 : Int32).toInt = 6 := by decide
  refine ok_bd.mpr ((o_fJ0_checkIndex_df160 hIσ (p0 := p1) (p1 := (6 : Int32)) (by omega)).mono (fun u2 ho_3 => ?_))
  refine ok_gd.mpr ⟨gb_of (by omega) (by omega), ?_⟩
  refine ok_nm2 (fun v3 ev3 => ?_)
  have qv3 : v3.toInt = ((bytC 5) p1.toNatClampNeg).toInt := congrArg Int32.toInt ev3
  refine ok_some.mpr ?_
  exact trivial
set_option maxRecDepth 20000 in
set_option maxHeartbeats 2000000 in
theorem o_fJ0_charAt_5068e_K5 {σ : gS} (hIσ : JC σ) {p1 : Int32} (pre0 : 0 ≤ p1.toInt ∧ p1.toInt < 6) : Ok (fJ0_charAt_5068e_K5 σ p1) (fun _ => True) := by
  unfold fJ0_charAt_5068e_K5
  refine ok_bd.mpr ?_
  try unfold fJ0_isLatin1_aae02_K5
  refine ok_ite.mpr ⟨fun h_1 => ?_, fun h_1 => ?_⟩
  · have f2 : (1 : Int32).toInt = 1 := by decide
    have f3 : (0 : Int32).toInt = 0 := by decide
    have g4 : (1 : Int32).toInt = (0 : Int32).toInt := by rw [h_1]
    exfalso
    omega
  · have f5 : (1 : Int32).toInt = 1 := by decide
    have f6 : (0 : Int32).toInt = 0 := by decide
    have g7 : (1 : Int32).toInt ≠ (0 : Int32).toInt := fun z => h_1 (Int32.toInt_inj.mp z)
    refine ok_ite.mpr ⟨fun h_8 => ?_, fun h_8 => ?_⟩
    · have g9 : (0 : Int32).toInt = (0 : Int32).toInt := by rw [h_8]
      refine ok_some.mpr ?_
      refine ok_ite.mpr ⟨fun h_10 => ?_, fun h_10 => ?_⟩
      · have g11 : (1 : Int32).toInt = (0 : Int32).toInt := by rw [h_10]
        exfalso
        omega
      · have g12 : (1 : Int32).toInt ≠ (0 : Int32).toInt := fun z => h_10 (Int32.toInt_inj.mp z)
        refine ok_bd.mpr ((o_fJ1_charAt_3b067_V5 hIσ (p1 := p1) (by omega)).mono (fun r5_2 ho_14 => ?_))
        refine ok_some.mpr ?_
        exact trivial
    · have g15 : (0 : Int32).toInt ≠ (0 : Int32).toInt := fun z => h_8 (Int32.toInt_inj.mp z)
      exfalso
      omega
set_option maxRecDepth 20000 in
set_option maxHeartbeats 2000000 in
theorem o_fX3_isWord_K5 {σ : gS} (hIσ : JC σ)   : Ok (fX3_isWord_K5 σ ) (fun out => 0 ≤ out.toInt ∧ out.toInt ≤ 1) := by
  unfold fX3_isWord_K5
  have f1 : 0 ≤ (σ.1 46 6).toInt ∧ (σ.1 46 6).toInt ≤ 1600 := hIσ 46 6
  have f2 : 0 ≤ (σ.1 46 7).toInt ∧ (σ.1 46 7).toInt ≤ 1600 := hIσ 46 7
  refine ok_bd.mpr ?_
  try unfold fJ0_length_8abf5_K5
  refine ok_bd.mpr ?_
  try unfold fJ0_coder_7d493_K5
  refine ok_ite.mpr ⟨fun h_3 => ?_, fun h_3 => ?_⟩
  · have f4 : (1 : Int32).toInt = 1 := by decide
    have f5 : (0 : Int32).toInt = 0 := by decide
    have g6 : (1 : Int32).toInt = (0 : Int32).toInt := by rw [h_3]
    exfalso
    omega
  · have f7 : (1 : Int32).toInt = 1 := by decide
    have f8 : (0 : Int32).toInt = 0 := by decide
    have g9 : (1 : Int32).toInt ≠ (0 : Int32).toInt := fun z => h_3 (Int32.toInt_inj.mp z)
    refine ok_some.mpr ?_
    refine ok_some.mpr ?_
    refine ok_ite.mpr ⟨fun h_10 => ?_, fun h_10 => ?_⟩
    · have f11 : ((σ.1 46 7) - (σ.1 46 6)).toInt = (σ.1 46 7).toInt - (σ.1 46 6).toInt := isub_toInt (by omega) (by omega)
      have f12 : ((6 : Int32) >>> ((vp_nar .byte 0) &&& 31)).toInt = 6 := by decide
      have g13 : ((σ.1 46 7) - (σ.1 46 6)).toInt = ((6 : Int32) >>> ((vp_nar .byte 0) &&& 31)).toInt := by rw [h_10]
      refine ok_nm2 (fun x4_3_4 ex4_3_4 => ?_)
      have qx4_3_4 : x4_3_4.toInt = 0 := by rw [ex4_3_4]; decide
      refine ok_lpc (I := fun n s => n = (6 + 1 - s.toInt).toNat ∧ 0 ≤ s.toInt ∧ s.toInt ≤ 6) (fun rec20_5r n_5 s_5 hs_5 hrec_5 => ?_) K9 ((6 + 1 - x4_3_4.toInt).toNat) x4_3_4 ⟨rfl, (show 0 ≤ x4_3_4.toInt by omega), (show x4_3_4.toInt ≤ 6 by omega)⟩ (by unfold K9; omega)
      obtain ⟨a2_5, hq_5⟩ : ∃ y, y = s_5 := ⟨_, rfl⟩
      subst hq_5
      obtain ⟨hn_5, b0a2_5, b1a2_5⟩ := hs_5
      skip
      unfold bX3_isWord_K5_20
      try dsimp only
      refine ok_bd.mpr ?_
      try unfold fJ0_length_8abf5_K5
      refine ok_bd.mpr ?_
      try unfold fJ0_coder_7d493_K5
      refine ok_ite.mpr ⟨fun h_14 => ?_, fun h_14 => ?_⟩
      · have g15 : (1 : Int32).toInt = (0 : Int32).toInt := by rw [h_14]
        exfalso
        omega
      · have g16 : (1 : Int32).toInt ≠ (0 : Int32).toInt := fun z => h_14 (Int32.toInt_inj.mp z)
        refine ok_some.mpr ?_
        refine ok_some.mpr ?_
        refine ok_ite.mpr ⟨fun h_17 => ?_, fun h_17 => ?_⟩
        · have g18 : ((6 : Int32) >>> ((vp_nar .byte 0) &&& 31)).toInt ≤ a2_5.toInt := Int32.le_iff_toInt_le.mp h_17
          refine ok_some.mpr ?_
          exact ⟨(show 0 ≤ (1 : Int32).toInt by omega), (show (1 : Int32).toInt ≤ 1 by omega)⟩
        · have g19 : ¬ ((6 : Int32) >>> ((vp_nar .byte 0) &&& 31)).toInt ≤ a2_5.toInt := fun z => h_17 (Int32.le_iff_toInt_le.mpr z)
          have f20 : ((σ.1 46 6) + a2_5).toInt = (σ.1 46 6).toInt + a2_5.toInt := iadd_toInt (by omega) (by omega)
          refine ok_gd.mpr ⟨gb_of (by omega) (by omega), ?_⟩
          refine ok_nm2 (fun v8_20_23_24 ev8_20_23_24 => ?_)
          have qv8_20_23_24 : v8_20_23_24.toInt = (σ.1 1 ((σ.1 46 6) + a2_5).toNatClampNeg).toInt := congrArg Int32.toInt ev8_20_23_24
          refine ok_bd.mpr ((o_fJ0_charAt_5068e_K5 hIσ (p1 := a2_5) (by omega)).mono (fun r10_20_23_24 ho_22 => ?_))
          refine ok_ite.mpr ⟨fun h_23 => ?_, fun h_23 => ?_⟩
          · have g24 : v8_20_23_24.toInt = r10_20_23_24.toInt := by rw [h_23]
            refine ok_nm2 (fun x12_20_23_24 ex12_20_23_24 => ?_)
            have f25 : (a2_5 + (1 : Int32)).toInt = a2_5.toInt + (1 : Int32).toInt := iadd_toInt (by omega) (by omega)
            have qx12_20_23_24 : x12_20_23_24.toInt = (a2_5 + 1).toInt := congrArg Int32.toInt ex12_20_23_24
            exact hrec_5 _ x12_20_23_24 (show (6 + 1 - x12_20_23_24.toInt).toNat < n_5 by omega) ⟨rfl, (show 0 ≤ x12_20_23_24.toInt by omega), (show x12_20_23_24.toInt ≤ 6 by omega)⟩
          · have g26 : v8_20_23_24.toInt ≠ r10_20_23_24.toInt := fun z => h_23 (Int32.toInt_inj.mp z)
            refine ok_some.mpr ?_
            exact ⟨(show 0 ≤ (0 : Int32).toInt by omega), (show (0 : Int32).toInt ≤ 1 by omega)⟩
    · have f27 : ((σ.1 46 7) - (σ.1 46 6)).toInt = (σ.1 46 7).toInt - (σ.1 46 6).toInt := isub_toInt (by omega) (by omega)
      have f28 : ((6 : Int32) >>> ((vp_nar .byte 0) &&& 31)).toInt = 6 := by decide
      have g29 : ((σ.1 46 7) - (σ.1 46 6)).toInt ≠ ((6 : Int32) >>> ((vp_nar .byte 0) &&& 31)).toInt := fun z => h_10 (Int32.toInt_inj.mp z)
      refine ok_some.mpr ?_
      exact ⟨(show 0 ≤ (0 : Int32).toInt by omega), (show (0 : Int32).toInt ≤ 1 by omega)⟩
set_option maxRecDepth 20000 in
set_option maxHeartbeats 2000000 in
theorem o_fX3_kindOfWord {σ : gS} (hIσ : JC σ)   : Ok (fX3_kindOfWord σ ) (fun out => -1 ≤ out.toInt ∧ out.toInt ≤ 5) := by
  unfold fX3_kindOfWord
  refine ok_bd.mpr ((o_fX3_isWord_K0 hIσ  ).mono (fun r2 ho_2 => ?_))
  obtain ⟨r0r2, r1r2⟩ := ho_2
  refine ok_ite.mpr ⟨fun h_3 => ?_, fun h_3 => ?_⟩
  · have f4 : (0 : Int32).toInt = 0 := by decide
    have g5 : r2.toInt = (0 : Int32).toInt := by rw [h_3]
    refine ok_bd.mpr ((o_fX3_isWord_K1 hIσ  ).mono (fun r5 ho_7 => ?_))
    obtain ⟨r0r5, r1r5⟩ := ho_7
    refine ok_ite.mpr ⟨fun h_8 => ?_, fun h_8 => ?_⟩
    · have g9 : r5.toInt = (0 : Int32).toInt := by rw [h_8]
      refine ok_bd.mpr ((o_fX3_isWord_K2 hIσ  ).mono (fun r8 ho_11 => ?_))
      obtain ⟨r0r8, r1r8⟩ := ho_11
      refine ok_ite.mpr ⟨fun h_12 => ?_, fun h_12 => ?_⟩
      · have g13 : r8.toInt = (0 : Int32).toInt := by rw [h_12]
        refine ok_bd.mpr ((o_fX3_isWord_K3 hIσ  ).mono (fun r11 ho_15 => ?_))
        obtain ⟨r0r11, r1r11⟩ := ho_15
        refine ok_ite.mpr ⟨fun h_16 => ?_, fun h_16 => ?_⟩
        · have g17 : r11.toInt = (0 : Int32).toInt := by rw [h_16]
          refine ok_bd.mpr ((o_fX3_isWord_K4 hIσ  ).mono (fun r14 ho_19 => ?_))
          obtain ⟨r0r14, r1r14⟩ := ho_19
          refine ok_ite.mpr ⟨fun h_20 => ?_, fun h_20 => ?_⟩
          · have g21 : r14.toInt = (0 : Int32).toInt := by rw [h_20]
            refine ok_bd.mpr ((o_fX3_isWord_K5 hIσ  ).mono (fun r17 ho_23 => ?_))
            obtain ⟨r0r17, r1r17⟩ := ho_23
            refine ok_ite.mpr ⟨fun h_24 => ?_, fun h_24 => ?_⟩
            · have g25 : r17.toInt = (0 : Int32).toInt := by rw [h_24]
              refine ok_some.mpr ?_
              have f26 : (-1 : Int32).toInt = -1 := by decide
              exact ⟨(show -1 ≤ (-1 : Int32).toInt by omega), (show (-1 : Int32).toInt ≤ 5 by omega)⟩
            · have g27 : r17.toInt ≠ (0 : Int32).toInt := fun z => h_24 (Int32.toInt_inj.mp z)
              refine ok_some.mpr ?_
              have f28 : (5 : Int32).toInt = 5 := by decide
              exact ⟨(show -1 ≤ (5 : Int32).toInt by omega), (show (5 : Int32).toInt ≤ 5 by omega)⟩
          · have g29 : r14.toInt ≠ (0 : Int32).toInt := fun z => h_20 (Int32.toInt_inj.mp z)
            refine ok_some.mpr ?_
            have f30 : (4 : Int32).toInt = 4 := by decide
            exact ⟨(show -1 ≤ (4 : Int32).toInt by omega), (show (4 : Int32).toInt ≤ 5 by omega)⟩
        · have g31 : r11.toInt ≠ (0 : Int32).toInt := fun z => h_16 (Int32.toInt_inj.mp z)
          refine ok_some.mpr ?_
          have f32 : (3 : Int32).toInt = 3 := by decide
          exact ⟨(show -1 ≤ (3 : Int32).toInt by omega), (show (3 : Int32).toInt ≤ 5 by omega)⟩
      · have g33 : r8.toInt ≠ (0 : Int32).toInt := fun z => h_12 (Int32.toInt_inj.mp z)
        refine ok_some.mpr ?_
        have f34 : (2 : Int32).toInt = 2 := by decide
        exact ⟨(show -1 ≤ (2 : Int32).toInt by omega), (show (2 : Int32).toInt ≤ 5 by omega)⟩
    · have g35 : r5.toInt ≠ (0 : Int32).toInt := fun z => h_8 (Int32.toInt_inj.mp z)
      refine ok_some.mpr ?_
      have f36 : (1 : Int32).toInt = 1 := by decide
      exact ⟨(show -1 ≤ (1 : Int32).toInt by omega), (show (1 : Int32).toInt ≤ 5 by omega)⟩
  · have f37 : (0 : Int32).toInt = 0 := by decide
    have g38 : r2.toInt ≠ (0 : Int32).toInt := fun z => h_3 (Int32.toInt_inj.mp z)
    refine ok_some.mpr ?_
    exact ⟨(show -1 ≤ (0 : Int32).toInt by omega), (show (0 : Int32).toInt ≤ 5 by omega)⟩
theorem o_fX8_isFull_24 {σ : gS} (hIσ : JC σ) {p1 : Int32} (h0p1 : 0 ≤ p1.toInt) (h1p1 : p1.toInt ≤ 5) : Ok (fX8_isFull_24 σ p1) (fun out => 0 ≤ out.toInt ∧ out.toInt ≤ 1 ∧ (out.toInt = 0 → (p1.toInt = 0 → (σ.1 25 0).toInt ≤ 5) ∧ (p1.toInt = 1 → (σ.1 25 1).toInt ≤ 11) ∧ (p1.toInt = 2 → (σ.1 25 2).toInt ≤ 19) ∧ (p1.toInt = 3 → (σ.1 25 3).toInt ≤ 59))) := by
  have l5 : (5 : Int32).toInt = 5 := by decide
  unfold fX8_isFull_24
  have s0 : staC 0 0 = 6 := by decide
  have s1 : staC 0 1 = 12 := by decide
  have s2 : staC 0 2 = 20 := by decide
  have s3 : staC 0 3 = 60 := by decide
  have t6 : (6 : Int32).toInt = 6 := by decide
  have t12 : (12 : Int32).toInt = 12 := by decide
  have t20 : (20 : Int32).toInt = 20 := by decide
  have t60 : (60 : Int32).toInt = 60 := by decide
  refine ok_ite.mpr ⟨fun h => absurd (Int32.lt_iff_toInt_lt.mp h) (by have := z0; omega), fun _ => ok_ite.mpr ⟨fun h => ok_some.mpr ⟨by decide, by decide, fun _ => ?_⟩, fun h => ?_⟩⟩
  · have h := Int32.le_iff_toInt_le.mp h
    exact ⟨fun z => absurd z (by omega), fun z => absurd z (by omega), fun z => absurd z (by omega), fun z => absurd z (by omega)⟩
  · have h := q_gt h
    refine ok_gd.mpr ⟨gb_of h0p1 (by omega), ok_nm.mpr (ok_gd.mpr ⟨gb_of h0p1 (by omega), ok_nm.mpr (ok_ite.mpr ⟨fun c => ok_some.mpr ⟨by decide, by decide, fun _ => ?_⟩, fun _ => ok_some.mpr ⟨by decide, by decide, fun z => absurd z (by decide)⟩⟩)⟩)⟩
    have c := Int32.lt_iff_toInt_lt.mp c
    rw [n_toInt] at c
    refine ⟨fun z => ?_, fun z => ?_, fun z => ?_, fun z => ?_⟩ <;> rw [z] at c
    · have c : (σ.1 25 0).toInt < (staC 0 0).toInt := c
      rw [s0] at c; omega
    · have c : (σ.1 25 1).toInt < (staC 0 1).toInt := c
      rw [s1] at c; omega
    · have c : (σ.1 25 2).toInt < (staC 0 2).toInt := c
      rw [s2] at c; omega
    · have c : (σ.1 25 3).toInt < (staC 0 3).toInt := c
      rw [s3] at c; omega
set_option maxRecDepth 20000 in
set_option maxHeartbeats 2000000 in
theorem o_fX3_passRun {σ : gS} (hIσ : JC σ)   : Ok (fX3_passRun σ ) (fun out => JC out ∧ Fr fr_fX3_passRun σ out) := by
  unfold fX3_passRun
  have hfσ : Fr fr_fX3_passRun σ σ := Fr_r
  have f1 : 0 ≤ (σ.1 46 7).toInt ∧ (σ.1 46 7).toInt ≤ 1600 := hIσ 46 7
  refine ok_nm2 (fun σ1 eσ1 => ?_)
  have hIσ1 : JC σ1 := by rw [eσ1]; exact JC_w hIσ (show 0 ≤ _ by omega) (show _ ≤ 1600 by omega)
  have hfσ1 : Fr fr_fX3_passRun σ σ1 := by rw [eσ1]; exact Fr_w hfσ (by decide)
  have sσ1_46_7 : (σ1.1 46 7).toInt = (σ.1 46 7).toInt := by rw [eσ1]; rfl
  refine ok_nm2 (fun σ2 eσ2 => ?_)
  have hIσ2 : JC σ2 := by rw [eσ2]; exact JC_w hIσ1 (Int32.le_toInt _) (Int32.toInt_le _)
  have hfσ2 : Fr fr_fX3_passRun σ σ2 := by rw [eσ2]; exact Fr_w hfσ1 (by decide)
  have sσ2_46_7 : (σ2.1 46 7).toInt = (σ1.1 46 7).toInt := by rw [eσ2]; rfl
  refine ok_some.mpr ?_
  exact ⟨hIσ2, hfσ2⟩
set_option maxRecDepth 20000 in
set_option maxHeartbeats 2000000 in
theorem o_fX3_isNoRun {σ : gS} (hIσ : JC σ)   : Ok (fX3_isNoRun σ ) (fun out => 0 ≤ out.toInt ∧ out.toInt ≤ 1) := by
  unfold fX3_isNoRun
  have f1 : 0 ≤ (σ.1 46 6).toInt ∧ (σ.1 46 6).toInt ≤ 1600 := hIσ 46 6
  have f2 : 0 ≤ (σ.1 46 7).toInt ∧ (σ.1 46 7).toInt ≤ 1600 := hIσ 46 7
  refine ok_ite.mpr ⟨fun h_3 => ?_, fun h_3 => ?_⟩
  · have g4 : (σ.1 46 6).toInt = (σ.1 46 7).toInt := by rw [h_3]
    refine ok_some.mpr ?_
    have f5 : (1 : Int32).toInt = 1 := by decide
    exact ⟨(show 0 ≤ (1 : Int32).toInt by omega), (show (1 : Int32).toInt ≤ 1 by omega)⟩
  · have g6 : (σ.1 46 6).toInt ≠ (σ.1 46 7).toInt := fun z => h_3 (Int32.toInt_inj.mp z)
    refine ok_ite.mpr ⟨fun h_7 => ?_, fun h_7 => ?_⟩
    · have g8 : (σ.1 46 6).toInt = (σ.1 46 8).toInt := by rw [h_7]
      refine ok_some.mpr ?_
      have f9 : (1 : Int32).toInt = 1 := by decide
      exact ⟨(show 0 ≤ (1 : Int32).toInt by omega), (show (1 : Int32).toInt ≤ 1 by omega)⟩
    · have g10 : (σ.1 46 6).toInt ≠ (σ.1 46 8).toInt := fun z => h_7 (Int32.toInt_inj.mp z)
      refine ok_some.mpr ?_
      have f11 : (0 : Int32).toInt = 0 := by decide
      exact ⟨(show 0 ≤ (0 : Int32).toInt by omega), (show (0 : Int32).toInt ≤ 1 by omega)⟩
set_option maxRecDepth 20000 in
set_option maxHeartbeats 2000000 in
theorem o_fX3_fail {σ : gS} (hIσ : JC σ) {p1 : Int32} {p2 : Int32}  : Ok (fX3_fail σ p1 p2) (fun out => JC out.2 ∧ Fr fr_fX3_fail σ out.2 ∧ 0 ≤ out.1.toInt ∧ out.1.toInt ≤ 0) := by
  unfold fX3_fail
  have hfσ : Fr fr_fX3_fail σ σ := Fr_r
  refine ok_nm2 (fun σ1 eσ1 => ?_)
  have hIσ1 : JC σ1 := by rw [eσ1]; exact JC_w hIσ (Int32.le_toInt _) (Int32.toInt_le _)
  have hfσ1 : Fr fr_fX3_fail σ σ1 := by rw [eσ1]; exact Fr_w hfσ (by decide)
  refine ok_nm2 (fun σ2 eσ2 => ?_)
  have hIσ2 : JC σ2 := by rw [eσ2]; exact JC_w hIσ1 (Int32.le_toInt _) (Int32.toInt_le _)
  have hfσ2 : Fr fr_fX3_fail σ σ2 := by rw [eσ2]; exact Fr_w hfσ1 (by decide)
  refine ok_some.mpr ?_
  have f1 : (0 : Int32).toInt = 0 := by decide
  exact ⟨hIσ2, hfσ2, (show 0 ≤ (0 : Int32).toInt by omega), (show (0 : Int32).toInt ≤ 0 by omega)⟩
set_option maxRecDepth 20000 in
set_option maxHeartbeats 2000000 in
theorem o_fJ0_coder_7d493_K6 {σ : gS} (hIσ : JC σ)   : Ok (fJ0_coder_7d493_K6 σ ) (fun out => 0 ≤ out.toInt ∧ out.toInt ≤ 0) := by
  unfold fJ0_coder_7d493_K6
  refine ok_ite.mpr ⟨fun h_1 => ?_, fun h_1 => ?_⟩
  · have f2 : (1 : Int32).toInt = 1 := by decide
    have f3 : (0 : Int32).toInt = 0 := by decide
    have g4 : (1 : Int32).toInt = (0 : Int32).toInt := by rw [h_1]
    exfalso
    omega
  · have f5 : (1 : Int32).toInt = 1 := by decide
    have f6 : (0 : Int32).toInt = 0 := by decide
    have g7 : (1 : Int32).toInt ≠ (0 : Int32).toInt := fun z => h_1 (Int32.toInt_inj.mp z)
    refine ok_some.mpr ?_
    have f8 : (vp_nar .byte 0).toInt = 0 := by decide
    exact ⟨(show 0 ≤ (vp_nar .byte 0).toInt by omega), (show (vp_nar .byte 0).toInt ≤ 0 by omega)⟩
set_option maxRecDepth 20000 in
set_option maxHeartbeats 2000000 in
theorem o_fJ0_length_8abf5_K6 {σ : gS} (hIσ : JC σ)   : Ok (fJ0_length_8abf5_K6 σ ) (fun out => 0 ≤ out.toInt ∧ out.toInt ≤ 2) := by
  unfold fJ0_length_8abf5_K6
  refine ok_bd.mpr ?_
  try unfold fJ0_coder_7d493_K6
  refine ok_ite.mpr ⟨fun h_1 => ?_, fun h_1 => ?_⟩
  · have f2 : (1 : Int32).toInt = 1 := by decide
    have f3 : (0 : Int32).toInt = 0 := by decide
    have g4 : (1 : Int32).toInt = (0 : Int32).toInt := by rw [h_1]
    exfalso
    omega
  · have f5 : (1 : Int32).toInt = 1 := by decide
    have f6 : (0 : Int32).toInt = 0 := by decide
    have g7 : (1 : Int32).toInt ≠ (0 : Int32).toInt := fun z => h_1 (Int32.toInt_inj.mp z)
    refine ok_some.mpr ?_
    refine ok_some.mpr ?_
    have f8 : ((2 : Int32) >>> ((vp_nar .byte 0) &&& 31)).toInt = 2 := by decide
    exact ⟨(show 0 ≤ ((2 : Int32) >>> ((vp_nar .byte 0) &&& 31)).toInt by omega), (show ((2 : Int32) >>> ((vp_nar .byte 0) &&& 31)).toInt ≤ 2 by omega)⟩
set_option maxRecDepth 20000 in
set_option maxHeartbeats 2000000 in
theorem o_fJ0_isLatin1_aae02_K6 {σ : gS} (hIσ : JC σ)   : Ok (fJ0_isLatin1_aae02_K6 σ ) (fun out => 1 ≤ out.toInt ∧ out.toInt ≤ 1) := by
  unfold fJ0_isLatin1_aae02_K6
  refine ok_ite.mpr ⟨fun h_1 => ?_, fun h_1 => ?_⟩
  · have f2 : (1 : Int32).toInt = 1 := by decide
    have f3 : (0 : Int32).toInt = 0 := by decide
    have g4 : (1 : Int32).toInt = (0 : Int32).toInt := by rw [h_1]
    exfalso
    omega
  · have f5 : (1 : Int32).toInt = 1 := by decide
    have f6 : (0 : Int32).toInt = 0 := by decide
    have g7 : (1 : Int32).toInt ≠ (0 : Int32).toInt := fun z => h_1 (Int32.toInt_inj.mp z)
    refine ok_ite.mpr ⟨fun h_8 => ?_, fun h_8 => ?_⟩
    · have g9 : (0 : Int32).toInt = (0 : Int32).toInt := by rw [h_8]
      refine ok_some.mpr ?_
      exact ⟨(show 1 ≤ (1 : Int32).toInt by omega), (show (1 : Int32).toInt ≤ 1 by omega)⟩
    · have g10 : (0 : Int32).toInt ≠ (0 : Int32).toInt := fun z => h_8 (Int32.toInt_inj.mp z)
      exfalso
      omega
set_option maxRecDepth 20000 in
set_option maxHeartbeats 2000000 in
theorem o_fJ1_charAt_3b067_V6 {σ : gS} (hIσ : JC σ) {p1 : Int32} (pre0 : 0 ≤ p1.toInt ∧ p1.toInt < 2) : Ok (fJ1_charAt_3b067_V6 σ p1) (fun _ => True) := by
  unfold fJ1_charAt_3b067_V6
  have f1 : (2 : Int32).toInt = 2 := by decide
  refine ok_bd.mpr ((o_fJ0_checkIndex_df160 hIσ (p0 := p1) (p1 := (2 : Int32)) (by omega)).mono (fun u2 ho_3 => ?_))
  refine ok_gd.mpr ⟨gb_of (by omega) (by omega), ?_⟩
  refine ok_nm2 (fun v3 ev3 => ?_)
  have qv3 : v3.toInt = ((bytC 6) p1.toNatClampNeg).toInt := congrArg Int32.toInt ev3
  refine ok_some.mpr ?_
  exact trivial
set_option maxRecDepth 20000 in
set_option maxHeartbeats 2000000 in
theorem o_fJ0_charAt_5068e_K6 {σ : gS} (hIσ : JC σ) {p1 : Int32} (pre0 : 0 ≤ p1.toInt ∧ p1.toInt < 2) : Ok (fJ0_charAt_5068e_K6 σ p1) (fun _ => True) := by
  unfold fJ0_charAt_5068e_K6
  refine ok_bd.mpr ?_
  try unfold fJ0_isLatin1_aae02_K6
  refine ok_ite.mpr ⟨fun h_1 => ?_, fun h_1 => ?_⟩
  · have f2 : (1 : Int32).toInt = 1 := by decide
    have f3 : (0 : Int32).toInt = 0 := by decide
    have g4 : (1 : Int32).toInt = (0 : Int32).toInt := by rw [h_1]
    exfalso
    omega
  · have f5 : (1 : Int32).toInt = 1 := by decide
    have f6 : (0 : Int32).toInt = 0 := by decide
    have g7 : (1 : Int32).toInt ≠ (0 : Int32).toInt := fun z => h_1 (Int32.toInt_inj.mp z)
    refine ok_ite.mpr ⟨fun h_8 => ?_, fun h_8 => ?_⟩
    · have g9 : (0 : Int32).toInt = (0 : Int32).toInt := by rw [h_8]
      refine ok_some.mpr ?_
      refine ok_ite.mpr ⟨fun h_10 => ?_, fun h_10 => ?_⟩
      · have g11 : (1 : Int32).toInt = (0 : Int32).toInt := by rw [h_10]
        exfalso
        omega
      · have g12 : (1 : Int32).toInt ≠ (0 : Int32).toInt := fun z => h_10 (Int32.toInt_inj.mp z)
        refine ok_bd.mpr ((o_fJ1_charAt_3b067_V6 hIσ (p1 := p1) (by omega)).mono (fun r5_2 ho_14 => ?_))
        refine ok_some.mpr ?_
        exact trivial
    · have g15 : (0 : Int32).toInt ≠ (0 : Int32).toInt := fun z => h_8 (Int32.toInt_inj.mp z)
      exfalso
      omega
set_option maxRecDepth 20000 in
set_option maxHeartbeats 2000000 in
theorem o_fX3_isWord_K6 {σ : gS} (hIσ : JC σ)   : Ok (fX3_isWord_K6 σ ) (fun out => 0 ≤ out.toInt ∧ out.toInt ≤ 1) := by
  unfold fX3_isWord_K6
  have f1 : 0 ≤ (σ.1 46 6).toInt ∧ (σ.1 46 6).toInt ≤ 1600 := hIσ 46 6
  have f2 : 0 ≤ (σ.1 46 7).toInt ∧ (σ.1 46 7).toInt ≤ 1600 := hIσ 46 7
  refine ok_bd.mpr ?_
  try unfold fJ0_length_8abf5_K6
  refine ok_bd.mpr ?_
  try unfold fJ0_coder_7d493_K6
  refine ok_ite.mpr ⟨fun h_3 => ?_, fun h_3 => ?_⟩
  · have f4 : (1 : Int32).toInt = 1 := by decide
    have f5 : (0 : Int32).toInt = 0 := by decide
    have g6 : (1 : Int32).toInt = (0 : Int32).toInt := by rw [h_3]
    exfalso
    omega
  · have f7 : (1 : Int32).toInt = 1 := by decide
    have f8 : (0 : Int32).toInt = 0 := by decide
    have g9 : (1 : Int32).toInt ≠ (0 : Int32).toInt := fun z => h_3 (Int32.toInt_inj.mp z)
    refine ok_some.mpr ?_
    refine ok_some.mpr ?_
    refine ok_ite.mpr ⟨fun h_10 => ?_, fun h_10 => ?_⟩
    · have f11 : ((σ.1 46 7) - (σ.1 46 6)).toInt = (σ.1 46 7).toInt - (σ.1 46 6).toInt := isub_toInt (by omega) (by omega)
      have f12 : ((2 : Int32) >>> ((vp_nar .byte 0) &&& 31)).toInt = 2 := by decide
      have g13 : ((σ.1 46 7) - (σ.1 46 6)).toInt = ((2 : Int32) >>> ((vp_nar .byte 0) &&& 31)).toInt := by rw [h_10]
      refine ok_nm2 (fun x4_3_4 ex4_3_4 => ?_)
      have qx4_3_4 : x4_3_4.toInt = 0 := by rw [ex4_3_4]; decide
      refine ok_lpc (I := fun n s => n = (3 + 1 - s.toInt).toNat ∧ 0 ≤ s.toInt ∧ s.toInt ≤ 3) (fun rec20_5r n_5 s_5 hs_5 hrec_5 => ?_) K9 ((3 + 1 - x4_3_4.toInt).toNat) x4_3_4 ⟨rfl, (show 0 ≤ x4_3_4.toInt by omega), (show x4_3_4.toInt ≤ 3 by omega)⟩ (by unfold K9; omega)
      obtain ⟨a2_5, hq_5⟩ : ∃ y, y = s_5 := ⟨_, rfl⟩
      subst hq_5
      obtain ⟨hn_5, b0a2_5, b1a2_5⟩ := hs_5
      skip
      unfold bX3_isWord_K6_20
      try dsimp only
      refine ok_bd.mpr ?_
      try unfold fJ0_length_8abf5_K6
      refine ok_bd.mpr ?_
      try unfold fJ0_coder_7d493_K6
      refine ok_ite.mpr ⟨fun h_14 => ?_, fun h_14 => ?_⟩
      · have g15 : (1 : Int32).toInt = (0 : Int32).toInt := by rw [h_14]
        exfalso
        omega
      · have g16 : (1 : Int32).toInt ≠ (0 : Int32).toInt := fun z => h_14 (Int32.toInt_inj.mp z)
        refine ok_some.mpr ?_
        refine ok_some.mpr ?_
        refine ok_ite.mpr ⟨fun h_17 => ?_, fun h_17 => ?_⟩
        · have g18 : ((2 : Int32) >>> ((vp_nar .byte 0) &&& 31)).toInt ≤ a2_5.toInt := Int32.le_iff_toInt_le.mp h_17
          refine ok_some.mpr ?_
          exact ⟨(show 0 ≤ (1 : Int32).toInt by omega), (show (1 : Int32).toInt ≤ 1 by omega)⟩
        · have g19 : ¬ ((2 : Int32) >>> ((vp_nar .byte 0) &&& 31)).toInt ≤ a2_5.toInt := fun z => h_17 (Int32.le_iff_toInt_le.mpr z)
          have f20 : ((σ.1 46 6) + a2_5).toInt = (σ.1 46 6).toInt + a2_5.toInt := iadd_toInt (by omega) (by omega)
          refine ok_gd.mpr ⟨gb_of (by omega) (by omega), ?_⟩
          refine ok_nm2 (fun v8_14_17_18 ev8_14_17_18 => ?_)
          have qv8_14_17_18 : v8_14_17_18.toInt = (σ.1 1 ((σ.1 46 6) + a2_5).toNatClampNeg).toInt := congrArg Int32.toInt ev8_14_17_18
          refine ok_bd.mpr ((o_fJ0_charAt_5068e_K6 hIσ (p1 := a2_5) (by omega)).mono (fun r10_14_17_18 ho_22 => ?_))
          refine ok_ite.mpr ⟨fun h_23 => ?_, fun h_23 => ?_⟩
          · have g24 : v8_14_17_18.toInt = r10_14_17_18.toInt := by rw [h_23]
            refine ok_nm2 (fun x12_14_17_18 ex12_14_17_18 => ?_)
            have f25 : (a2_5 + (1 : Int32)).toInt = a2_5.toInt + (1 : Int32).toInt := iadd_toInt (by omega) (by omega)
            have qx12_14_17_18 : x12_14_17_18.toInt = (a2_5 + 1).toInt := congrArg Int32.toInt ex12_14_17_18
            exact hrec_5 _ x12_14_17_18 (show (3 + 1 - x12_14_17_18.toInt).toNat < n_5 by omega) ⟨rfl, (show 0 ≤ x12_14_17_18.toInt by omega), (show x12_14_17_18.toInt ≤ 3 by omega)⟩
          · have g26 : v8_14_17_18.toInt ≠ r10_14_17_18.toInt := fun z => h_23 (Int32.toInt_inj.mp z)
            refine ok_some.mpr ?_
            exact ⟨(show 0 ≤ (0 : Int32).toInt by omega), (show (0 : Int32).toInt ≤ 1 by omega)⟩
    · have f27 : ((σ.1 46 7) - (σ.1 46 6)).toInt = (σ.1 46 7).toInt - (σ.1 46 6).toInt := isub_toInt (by omega) (by omega)
      have f28 : ((2 : Int32) >>> ((vp_nar .byte 0) &&& 31)).toInt = 2 := by decide
      have g29 : ((σ.1 46 7) - (σ.1 46 6)).toInt ≠ ((2 : Int32) >>> ((vp_nar .byte 0) &&& 31)).toInt := fun z => h_10 (Int32.toInt_inj.mp z)
      refine ok_some.mpr ?_
      exact ⟨(show 0 ≤ (0 : Int32).toInt by omega), (show (0 : Int32).toInt ≤ 1 by omega)⟩
set_option maxRecDepth 20000 in
set_option maxHeartbeats 2000000 in
theorem o_fJ0_coder_7d493_K7 {σ : gS} (hIσ : JC σ)   : Ok (fJ0_coder_7d493_K7 σ ) (fun out => 0 ≤ out.toInt ∧ out.toInt ≤ 0) := by
  unfold fJ0_coder_7d493_K7
  refine ok_ite.mpr ⟨fun h_1 => ?_, fun h_1 => ?_⟩
  · have f2 : (1 : Int32).toInt = 1 := by decide
    have f3 : (0 : Int32).toInt = 0 := by decide
    have g4 : (1 : Int32).toInt = (0 : Int32).toInt := by rw [h_1]
    exfalso
    omega
  · have f5 : (1 : Int32).toInt = 1 := by decide
    have f6 : (0 : Int32).toInt = 0 := by decide
    have g7 : (1 : Int32).toInt ≠ (0 : Int32).toInt := fun z => h_1 (Int32.toInt_inj.mp z)
    refine ok_some.mpr ?_
    have f8 : (vp_nar .byte 0).toInt = 0 := by decide
    exact ⟨(show 0 ≤ (vp_nar .byte 0).toInt by omega), (show (vp_nar .byte 0).toInt ≤ 0 by omega)⟩
set_option maxRecDepth 20000 in
set_option maxHeartbeats 2000000 in
theorem o_fJ0_length_8abf5_K7 {σ : gS} (hIσ : JC σ)   : Ok (fJ0_length_8abf5_K7 σ ) (fun out => 0 ≤ out.toInt ∧ out.toInt ≤ 4) := by
  unfold fJ0_length_8abf5_K7
  refine ok_bd.mpr ?_
  try unfold fJ0_coder_7d493_K7
  refine ok_ite.mpr ⟨fun h_1 => ?_, fun h_1 => ?_⟩
  · have f2 : (1 : Int32).toInt = 1 := by decide
    have f3 : (0 : Int32).toInt = 0 := by decide
    have g4 : (1 : Int32).toInt = (0 : Int32).toInt := by rw [h_1]
    exfalso
    omega
  · have f5 : (1 : Int32).toInt = 1 := by decide
    have f6 : (0 : Int32).toInt = 0 := by decide
    have g7 : (1 : Int32).toInt ≠ (0 : Int32).toInt := fun z => h_1 (Int32.toInt_inj.mp z)
    refine ok_some.mpr ?_
    refine ok_some.mpr ?_
    have f8 : ((4 : Int32) >>> ((vp_nar .byte 0) &&& 31)).toInt = 4 := by decide
    exact ⟨(show 0 ≤ ((4 : Int32) >>> ((vp_nar .byte 0) &&& 31)).toInt by omega), (show ((4 : Int32) >>> ((vp_nar .byte 0) &&& 31)).toInt ≤ 4 by omega)⟩
set_option maxRecDepth 20000 in
set_option maxHeartbeats 2000000 in
theorem o_fJ0_isLatin1_aae02_K7 {σ : gS} (hIσ : JC σ)   : Ok (fJ0_isLatin1_aae02_K7 σ ) (fun out => 1 ≤ out.toInt ∧ out.toInt ≤ 1) := by
  unfold fJ0_isLatin1_aae02_K7
  refine ok_ite.mpr ⟨fun h_1 => ?_, fun h_1 => ?_⟩
  · have f2 : (1 : Int32).toInt = 1 := by decide
    have f3 : (0 : Int32).toInt = 0 := by decide
    have g4 : (1 : Int32).toInt = (0 : Int32).toInt := by rw [h_1]
    exfalso
    omega
  · have f5 : (1 : Int32).toInt = 1 := by decide
    have f6 : (0 : Int32).toInt = 0 := by decide
    have g7 : (1 : Int32).toInt ≠ (0 : Int32).toInt := fun z => h_1 (Int32.toInt_inj.mp z)
    refine ok_ite.mpr ⟨fun h_8 => ?_, fun h_8 => ?_⟩
    · have g9 : (0 : Int32).toInt = (0 : Int32).toInt := by rw [h_8]
      refine ok_some.mpr ?_
      exact ⟨(show 1 ≤ (1 : Int32).toInt by omega), (show (1 : Int32).toInt ≤ 1 by omega)⟩
    · have g10 : (0 : Int32).toInt ≠ (0 : Int32).toInt := fun z => h_8 (Int32.toInt_inj.mp z)
      exfalso
      omega
set_option maxRecDepth 20000 in
set_option maxHeartbeats 2000000 in
theorem o_fJ1_charAt_3b067_V7 {σ : gS} (hIσ : JC σ) {p1 : Int32} (pre0 : 0 ≤ p1.toInt ∧ p1.toInt < 4) : Ok (fJ1_charAt_3b067_V7 σ p1) (fun _ => True) := by
  unfold fJ1_charAt_3b067_V7
  have f1 : (4 : Int32).toInt = 4 := by decide
  refine ok_bd.mpr ((o_fJ0_checkIndex_df160 hIσ (p0 := p1) (p1 := (4 : Int32)) (by omega)).mono (fun u2 ho_3 => ?_))
  refine ok_gd.mpr ⟨gb_of (by omega) (by omega), ?_⟩
  refine ok_nm2 (fun v3 ev3 => ?_)
  have qv3 : v3.toInt = ((bytC 7) p1.toNatClampNeg).toInt := congrArg Int32.toInt ev3
  refine ok_some.mpr ?_
  exact trivial
set_option maxRecDepth 20000 in
set_option maxHeartbeats 2000000 in
theorem o_fJ0_charAt_5068e_K7 {σ : gS} (hIσ : JC σ) {p1 : Int32} (pre0 : 0 ≤ p1.toInt ∧ p1.toInt < 4) : Ok (fJ0_charAt_5068e_K7 σ p1) (fun _ => True) := by
  unfold fJ0_charAt_5068e_K7
  refine ok_bd.mpr ?_
  try unfold fJ0_isLatin1_aae02_K7
  refine ok_ite.mpr ⟨fun h_1 => ?_, fun h_1 => ?_⟩
  · have f2 : (1 : Int32).toInt = 1 := by decide
    have f3 : (0 : Int32).toInt = 0 := by decide
    have g4 : (1 : Int32).toInt = (0 : Int32).toInt := by rw [h_1]
    exfalso
    omega
  · have f5 : (1 : Int32).toInt = 1 := by decide
    have f6 : (0 : Int32).toInt = 0 := by decide
    have g7 : (1 : Int32).toInt ≠ (0 : Int32).toInt := fun z => h_1 (Int32.toInt_inj.mp z)
    refine ok_ite.mpr ⟨fun h_8 => ?_, fun h_8 => ?_⟩
    · have g9 : (0 : Int32).toInt = (0 : Int32).toInt := by rw [h_8]
      refine ok_some.mpr ?_
      refine ok_ite.mpr ⟨fun h_10 => ?_, fun h_10 => ?_⟩
      · have g11 : (1 : Int32).toInt = (0 : Int32).toInt := by rw [h_10]
        exfalso
        omega
      · have g12 : (1 : Int32).toInt ≠ (0 : Int32).toInt := fun z => h_10 (Int32.toInt_inj.mp z)
        refine ok_bd.mpr ((o_fJ1_charAt_3b067_V7 hIσ (p1 := p1) (by omega)).mono (fun r5_2 ho_14 => ?_))
        refine ok_some.mpr ?_
        exact trivial
    · have g15 : (0 : Int32).toInt ≠ (0 : Int32).toInt := fun z => h_8 (Int32.toInt_inj.mp z)
      exfalso
      omega
set_option maxRecDepth 20000 in
set_option maxHeartbeats 2000000 in
theorem o_fX3_isWord_K7 {σ : gS} (hIσ : JC σ)   : Ok (fX3_isWord_K7 σ ) (fun out => 0 ≤ out.toInt ∧ out.toInt ≤ 1) := by
  unfold fX3_isWord_K7
  have f1 : 0 ≤ (σ.1 46 6).toInt ∧ (σ.1 46 6).toInt ≤ 1600 := hIσ 46 6
  have f2 : 0 ≤ (σ.1 46 7).toInt ∧ (σ.1 46 7).toInt ≤ 1600 := hIσ 46 7
  refine ok_bd.mpr ?_
  try unfold fJ0_length_8abf5_K7
  refine ok_bd.mpr ?_
  try unfold fJ0_coder_7d493_K7
  refine ok_ite.mpr ⟨fun h_3 => ?_, fun h_3 => ?_⟩
  · have f4 : (1 : Int32).toInt = 1 := by decide
    have f5 : (0 : Int32).toInt = 0 := by decide
    have g6 : (1 : Int32).toInt = (0 : Int32).toInt := by rw [h_3]
    exfalso
    omega
  · have f7 : (1 : Int32).toInt = 1 := by decide
    have f8 : (0 : Int32).toInt = 0 := by decide
    have g9 : (1 : Int32).toInt ≠ (0 : Int32).toInt := fun z => h_3 (Int32.toInt_inj.mp z)
    refine ok_some.mpr ?_
    refine ok_some.mpr ?_
    refine ok_ite.mpr ⟨fun h_10 => ?_, fun h_10 => ?_⟩
    · have f11 : ((σ.1 46 7) - (σ.1 46 6)).toInt = (σ.1 46 7).toInt - (σ.1 46 6).toInt := isub_toInt (by omega) (by omega)
      have f12 : ((4 : Int32) >>> ((vp_nar .byte 0) &&& 31)).toInt = 4 := by decide
      have g13 : ((σ.1 46 7) - (σ.1 46 6)).toInt = ((4 : Int32) >>> ((vp_nar .byte 0) &&& 31)).toInt := by rw [h_10]
      refine ok_nm2 (fun x4_3_4 ex4_3_4 => ?_)
      have qx4_3_4 : x4_3_4.toInt = 0 := by rw [ex4_3_4]; decide
      refine ok_lpc (I := fun n s => n = (4 + 1 - s.toInt).toNat ∧ 0 ≤ s.toInt ∧ s.toInt ≤ 4) (fun rec20_5r n_5 s_5 hs_5 hrec_5 => ?_) K9 ((4 + 1 - x4_3_4.toInt).toNat) x4_3_4 ⟨rfl, (show 0 ≤ x4_3_4.toInt by omega), (show x4_3_4.toInt ≤ 4 by omega)⟩ (by unfold K9; omega)
      obtain ⟨a2_5, hq_5⟩ : ∃ y, y = s_5 := ⟨_, rfl⟩
      subst hq_5
      obtain ⟨hn_5, b0a2_5, b1a2_5⟩ := hs_5
      skip
      unfold bX3_isWord_K7_20
      try dsimp only
      refine ok_bd.mpr ?_
      try unfold fJ0_length_8abf5_K7
      refine ok_bd.mpr ?_
      try unfold fJ0_coder_7d493_K7
      refine ok_ite.mpr ⟨fun h_14 => ?_, fun h_14 => ?_⟩
      · have g15 : (1 : Int32).toInt = (0 : Int32).toInt := by rw [h_14]
        exfalso
        omega
      · have g16 : (1 : Int32).toInt ≠ (0 : Int32).toInt := fun z => h_14 (Int32.toInt_inj.mp z)
        refine ok_some.mpr ?_
        refine ok_some.mpr ?_
        refine ok_ite.mpr ⟨fun h_17 => ?_, fun h_17 => ?_⟩
        · have g18 : ((4 : Int32) >>> ((vp_nar .byte 0) &&& 31)).toInt ≤ a2_5.toInt := Int32.le_iff_toInt_le.mp h_17
          refine ok_some.mpr ?_
          exact ⟨(show 0 ≤ (1 : Int32).toInt by omega), (show (1 : Int32).toInt ≤ 1 by omega)⟩
        · have g19 : ¬ ((4 : Int32) >>> ((vp_nar .byte 0) &&& 31)).toInt ≤ a2_5.toInt := fun z => h_17 (Int32.le_iff_toInt_le.mpr z)
          have f20 : ((σ.1 46 6) + a2_5).toInt = (σ.1 46 6).toInt + a2_5.toInt := iadd_toInt (by omega) (by omega)
          refine ok_gd.mpr ⟨gb_of (by omega) (by omega), ?_⟩
          refine ok_nm2 (fun v8_16_19_20 ev8_16_19_20 => ?_)
          have qv8_16_19_20 : v8_16_19_20.toInt = (σ.1 1 ((σ.1 46 6) + a2_5).toNatClampNeg).toInt := congrArg Int32.toInt ev8_16_19_20
          refine ok_bd.mpr ((o_fJ0_charAt_5068e_K7 hIσ (p1 := a2_5) (by omega)).mono (fun r10_16_19_20 ho_22 => ?_))
          refine ok_ite.mpr ⟨fun h_23 => ?_, fun h_23 => ?_⟩
          · have g24 : v8_16_19_20.toInt = r10_16_19_20.toInt := by rw [h_23]
            refine ok_nm2 (fun x12_16_19_20 ex12_16_19_20 => ?_)
            have f25 : (a2_5 + (1 : Int32)).toInt = a2_5.toInt + (1 : Int32).toInt := iadd_toInt (by omega) (by omega)
            have qx12_16_19_20 : x12_16_19_20.toInt = (a2_5 + 1).toInt := congrArg Int32.toInt ex12_16_19_20
            exact hrec_5 _ x12_16_19_20 (show (4 + 1 - x12_16_19_20.toInt).toNat < n_5 by omega) ⟨rfl, (show 0 ≤ x12_16_19_20.toInt by omega), (show x12_16_19_20.toInt ≤ 4 by omega)⟩
          · have g26 : v8_16_19_20.toInt ≠ r10_16_19_20.toInt := fun z => h_23 (Int32.toInt_inj.mp z)
            refine ok_some.mpr ?_
            exact ⟨(show 0 ≤ (0 : Int32).toInt by omega), (show (0 : Int32).toInt ≤ 1 by omega)⟩
    · have f27 : ((σ.1 46 7) - (σ.1 46 6)).toInt = (σ.1 46 7).toInt - (σ.1 46 6).toInt := isub_toInt (by omega) (by omega)
      have f28 : ((4 : Int32) >>> ((vp_nar .byte 0) &&& 31)).toInt = 4 := by decide
      have g29 : ((σ.1 46 7) - (σ.1 46 6)).toInt ≠ ((4 : Int32) >>> ((vp_nar .byte 0) &&& 31)).toInt := fun z => h_10 (Int32.toInt_inj.mp z)
      refine ok_some.mpr ?_
      exact ⟨(show 0 ≤ (0 : Int32).toInt by omega), (show (0 : Int32).toInt ≤ 1 by omega)⟩
set_option maxRecDepth 20000 in
set_option maxHeartbeats 2000000 in
theorem o_fJ0_coder_7d493_K8 {σ : gS} (hIσ : JC σ)   : Ok (fJ0_coder_7d493_K8 σ ) (fun out => 0 ≤ out.toInt ∧ out.toInt ≤ 0) := by
  unfold fJ0_coder_7d493_K8
  refine ok_ite.mpr ⟨fun h_1 => ?_, fun h_1 => ?_⟩
  · have f2 : (1 : Int32).toInt = 1 := by decide
    have f3 : (0 : Int32).toInt = 0 := by decide
    have g4 : (1 : Int32).toInt = (0 : Int32).toInt := by rw [h_1]
    exfalso
    omega
  · have f5 : (1 : Int32).toInt = 1 := by decide
    have f6 : (0 : Int32).toInt = 0 := by decide
    have g7 : (1 : Int32).toInt ≠ (0 : Int32).toInt := fun z => h_1 (Int32.toInt_inj.mp z)
    refine ok_some.mpr ?_
    have f8 : (vp_nar .byte 0).toInt = 0 := by decide
    exact ⟨(show 0 ≤ (vp_nar .byte 0).toInt by omega), (show (vp_nar .byte 0).toInt ≤ 0 by omega)⟩
set_option maxRecDepth 20000 in
set_option maxHeartbeats 2000000 in
theorem o_fJ0_length_8abf5_K8 {σ : gS} (hIσ : JC σ)   : Ok (fJ0_length_8abf5_K8 σ ) (fun out => 0 ≤ out.toInt ∧ out.toInt ≤ 3) := by
  unfold fJ0_length_8abf5_K8
  refine ok_bd.mpr ?_
  try unfold fJ0_coder_7d493_K8
  refine ok_ite.mpr ⟨fun h_1 => ?_, fun h_1 => ?_⟩
  · have f2 : (1 : Int32).toInt = 1 := by decide
    have f3 : (0 : Int32).toInt = 0 := by decide
    have g4 : (1 : Int32).toInt = (0 : Int32).toInt := by rw [h_1]
    exfalso
    omega
  · have f5 : (1 : Int32).toInt = 1 := by decide
    have f6 : (0 : Int32).toInt = 0 := by decide
    have g7 : (1 : Int32).toInt ≠ (0 : Int32).toInt := fun z => h_1 (Int32.toInt_inj.mp z)
    refine ok_some.mpr ?_
    refine ok_some.mpr ?_
    have f8 : ((3 : Int32) >>> ((vp_nar .byte 0) &&& 31)).toInt = 3 := by decide
    exact ⟨(show 0 ≤ ((3 : Int32) >>> ((vp_nar .byte 0) &&& 31)).toInt by omega), (show ((3 : Int32) >>> ((vp_nar .byte 0) &&& 31)).toInt ≤ 3 by omega)⟩
set_option maxRecDepth 20000 in
set_option maxHeartbeats 2000000 in
theorem o_fJ0_isLatin1_aae02_K8 {σ : gS} (hIσ : JC σ)   : Ok (fJ0_isLatin1_aae02_K8 σ ) (fun out => 1 ≤ out.toInt ∧ out.toInt ≤ 1) := by
  unfold fJ0_isLatin1_aae02_K8
  refine ok_ite.mpr ⟨fun h_1 => ?_, fun h_1 => ?_⟩
  · have f2 : (1 : Int32).toInt = 1 := by decide
    have f3 : (0 : Int32).toInt = 0 := by decide
    have g4 : (1 : Int32).toInt = (0 : Int32).toInt := by rw [h_1]
    exfalso
    omega
  · have f5 : (1 : Int32).toInt = 1 := by decide
    have f6 : (0 : Int32).toInt = 0 := by decide
    have g7 : (1 : Int32).toInt ≠ (0 : Int32).toInt := fun z => h_1 (Int32.toInt_inj.mp z)
    refine ok_ite.mpr ⟨fun h_8 => ?_, fun h_8 => ?_⟩
    · have g9 : (0 : Int32).toInt = (0 : Int32).toInt := by rw [h_8]
      refine ok_some.mpr ?_
      exact ⟨(show 1 ≤ (1 : Int32).toInt by omega), (show (1 : Int32).toInt ≤ 1 by omega)⟩
    · have g10 : (0 : Int32).toInt ≠ (0 : Int32).toInt := fun z => h_8 (Int32.toInt_inj.mp z)
      exfalso
      omega
set_option maxRecDepth 20000 in
set_option maxHeartbeats 2000000 in
theorem o_fJ1_charAt_3b067_V8 {σ : gS} (hIσ : JC σ) {p1 : Int32} (pre0 : 0 ≤ p1.toInt ∧ p1.toInt < 3) : Ok (fJ1_charAt_3b067_V8 σ p1) (fun _ => True) := by
  unfold fJ1_charAt_3b067_V8
  have f1 : (3 : Int32).toInt = 3 := by decide
  refine ok_bd.mpr ((o_fJ0_checkIndex_df160 hIσ (p0 := p1) (p1 := (3 : Int32)) (by omega)).mono (fun u2 ho_3 => ?_))
  refine ok_gd.mpr ⟨gb_of (by omega) (by omega), ?_⟩
  refine ok_nm2 (fun v3 ev3 => ?_)
  have qv3 : v3.toInt = ((bytC 8) p1.toNatClampNeg).toInt := congrArg Int32.toInt ev3
  refine ok_some.mpr ?_
  exact trivial
set_option maxRecDepth 20000 in
set_option maxHeartbeats 2000000 in
theorem o_fJ0_charAt_5068e_K8 {σ : gS} (hIσ : JC σ) {p1 : Int32} (pre0 : 0 ≤ p1.toInt ∧ p1.toInt < 3) : Ok (fJ0_charAt_5068e_K8 σ p1) (fun _ => True) := by
  unfold fJ0_charAt_5068e_K8
  refine ok_bd.mpr ?_
  try unfold fJ0_isLatin1_aae02_K8
  refine ok_ite.mpr ⟨fun h_1 => ?_, fun h_1 => ?_⟩
  · have f2 : (1 : Int32).toInt = 1 := by decide
    have f3 : (0 : Int32).toInt = 0 := by decide
    have g4 : (1 : Int32).toInt = (0 : Int32).toInt := by rw [h_1]
    exfalso
    omega
  · have f5 : (1 : Int32).toInt = 1 := by decide
    have f6 : (0 : Int32).toInt = 0 := by decide
    have g7 : (1 : Int32).toInt ≠ (0 : Int32).toInt := fun z => h_1 (Int32.toInt_inj.mp z)
    refine ok_ite.mpr ⟨fun h_8 => ?_, fun h_8 => ?_⟩
    · have g9 : (0 : Int32).toInt = (0 : Int32).toInt := by rw [h_8]
      refine ok_some.mpr ?_
      refine ok_ite.mpr ⟨fun h_10 => ?_, fun h_10 => ?_⟩
      · have g11 : (1 : Int32).toInt = (0 : Int32).toInt := by rw [h_10]
        exfalso
        omega
      · have g12 : (1 : Int32).toInt ≠ (0 : Int32).toInt := fun z => h_10 (Int32.toInt_inj.mp z)
        refine ok_bd.mpr ((o_fJ1_charAt_3b067_V8 hIσ (p1 := p1) (by omega)).mono (fun r5_2 ho_14 => ?_))
        refine ok_some.mpr ?_
        exact trivial
    · have g15 : (0 : Int32).toInt ≠ (0 : Int32).toInt := fun z => h_8 (Int32.toInt_inj.mp z)
      exfalso
      omega
set_option maxRecDepth 20000 in
set_option maxHeartbeats 2000000 in
theorem o_fX3_isWord_K8 {σ : gS} (hIσ : JC σ)   : Ok (fX3_isWord_K8 σ ) (fun out => 0 ≤ out.toInt ∧ out.toInt ≤ 1) := by
  unfold fX3_isWord_K8
  have f1 : 0 ≤ (σ.1 46 6).toInt ∧ (σ.1 46 6).toInt ≤ 1600 := hIσ 46 6
  have f2 : 0 ≤ (σ.1 46 7).toInt ∧ (σ.1 46 7).toInt ≤ 1600 := hIσ 46 7
  refine ok_bd.mpr ?_
  try unfold fJ0_length_8abf5_K8
  refine ok_bd.mpr ?_
  try unfold fJ0_coder_7d493_K8
  refine ok_ite.mpr ⟨fun h_3 => ?_, fun h_3 => ?_⟩
  · have f4 : (1 : Int32).toInt = 1 := by decide
    have f5 : (0 : Int32).toInt = 0 := by decide
    have g6 : (1 : Int32).toInt = (0 : Int32).toInt := by rw [h_3]
    exfalso
    omega
  · have f7 : (1 : Int32).toInt = 1 := by decide
    have f8 : (0 : Int32).toInt = 0 := by decide
    have g9 : (1 : Int32).toInt ≠ (0 : Int32).toInt := fun z => h_3 (Int32.toInt_inj.mp z)
    refine ok_some.mpr ?_
    refine ok_some.mpr ?_
    refine ok_ite.mpr ⟨fun h_10 => ?_, fun h_10 => ?_⟩
    · have f11 : ((σ.1 46 7) - (σ.1 46 6)).toInt = (σ.1 46 7).toInt - (σ.1 46 6).toInt := isub_toInt (by omega) (by omega)
      have f12 : ((3 : Int32) >>> ((vp_nar .byte 0) &&& 31)).toInt = 3 := by decide
      have g13 : ((σ.1 46 7) - (σ.1 46 6)).toInt = ((3 : Int32) >>> ((vp_nar .byte 0) &&& 31)).toInt := by rw [h_10]
      refine ok_nm2 (fun x4_3_4 ex4_3_4 => ?_)
      have qx4_3_4 : x4_3_4.toInt = 0 := by rw [ex4_3_4]; decide
      refine ok_lpc (I := fun n s => n = (3 + 1 - s.toInt).toNat ∧ 0 ≤ s.toInt ∧ s.toInt ≤ 3) (fun rec20_5r n_5 s_5 hs_5 hrec_5 => ?_) K9 ((3 + 1 - x4_3_4.toInt).toNat) x4_3_4 ⟨rfl, (show 0 ≤ x4_3_4.toInt by omega), (show x4_3_4.toInt ≤ 3 by omega)⟩ (by unfold K9; omega)
      obtain ⟨a2_5, hq_5⟩ : ∃ y, y = s_5 := ⟨_, rfl⟩
      subst hq_5
      obtain ⟨hn_5, b0a2_5, b1a2_5⟩ := hs_5
      skip
      unfold bX3_isWord_K8_20
      try dsimp only
      refine ok_bd.mpr ?_
      try unfold fJ0_length_8abf5_K8
      refine ok_bd.mpr ?_
      try unfold fJ0_coder_7d493_K8
      refine ok_ite.mpr ⟨fun h_14 => ?_, fun h_14 => ?_⟩
      · have g15 : (1 : Int32).toInt = (0 : Int32).toInt := by rw [h_14]
        exfalso
        omega
      · have g16 : (1 : Int32).toInt ≠ (0 : Int32).toInt := fun z => h_14 (Int32.toInt_inj.mp z)
        refine ok_some.mpr ?_
        refine ok_some.mpr ?_
        refine ok_ite.mpr ⟨fun h_17 => ?_, fun h_17 => ?_⟩
        · have g18 : ((3 : Int32) >>> ((vp_nar .byte 0) &&& 31)).toInt ≤ a2_5.toInt := Int32.le_iff_toInt_le.mp h_17
          refine ok_some.mpr ?_
          exact ⟨(show 0 ≤ (1 : Int32).toInt by omega), (show (1 : Int32).toInt ≤ 1 by omega)⟩
        · have g19 : ¬ ((3 : Int32) >>> ((vp_nar .byte 0) &&& 31)).toInt ≤ a2_5.toInt := fun z => h_17 (Int32.le_iff_toInt_le.mpr z)
          have f20 : ((σ.1 46 6) + a2_5).toInt = (σ.1 46 6).toInt + a2_5.toInt := iadd_toInt (by omega) (by omega)
          refine ok_gd.mpr ⟨gb_of (by omega) (by omega), ?_⟩
          refine ok_nm2 (fun v8_14_17_18 ev8_14_17_18 => ?_)
          have qv8_14_17_18 : v8_14_17_18.toInt = (σ.1 1 ((σ.1 46 6) + a2_5).toNatClampNeg).toInt := congrArg Int32.toInt ev8_14_17_18
          refine ok_bd.mpr ((o_fJ0_charAt_5068e_K8 hIσ (p1 := a2_5) (by omega)).mono (fun r10_14_17_18 ho_22 => ?_))
          refine ok_ite.mpr ⟨fun h_23 => ?_, fun h_23 => ?_⟩
          · have g24 : v8_14_17_18.toInt = r10_14_17_18.toInt := by rw [h_23]
            refine ok_nm2 (fun x12_14_17_18 ex12_14_17_18 => ?_)
            have f25 : (a2_5 + (1 : Int32)).toInt = a2_5.toInt + (1 : Int32).toInt := iadd_toInt (by omega) (by omega)
            have qx12_14_17_18 : x12_14_17_18.toInt = (a2_5 + 1).toInt := congrArg Int32.toInt ex12_14_17_18
            exact hrec_5 _ x12_14_17_18 (show (3 + 1 - x12_14_17_18.toInt).toNat < n_5 by omega) ⟨rfl, (show 0 ≤ x12_14_17_18.toInt by omega), (show x12_14_17_18.toInt ≤ 3 by omega)⟩
          · have g26 : v8_14_17_18.toInt ≠ r10_14_17_18.toInt := fun z => h_23 (Int32.toInt_inj.mp z)
            refine ok_some.mpr ?_
            exact ⟨(show 0 ≤ (0 : Int32).toInt by omega), (show (0 : Int32).toInt ≤ 1 by omega)⟩
    · have f27 : ((σ.1 46 7) - (σ.1 46 6)).toInt = (σ.1 46 7).toInt - (σ.1 46 6).toInt := isub_toInt (by omega) (by omega)
      have f28 : ((3 : Int32) >>> ((vp_nar .byte 0) &&& 31)).toInt = 3 := by decide
      have g29 : ((σ.1 46 7) - (σ.1 46 6)).toInt ≠ ((3 : Int32) >>> ((vp_nar .byte 0) &&& 31)).toInt := fun z => h_10 (Int32.toInt_inj.mp z)
      refine ok_some.mpr ?_
      exact ⟨(show 0 ≤ (0 : Int32).toInt by omega), (show (0 : Int32).toInt ≤ 1 by omega)⟩
