/-! comes through, m 6 -/
theorem o_fX10_isUsed {σ : gS} (hIσ : JM σ) {p1 : Int32} (h0p1 : 0 ≤ p1.toInt) (h1p1 : p1.toInt ≤ 37) : Ok (fX10_isUsed σ p1) (fun out => 0 ≤ out.toInt ∧ out.toInt ≤ 1) := by
  exact ok_is (m_isUsed hIσ h0p1 h1p1) (IU_b σ p1)
theorem o_fX10_numberOf {σ : gS} (hIσ : JM σ) {p1 : Int32}  : Ok (fX10_numberOf σ p1) (fun out => -1 ≤ out.toInt ∧ out.toInt ≤ 37) := by
  have hn : 0 ≤ (σ.1 0 43).toInt ∧ (σ.1 0 43).toInt ≤ 38 := hIσ 0 43
  have h2 := fI_lo (fun i => decide (σ.1 30 i = p1)) (σ.1 0 43).toInt.toNat (by omega)
  exact ok_is (m_numberOf hIσ p1) ⟨h2.1, by omega⟩
set_option maxRecDepth 20000 in
set_option maxHeartbeats 2000000 in
theorem o_fX10_modulo {σ : gS} (hIσ : JM σ) {p0 : Int64}  : Ok (fX10_modulo σ p0) (fun _ => True) := by
  unfold fX10_modulo
  refine ok_some.mpr ?_
  exact trivial
set_option maxRecDepth 20000 in
set_option maxHeartbeats 2000000 in
theorem o_fX10_adds {σ : gS} (hIσ : JM σ) {p1 : Int32} {p2 : Int32} {p3 : Int64} (h0p1 : 0 ≤ p1.toInt) (h1p1 : p1.toInt ≤ 37) (h0p2 : 0 ≤ p2.toInt) (h1p2 : p2.toInt ≤ 39) : Ok (fX10_adds σ p1 p2 p3) (fun out => JM out ∧ Fr fr_fX10_adds σ out) := by
  unfold fX10_adds
  have hfσ : Fr fr_fX10_adds σ σ := Fr_r
  have f1 : (40 : Int32).toInt = 40 := by decide
  have f2 : ((40 : Int32) * p1).toInt = 40 * p1.toInt := imulc (by decide) (by omega) (by omega)
  have f3 : ((40 * p1) + p2).toInt = (40 * p1).toInt + p2.toInt := iadd_toInt (by omega) (by omega)
  refine ok_gd.mpr ⟨gb_of (by omega) (by omega), ?_⟩
  refine ok_nm2 (fun v1 ev1 => ?_)
  refine ok_bd.mpr ?_
  try unfold fX10_modulo
  refine ok_some.mpr ?_
  refine ok_gd.mpr ⟨gb_of (by omega) (by omega), ?_⟩
  refine ok_nm2 (fun σ4_2 eσ4_2 => ?_)
  have hIσ4_2 : JM σ4_2 := by rw [eσ4_2]; exact JM_l hIσ
  have hfσ4_2 : Fr fr_fX10_adds σ σ4_2 := by rw [eσ4_2]; exact Fr_l0 hfσ (by decide)
  refine ok_some.mpr ?_
  exact ⟨hIσ4_2, hfσ4_2⟩
set_option maxRecDepth 20000 in
set_option maxHeartbeats 2000000 in
theorem o_fX10_addsTie {σ : gS} (hIσ : JM σ) {p1 : Int32} {p2 : Int32} {p3 : Int32} {p4 : Int32} {p5 : Int32} (h0p1 : 0 ≤ p1.toInt) (h1p1 : p1.toInt ≤ 37) (h0p2 : -1 ≤ p2.toInt) (h1p2 : p2.toInt ≤ 37) : Ok (fX10_addsTie σ p1 p2 p3 p4 p5) (fun out => JM out ∧ Fr fr_fX10_addsTie σ out) := by
  unfold fX10_addsTie
  have hfσ : Fr fr_fX10_addsTie σ σ := Fr_r
  refine ok_bd.mpr ((o_fX10_adds hIσ (p1 := p1) (p2 := p1) (p3 := (p3.toInt64 : Int64)) (by omega) (by omega) (by omega) (by omega)).mono (fun σ2 ho_2 => ?_))
  obtain ⟨hIσ2, hcσ2⟩ := ho_2
  have hfσ2 : Fr fr_fX10_addsTie σ σ2 := Fr_c hfσ hcσ2 (by decide)
  refine ok_ite.mpr ⟨fun h_3 => ?_, fun h_3 => ?_⟩
  · have f4 : (-1 : Int32).toInt = -1 := by decide
    have g5 : p2.toInt = (-1 : Int32).toInt := by rw [h_3]
    try unfold jX10_addsTie_22
    have f6 : (38 : Int32).toInt = 38 := by decide
    refine ok_bd.mpr ((o_fX10_adds hIσ2 (p1 := p1) (p2 := (38 : Int32)) (p3 := ((p3.toInt64 * p4.toInt64) : Int64)) (by omega) (by omega) (by omega) (by omega)).mono (fun σ5_1 ho_8 => ?_))
    obtain ⟨hIσ5_1, hcσ5_1⟩ := ho_8
    have hfσ5_1 : Fr fr_fX10_addsTie σ σ5_1 := Fr_c hfσ2 hcσ5_1 (by decide)
    have f9 : (39 : Int32).toInt = 39 := by decide
    refine ok_bd.mpr ((o_fX10_adds hIσ5_1 (p1 := p1) (p2 := (39 : Int32)) (p3 := ((p3.toInt64 * p5.toInt64) : Int64)) (by omega) (by omega) (by omega) (by omega)).mono (fun σ7_1 ho_11 => ?_))
    obtain ⟨hIσ7_1, hcσ7_1⟩ := ho_11
    have hfσ7_1 : Fr fr_fX10_addsTie σ σ7_1 := Fr_c hfσ5_1 hcσ7_1 (by decide)
    refine ok_some.mpr ?_
    exact ⟨hIσ7_1, hfσ7_1⟩
  · have f12 : (-1 : Int32).toInt = -1 := by decide
    have g13 : p2.toInt ≠ (-1 : Int32).toInt := fun z => h_3 (Int32.toInt_inj.mp z)
    refine ok_bd.mpr ((o_fX10_adds hIσ2 (p1 := p1) (p2 := p2) (p3 := ((-p3).toInt64 : Int64)) (by omega) (by omega) (by omega) (by omega)).mono (fun σ9 ho_15 => ?_))
    obtain ⟨hIσ9, hcσ9⟩ := ho_15
    have hfσ9 : Fr fr_fX10_addsTie σ σ9 := Fr_c hfσ2 hcσ9 (by decide)
    try unfold jX10_addsTie_22
    have f16 : (38 : Int32).toInt = 38 := by decide
    refine ok_bd.mpr ((o_fX10_adds hIσ9 (p1 := p1) (p2 := (38 : Int32)) (p3 := ((p3.toInt64 * p4.toInt64) : Int64)) (by omega) (by omega) (by omega) (by omega)).mono (fun σ5_2 ho_18 => ?_))
    obtain ⟨hIσ5_2, hcσ5_2⟩ := ho_18
    have hfσ5_2 : Fr fr_fX10_addsTie σ σ5_2 := Fr_c hfσ9 hcσ5_2 (by decide)
    have f19 : (39 : Int32).toInt = 39 := by decide
    refine ok_bd.mpr ((o_fX10_adds hIσ5_2 (p1 := p1) (p2 := (39 : Int32)) (p3 := ((p3.toInt64 * p5.toInt64) : Int64)) (by omega) (by omega) (by omega) (by omega)).mono (fun σ7_2 ho_21 => ?_))
    obtain ⟨hIσ7_2, hcσ7_2⟩ := ho_21
    have hfσ7_2 : Fr fr_fX10_addsTie σ σ7_2 := Fr_c hfσ5_2 hcσ7_2 (by decide)
    refine ok_some.mpr ?_
    exact ⟨hIσ7_2, hfσ7_2⟩
theorem w9_num {σ2 τ : gS} (hI : JM τ) (hF : Fr [(31, 0)] σ2 τ) (hN : NK σ2 σ2) {k : Int32} (h0 : 0 ≤ k.toInt) (h1 : k.toInt ≤ 37) (ht : TH σ2 k) (hu : IU σ2 k ≠ 0) : ∃ x, fX10_numberOf τ k = some x ∧ 0 ≤ x.toInt ∧ x.toInt ≤ 37 := by
  obtain ⟨i, h2, h3⟩ := hN k h0 h1 ht hu
  refine m_number hI ⟨i, ?_, ?_⟩
  · rw [(hF 0 43 (by decide) (by decide)).1]; exact h2
  · rw [(hF 30 i (by decide) (by simp)).1]; exact h3
theorem w9_eq322 {σ2 τ : gS} (hI2 : JM σ2) (hR : RM σ2) (hN : NK σ2 σ2) (hI : JM τ) (hF : Fr [(31, 0)] σ2 τ) : Ok (lpc (S := Int32 × gS) K9 (fun rec s => bX10_equations_322 τ (fun a1 σ1 => rec (a1, σ1)) s.1 s.2) (0, τ)) (fun out => JM out ∧ Fr [(31, 0)] σ2 out) := by
  refine ok_lpc (I := fun (n : Nat) (s : Int32 × gS) => n = (12 - s.1.toInt).toNat ∧ 0 ≤ s.1.toInt ∧ s.1.toInt ≤ 12 ∧ JM s.2 ∧ Fr [(31, 0)] σ2 s.2) (fun rec n s hs hrec => ?_) K9 12 (0, τ) ⟨by first | decide | (dsimp only; decide), by first | decide | (dsimp only; decide), by first | decide | (dsimp only; decide), hI, hF⟩ (by unfold K9; decide)
  obtain ⟨a, ρ⟩ := s
  obtain ⟨hn, h0, h1, jI, jF⟩ := hs
  dsimp only at hn h0 h1 jI jF ⊢
  have e : ∀ k, k ≠ 31 → ρ.1 k = σ2.1 k := fun k hk => funext fun i => (jF k i (by simp [hk]) (by simp)).1
  have hp := (JM_n hI2).2.2.1
  have l12 : (12 : Int32).toInt = 12 := by decide
  have l24 : (24 : Int32).toInt = 24 := by decide
  have l25 : (25 : Int32).toInt = 25 := by decide
  have l32 : (32 : Int32).toInt = 32 := by decide
  have l0 : (0 : Int32).toInt = 0 := by decide
  have e1 : (a + 1).toInt = a.toInt + 1 := i_inc (by omega) h1 (by decide)
  have next : ∀ u, JM u → Fr [(31, 0)] σ2 u → a.toInt ≤ 11 → Ok (rec (a + 1, u)) (fun out => JM out ∧ Fr [(31, 0)] σ2 out) := fun u x y z => hrec (12 - (a + 1).toInt).toNat (a + 1, u) (by omega) ⟨rfl, show 0 ≤ (a + 1).toInt by omega, show (a + 1).toInt ≤ 12 by omega, x, y⟩
  unfold bX10_equations_322
  refine ok_bde (m_pictures ρ) ?_
  rw [e 15 (by decide)]
  refine ok_ite.mpr ⟨fun _ => ok_some.mpr ⟨jI, jF⟩, fun h => ?_⟩
  have ha : a.toInt < (σ2.1 15 7).toInt := by
    have := q_gt h
    omega
  refine ok_bde (m_centreOf ρ h0 (by omega)) ?_
  rw [e 18 (by decide)]
  refine ok_ite.mpr ⟨fun _ => ok_nm.mpr (next ρ jI jF (by omega)), fun hc => ?_⟩
  have hcb : 0 ≤ (σ2.1 18 (12 + a.toInt.toNat)).toInt ∧ (σ2.1 18 (12 + a.toInt.toNat)).toInt ≤ 9999 := hI2 18 (12 + a.toInt.toNat)
  have hc' : ¬ σ2.1 18 (12 + a.toInt.toNat) ≤ 0 := fun z => by
    have z := Int32.le_iff_toInt_le.mp z
    exact hc (q_of 0 (by omega))
  obtain ⟨x, hx, x0, x1⟩ := w9_num jI jF hN h0 (by omega) ⟨fun _ => ha, fun z => absurd z (by omega), fun z => absurd z (by omega)⟩ (IU_cen h0 (by omega) hc')
  refine ok_bde hx (ok_nm.mpr (ok_bde (m_strip ρ h0 (by omega)) ?_))
  rw [e 16 (by decide)]
  have hs : 0 ≤ (σ2.1 16 (12 + a.toInt.toNat)).toInt ∧ (σ2.1 16 (12 + a.toInt.toNat)).toInt ≤ 5 := hI2 16 (12 + a.toInt.toNat)
  have hs2 := hR.2 a.toInt.toNat (by omega)
  have ed : (32 + σ2.1 16 (12 + a.toInt.toNat)).toInt = 32 + (σ2.1 16 (12 + a.toInt.toNat)).toInt := by rw [iadd_toInt] <;> omega
  obtain ⟨y, hy, y0, y1⟩ := w9_num jI jF hN (k := 32 + σ2.1 16 (12 + a.toInt.toNat)) (by omega) (by omega) ⟨fun z => absurd z (by omega), fun _ z => absurd z (by omega), fun _ => by omega⟩ (IU_dr hI2 (by omega) hc')
  refine ok_bde hy (ok_nm.mpr (ok_bde (m_centreOf ρ h0 (by omega)) ?_))
  have f1 : (2 * a).toInt = 2 * a.toInt := imulc (by decide) (by omega) (by omega)
  have f2 : (24 + 2 * a).toInt = 24 + (2 * a).toInt := by rw [iadd_toInt] <;> omega
  have f3 : (25 + 2 * a).toInt = 25 + (2 * a).toInt := by rw [iadd_toInt] <;> omega
  refine ok_gd.mpr ⟨gb_of (by omega) (by omega), ok_nm.mpr (ok_gd.mpr ⟨gb_of (by omega) (by omega), ok_nm.mpr ?_⟩)⟩
  refine ok_bd.mpr ((o_fX10_addsTie jI (p1 := x) (p2 := y) x0 x1 (by omega) y1).mono (fun u hu => ?_))
  have uF : Fr [(31, 0)] σ2 u := Fr_c jF hu.2 (by decide)
  refine ok_bde (m_centreOf u h0 (by omega)) ?_
  refine ok_gd.mpr ⟨gb_of (by omega) (by omega), ok_nm.mpr (ok_gd.mpr ⟨gb_of (by omega) (by omega), ok_nm.mpr ?_⟩)⟩
  refine ok_bd.mpr ((o_fX10_addsTie hu.1 (p1 := y) (p2 := x) y0 y1 (by omega) x1).mono (fun w hw => ok_nm.mpr ?_))
  exact next w hw.1 (Fr_c uF hw.2 (by decide)) (by omega)
theorem w9_eq156 {σ2 τ : gS} (hI2 : JM σ2) (hR : RM σ2) (hN : NK σ2 σ2) (hI : JM τ) (hF : Fr [(31, 0)] σ2 τ) : Ok (lpc (S := Int32 × gS) K9 (fun rec s => bX10_equations_156 τ (fun a1 σ1 => rec (a1, σ1)) s.1 s.2) (0, τ)) (fun out => JM out ∧ Fr [(31, 0)] σ2 out) := by
  refine ok_lpc (I := fun (n : Nat) (s : Int32 × gS) => n = (60 - s.1.toInt).toNat ∧ 0 ≤ s.1.toInt ∧ s.1.toInt ≤ 60 ∧ JM s.2 ∧ Fr [(31, 0)] σ2 s.2) (fun rec n s hs hrec => ?_) K9 60 (0, τ) ⟨by first | decide | (dsimp only; decide), by first | decide | (dsimp only; decide), by first | decide | (dsimp only; decide), hI, hF⟩ (by unfold K9; decide)
  obtain ⟨a, ρ⟩ := s
  obtain ⟨hn, h0, h1, jI, jF⟩ := hs
  dsimp only at hn h0 h1 jI jF ⊢
  have e : ∀ k, k ≠ 31 → ρ.1 k = σ2.1 k := fun k hk => funext fun i => (jF k i (by simp [hk]) (by simp)).1
  have hr := (JM_n hI2).1
  have l12 : (12 : Int32).toInt = 12 := by decide
  have l40 : (40 : Int32).toInt = 40 := by decide
  have e1 : (a + 1).toInt = a.toInt + 1 := i_inc (by omega) h1 (by decide)
  have next : ∀ u, JM u → Fr [(31, 0)] σ2 u → a.toInt ≤ 59 → Ok (rec (a + 1, u)) (fun out => JM out ∧ Fr [(31, 0)] σ2 out) := fun u x y z => hrec (60 - (a + 1).toInt).toNat (a + 1, u) (by omega) ⟨rfl, show 0 ≤ (a + 1).toInt by omega, show (a + 1).toInt ≤ 60 by omega, x, y⟩
  unfold bX10_equations_156
  refine ok_bde (m_rows ρ) ?_
  rw [e 15 (by decide)]
  refine ok_ite.mpr ⟨fun _ => ok_nm.mpr (w9_eq322 hI2 hR hN jI jF), fun h => ?_⟩
  have ha : a.toInt < (σ2.1 15 9).toInt := by
    have := q_gt h
    omega
  refine ok_gd.mpr ⟨gb_of h0 (by omega), ok_nm.mpr ?_⟩
  rw [e 26 (by decide)]
  refine ok_ite.mpr ⟨fun hd => ?_, fun _ => ok_nm.mpr (next ρ jI jF (by omega))⟩
  rw [n_toInt] at hd
  have hR1 := hR.1 a.toInt.toNat (by omega)
  have hpb := JM_pic hI2 (60 + a.toInt.toNat)
  have hqb := JM_pt hI2 (60 + a.toInt.toNat)
  refine ok_bde (m_pictureOf ρ h0 (by omega)) ?_
  rw [e 22 (by decide)]
  obtain ⟨x, hx, x0, x1⟩ := w9_num jI jF hN hpb.1 (by omega) ⟨fun _ => hR1.1, fun z => absurd z (by omega), fun z => absurd z (by omega)⟩ (IU_pic hI2 (by omega) hd)
  refine ok_bde hx (ok_nm.mpr (ok_bde (m_pointOf ρ h0 (by omega)) ?_))
  rw [e 23 (by decide)]
  have eq12 : (12 + σ2.1 23 (60 + a.toInt.toNat)).toInt = 12 + (σ2.1 23 (60 + a.toInt.toNat)).toInt := by rw [iadd_toInt] <;> omega
  refine ok_bd.mpr ((o_fX10_numberOf jI (p1 := 12 + σ2.1 23 (60 + a.toInt.toNat))).mono (fun y hy => ok_nm.mpr (ok_bde (m_pointOf ρ h0 (by omega)) ?_)))
  rw [e 23 (by decide)]
  refine ok_nm.mpr ?_
  have f1 : (2 * σ2.1 23 (60 + a.toInt.toNat)).toInt = 2 * (σ2.1 23 (60 + a.toInt.toNat)).toInt := imulc (by decide) (by omega) (by omega)
  have f2 : (40 + 2 * σ2.1 23 (60 + a.toInt.toNat)).toInt = 40 + (2 * σ2.1 23 (60 + a.toInt.toNat)).toInt := by rw [iadd_toInt] <;> omega
  have f3 : (40 + 2 * σ2.1 23 (60 + a.toInt.toNat) + 1).toInt = (40 + 2 * σ2.1 23 (60 + a.toInt.toNat)).toInt + 1 := i_inc (c := 80) (by omega) (by omega) (by decide)
  have wt : ∀ u : gS, Ok (fX10_weightOf u a) (fun _ => True) := fun u => by
    have l60 : (60 : Int32).toInt = 60 := by decide
    have e9 : (60 + a).toInt = 60 + a.toInt := by rw [iadd_toInt] <;> omega
    unfold fX10_weightOf
    exact ok_gd.mpr ⟨gb_of (by omega) (by omega), ok_nm.mpr (ok_some.mpr trivial)⟩
  have tu : ∀ u : gS, JM u → ∀ ax : Int32, 0 ≤ ax.toInt → ax.toInt ≤ 1 → Ok (fX10_turned u a ax) (fun _ => True) := fun u hu ax b0 b1 => o_fX10_turned hu (p1 := a) (p2 := ax) h0 (by omega) b0 b1
  refine ok_ite.mpr ⟨fun _ => ?_, fun hne => ?_⟩
  · refine ok_bd.mpr ((wt ρ).mono (fun w _ => ok_gd.mpr ⟨gb_of (by omega) (by omega), ok_nm.mpr ?_⟩))
    refine ok_bd.mpr ((tu ρ jI 0 (by decide) (by decide)).mono (fun t1 _ => ok_gd.mpr ⟨gb_of (by omega) (by omega), ok_nm.mpr ?_⟩))
    refine ok_bd.mpr ((tu ρ jI 1 (by decide) (by decide)).mono (fun t2 _ => ?_))
    refine ok_bd.mpr ((o_fX10_addsTie jI (p1 := x) (p2 := -1) x0 x1 (by decide) (by decide)).mono (fun u hu => ok_nm.mpr ?_))
    exact next u hu.1 (Fr_c jF hu.2 (by decide)) (by omega)
  · have y0 : 0 ≤ y.toInt := by
      have : y.toInt ≠ -1 := fun z => hne (q_of (-1) (z.trans (by decide)))
      omega
    refine ok_bd.mpr ((wt ρ).mono (fun w _ => ?_))
    refine ok_bd.mpr ((tu ρ jI 0 (by decide) (by decide)).mono (fun t1 _ => ?_))
    refine ok_bd.mpr ((tu ρ jI 1 (by decide) (by decide)).mono (fun t2 _ => ?_))
    refine ok_bd.mpr ((o_fX10_addsTie jI (p1 := x) (p2 := y) x0 x1 (by omega) hy.2).mono (fun u hu => ?_))
    have uF : Fr [(31, 0)] σ2 u := Fr_c jF hu.2 (by decide)
    refine ok_bd.mpr ((wt u).mono (fun w _ => ?_))
    refine ok_bd.mpr ((tu u hu.1 0 (by decide) (by decide)).mono (fun t1 _ => ?_))
    refine ok_bd.mpr ((tu u hu.1 1 (by decide) (by decide)).mono (fun t2 _ => ?_))
    refine ok_bd.mpr ((o_fX10_addsTie hu.1 (p1 := y) (p2 := x) y0 hy.2 (by omega) x1).mono (fun w hw => ok_nm.mpr ?_))
    exact next w hw.1 (Fr_c uF hw.2 (by decide)) (by omega)
theorem w9_eq134 {σ2 : gS} (hI2 : JM σ2) (hR : RM σ2) (hN : NK σ2 σ2) : Ok (lpc (S := Int32 × gS) K9 (fun rec s => bX10_equations_134 σ2 (fun a1 σ1 => rec (a1, σ1)) s.1 s.2) (0, σ2)) (fun out => JM out ∧ Fr [(31, 0)] σ2 out) := by
  refine ok_lpc (I := fun (n : Nat) (s : Int32 × gS) => n = (1520 - s.1.toInt).toNat ∧ 0 ≤ s.1.toInt ∧ s.1.toInt ≤ 1520 ∧ JM s.2 ∧ Fr [(31, 0)] σ2 s.2) (fun rec n s hs hrec => ?_) K9 1520 (0, σ2) ⟨by first | decide | (dsimp only; decide), by first | decide | (dsimp only; decide), by first | decide | (dsimp only; decide), hI2, Fr_r⟩ (by unfold K9; decide)
  obtain ⟨a, ρ⟩ := s
  obtain ⟨hn, h0, h1, jI, jF⟩ := hs
  dsimp only at hn h0 h1 jI jF ⊢
  have l : (1520 : Int32).toInt = 1520 := by decide
  have e1 : (a + 1).toInt = a.toInt + 1 := i_inc (by omega) h1 (by decide)
  unfold bX10_equations_134
  refine ok_ite.mpr ⟨fun _ => ok_nm.mpr (w9_eq156 hI2 hR hN jI jF), fun h => ?_⟩
  have ha : a.toInt < 1520 := by
    have := q_gt h
    omega
  refine ok_gd.mpr ⟨gb_of h0 (by omega), ok_nm.mpr (ok_nm.mpr ?_)⟩
  exact hrec (1520 - (a + 1).toInt).toNat (a + 1, _) (by omega) ⟨rfl, show 0 ≤ (a + 1).toInt by omega, show (a + 1).toInt ≤ 1520 by omega, JM_l jI, Fr_l0 jF (by decide)⟩
theorem o_fX10_equations {σ : gS} (hIσ : JM σ)  (pre0 : RM σ) : Ok (fX10_equations σ ) (fun out => JM out ∧ Fr fr_fX10_equations σ out ∧ NK σ out) := by
  have l38 : (38 : Int32).toInt = 38 := by decide
  have l12 : (12 : Int32).toInt = 12 := by decide
  have l32 : (32 : Int32).toInt = 32 := by decide
  unfold fX10_equations
  refine ok_nm.mpr (ok_nm.mpr (ok_lpc (I := fun (n : Nat) (s : Int32 × gS) => n = (38 - s.1.toInt).toNat ∧ 0 ≤ s.1.toInt ∧ s.1.toInt ≤ 38 ∧ JM s.2 ∧ Fr [(0, 44), (30, 0)] σ s.2 ∧ (s.2.1 0 43).toInt ≤ s.1.toInt ∧ ∀ k : Int32, 0 ≤ k.toInt → k.toInt < s.1.toInt → TH σ k → IU σ k ≠ 0 → ∃ i : Nat, (i : Int) < (s.2.1 0 43).toInt ∧ s.2.1 30 i = k) (fun rec n s hs hrec => ?_) K9 38 (0, gsI σ 0 43 0) ⟨show 38 = (38 - (0 : Int32).toInt).toNat by decide, show 0 ≤ (0 : Int32).toInt by decide, show (0 : Int32).toInt ≤ 38 by decide, JM_w hIσ (show 0 ≤ (0 : Int32).toInt by decide) (show (0 : Int32).toInt ≤ 38 by decide), Fr_w Fr_r (by decide), show (0 : Int32).toInt ≤ (0 : Int32).toInt from Int.le_refl _, fun k x y => absurd (show k.toInt < (0 : Int32).toInt from y) (by have := z0; omega)⟩ (by unfold K9; decide)))
  obtain ⟨a, τ⟩ := s
  obtain ⟨hn, h0, h1, hI, hF, hu, hK⟩ := hs
  dsimp only at hn h0 h1 hI hF hu hK ⊢
  have hu0 : 0 ≤ (τ.1 0 43).toInt ∧ (τ.1 0 43).toInt ≤ 38 := hI 0 43
  have e : ∀ k, k ≠ 0 → k ≠ 30 → τ.1 k = σ.1 k := fun k hk hk2 => funext fun i => (hF k i (by simp [hk2]) (by simp [hk])).1
  have e36 : τ.1 0 36 = σ.1 0 36 := (hF 0 36 (by decide) (by decide)).1
  have e1 : (a + 1).toInt = a.toInt + 1 := i_inc (by omega) h1 (by decide)
  have iu : ∀ k, IU τ k = IU σ k := IU_eq (e 15 (by decide) (by decide)) (e 16 (by decide) (by decide)) (e 18 (by decide) (by decide)) (e 22 (by decide) (by decide)) (e 23 (by decide) (by decide)) (e 26 (by decide) (by decide))
  have th : ∀ k, TH τ k → TH σ k := fun k h => by
    unfold TH at h ⊢
    rw [e 15 (by decide) (by decide), isControl_eq (e 20 (by decide) (by decide)) e36] at h
    exact h
  -- what stays, and the next
  have skip : a.toInt ≤ 37 → (¬ TH σ a ∨ IU σ a = 0) → Ok (rec (a + 1, τ)) (fun out => JM out ∧ Fr fr_fX10_equations σ out ∧ NK σ out) := fun ha hno => hrec (38 - (a + 1).toInt).toNat (a + 1, τ) (by omega) ⟨rfl, show 0 ≤ (a + 1).toInt by omega, show (a + 1).toInt ≤ 38 by omega, hI, hF, show (τ.1 0 43).toInt ≤ (a + 1).toInt by omega, fun k x y t u => by
    dsimp only at y
    by_cases c : k = a
    · subst c
      rcases hno with hno | hno
      · exact absurd t hno
      · exact absurd hno u
    · have : k.toInt ≠ a.toInt := fun z => c (Int32.toInt_inj.mp z)
      exact hK k x (by omega) t u⟩
  have J0 : a.toInt ≤ 37 → ¬ TH σ a → Ok (jX10_equations_90 τ (fun a1 σ1 => rec (a1, σ1)) a 0) (fun out => JM out ∧ Fr fr_fX10_equations σ out ∧ NK σ out) := fun ha hno => by
    unfold jX10_equations_90
    exact ok_nm.mpr (ok_ite.mpr ⟨fun _ => ok_nm.mpr (skip ha (.inl hno)), fun z => absurd rfl z⟩)
  have J1 : a.toInt ≤ 37 → Ok (jX10_equations_90 τ (fun a1 σ1 => rec (a1, σ1)) a 1) (fun out => JM out ∧ Fr fr_fX10_equations σ out ∧ NK σ out) := fun ha => by
    unfold jX10_equations_90
    refine ok_nm.mpr (ok_ite.mpr ⟨fun z => absurd z (by decide), fun _ => ok_bde (m_isUsed hI h0 ha) (ok_ite.mpr ⟨fun z => ok_nm.mpr (skip ha (.inr (by rw [← iu]; exact z))), fun z => ?_⟩)⟩)
    have eu : (τ.1 0 43 + 1).toInt = (τ.1 0 43).toInt + 1 := i_inc (c := 38) (by omega) (by omega) (by decide)
    refine ok_gd.mpr ⟨gb_of hu0.1 (by omega), ok_nm.mpr (ok_nm.mpr (ok_nm.mpr ?_))⟩
    have ee : (gsI (gsI τ 30 (τ.1 0 43).toNatClampNeg a) 0 43 (τ.1 0 43 + 1)).1 0 43 = τ.1 0 43 + 1 := by rw [gsI_1, if_pos ⟨rfl, rfl⟩]
    refine hrec (38 - (a + 1).toInt).toNat (a + 1, _) (by omega) ⟨rfl, show 0 ≤ (a + 1).toInt by omega, show (a + 1).toInt ≤ 38 by omega, ?_, Fr_w (Fr_w0 hF (by decide)) (by decide), ?_, fun k x y t u => ?_⟩
    · exact JM_w (JM_w hI (Int32.le_toInt _) (Int32.toInt_le _)) (show 0 ≤ (τ.1 0 43 + 1).toInt by omega) (show (τ.1 0 43 + 1).toInt ≤ 38 by omega)
    · dsimp only
      show ((gsI (gsI τ 30 (τ.1 0 43).toNatClampNeg a) 0 43 (τ.1 0 43 + 1)).1 0 43).toInt ≤ (a + 1).toInt
      rw [ee]
      omega
    · dsimp only at y ⊢
      show ∃ i : Nat, (i : Int) < ((gsI (gsI τ 30 (τ.1 0 43).toNatClampNeg a) 0 43 (τ.1 0 43 + 1)).1 0 43).toInt ∧ (gsI (gsI τ 30 (τ.1 0 43).toNatClampNeg a) 0 43 (τ.1 0 43 + 1)).1 30 i = k
      rw [ee]
      by_cases c : k = a
      · refine ⟨(τ.1 0 43).toInt.toNat, by omega, ?_⟩
        rw [gsI_1, if_neg (fun z => absurd z.1 (by decide)), gsI_1, if_pos ⟨rfl, rfl⟩, c]
      · have : k.toInt ≠ a.toInt := fun z => c (Int32.toInt_inj.mp z)
        obtain ⟨i, i1, i2⟩ := hK k x (by omega) t u
        refine ⟨i, by omega, ?_⟩
        rw [gsI_1, if_neg (fun z => absurd z.1 (by decide)), gsI_1, if_neg (fun z => ?_)]
        · exact i2
        · have := z.2
          rw [n_toInt] at this
          omega
  unfold bX10_equations_7
  refine ok_ite.mpr ⟨fun h => ok_nm.mpr ?_, fun h => ?_⟩
  · have h38 : 38 ≤ a.toInt := by
      have := Int32.le_iff_toInt_le.mp h
      omega
    have hR' : RM τ := by
      unfold RM
      rw [e 15 (by decide) (by decide), e 22 (by decide) (by decide), e 23 (by decide) (by decide), e 16 (by decide) (by decide)]
      exact pre0
    have hN' : NK τ τ := fun k x y t u => hK k x (by omega) (th k t) (by rw [← iu]; exact u)
    refine (w9_eq134 hI hR' hN').mono (fun out ho => ⟨ho.1, Fr_c (Fr_c Fr_r hF (by decide)) ho.2 (by decide), fun k x y t u => ?_⟩)
    obtain ⟨i, i1, i2⟩ := hK k x (by omega) t u
    refine ⟨i, ?_, ?_⟩
    · rw [(ho.2 0 43 (by decide) (by decide)).1]; exact i1
    · rw [(ho.2 30 i (by decide) (by simp)).1]; exact i2
  · have ha : a.toInt ≤ 37 := by
      have := q_gt h
      omega
    have hnb := JM_n hIσ
    refine ok_ite.mpr ⟨fun c12 => ok_ite.mpr ⟨fun c32 => ?_, fun c32 => ?_⟩, fun c12 => ?_⟩
    · have g1 : 32 ≤ a.toInt := by have := Int32.le_iff_toInt_le.mp c32; omega
      have e32 : (a - 32).toInt = a.toInt - 32 := by rw [isub_toInt] <;> omega
      refine ok_gd.mpr ⟨by decide, ok_nm.mpr ?_⟩
      rw [e 15 (by decide) (by decide)]
      refine ok_ite.mpr ⟨fun z => J0 ha (fun t => ?_), fun _ => J1 ha⟩
      have z : (σ.1 15 6).toInt ≤ (a - 32).toInt := Int32.le_iff_toInt_le.mp z
      have := t.2.2 g1
      omega
    · have g1 : 12 ≤ a.toInt := by have := Int32.le_iff_toInt_le.mp c12; omega
      have g2 : a.toInt < 32 := by
        have := q_gt c32
        omega
      have e12 : (a - 12).toInt = a.toInt - 12 := by rw [isub_toInt] <;> omega
      refine ok_bde (m_points τ) ?_
      rw [e 15 (by decide) (by decide)]
      refine ok_ite.mpr ⟨fun z => J0 ha (fun t => ?_), fun z => ?_⟩
      · have z := Int32.le_iff_toInt_le.mp z
        have := (t.2.1 g1 g2).1
        omega
      · rw [isControl_eq (e 20 (by decide) (by decide)) e36]
        rcases m_isControl σ (q := a - 12) (by omega) (by omega) with hc | hc
        · exact ok_bde hc (ok_ite.mpr ⟨fun _ => J1 ha, fun z => absurd rfl z⟩)
        · refine ok_bde hc (ok_ite.mpr ⟨fun z => absurd z (by decide), fun _ => J0 ha (fun t => ?_)⟩)
          have := (t.2.1 g1 g2).2
          rw [hc] at this
          exact absurd this (by decide)
    · have g2 : a.toInt < 12 := by
        have := q_gt c12
        omega
      refine ok_bde (m_pictures τ) ?_
      rw [e 15 (by decide) (by decide)]
      refine ok_ite.mpr ⟨fun z => J0 ha (fun t => ?_), fun _ => J1 ha⟩
      have z := Int32.le_iff_toInt_le.mp z
      have := t.1 g2
      omega
set_option maxRecDepth 20000 in
set_option maxHeartbeats 2000000 in
theorem o_fX10_swaps {σ : gS} (hIσ : JM σ) {p1 : Int32} {p2 : Int32} (h0p1 : 0 ≤ p1.toInt) (h1p1 : p1.toInt ≤ 37) (h0p2 : 0 ≤ p2.toInt) (h1p2 : p2.toInt ≤ 37) : Ok (fX10_swaps σ p1 p2) (fun out => JM out ∧ Fr fr_fX10_swaps σ out) := by
  unfold fX10_swaps
  have hfσ : Fr fr_fX10_swaps σ σ := Fr_r
  refine ok_nm2 (fun x1 ex1 => ?_)
  have f1 : (0 : Int32).toInt = 0 := by decide
  have qx1 : x1.toInt = 0 := by rw [ex1]; decide
  refine ok_lpc (I := fun n s => n = (40 + 1 - s.1.toInt).toNat ∧ JM s.2 ∧ Fr fr_fX10_swaps σ s.2 ∧ 0 ≤ s.1.toInt ∧ s.1.toInt ≤ 40) (fun rec2_1r n_1 s_1 hs_1 hrec_1 => ?_) K9 ((40 + 1 - x1.toInt).toNat) (x1, σ) ⟨rfl, hIσ, hfσ, (show 0 ≤ x1.toInt by omega), (show x1.toInt ≤ 40 by omega)⟩ (by unfold K9; omega)
  obtain ⟨a3_1, σ1_1⟩ := s_1
  obtain ⟨hn_1, hIσ1_1, hfσ1_1, b0a3_1, b1a3_1⟩ := hs_1
  dsimp only at hn_1 hIσ1_1 hfσ1_1 b0a3_1 b1a3_1
  unfold bX10_swaps_2
  try dsimp only
  refine ok_ite.mpr ⟨fun h_2 => ?_, fun h_2 => ?_⟩
  · have f3 : (40 : Int32).toInt = 40 := by decide
    have g4 : (40 : Int32).toInt ≤ a3_1.toInt := Int32.le_iff_toInt_le.mp h_2
    refine ok_some.mpr ?_
    exact ⟨hIσ1_1, hfσ1_1⟩
  · have f5 : (40 : Int32).toInt = 40 := by decide
    have g6 : ¬ (40 : Int32).toInt ≤ a3_1.toInt := fun z => h_2 (Int32.le_iff_toInt_le.mpr z)
    have f7 : ((40 : Int32) * p1).toInt = 40 * p1.toInt := imulc (by decide) (by omega) (by omega)
    have f8 : ((40 * p1) + a3_1).toInt = (40 * p1).toInt + a3_1.toInt := iadd_toInt (by omega) (by omega)
    refine ok_gd.mpr ⟨gb_of (by omega) (by omega), ?_⟩
    refine ok_nm2 (fun v3_2 ev3_2 => ?_)
    refine ok_nm.mpr ?_
    have f9 : ((40 : Int32) * p2).toInt = 40 * p2.toInt := imulc (by decide) (by omega) (by omega)
    have f10 : ((40 * p2) + a3_1).toInt = (40 * p2).toInt + a3_1.toInt := iadd_toInt (by omega) (by omega)
    refine ok_gd.mpr ⟨gb_of (by omega) (by omega), ?_⟩
    refine ok_nm2 (fun v5_2_3 ev5_2_3 => ?_)
    refine ok_gd.mpr ⟨gb_of (by omega) (by omega), ?_⟩
    refine ok_nm2 (fun σ6_2_3 eσ6_2_3 => ?_)
    have hIσ6_2_3 : JM σ6_2_3 := by rw [eσ6_2_3]; exact JM_l hIσ1_1
    have hfσ6_2_3 : Fr fr_fX10_swaps σ σ6_2_3 := by rw [eσ6_2_3]; exact Fr_l0 hfσ1_1 (by decide)
    refine ok_gd.mpr ⟨gb_of (by omega) (by omega), ?_⟩
    refine ok_nm2 (fun σ7_2_3 eσ7_2_3 => ?_)
    have hIσ7_2_3 : JM σ7_2_3 := by rw [eσ7_2_3]; exact JM_l hIσ6_2_3
    have hfσ7_2_3 : Fr fr_fX10_swaps σ σ7_2_3 := by rw [eσ7_2_3]; exact Fr_l0 hfσ6_2_3 (by decide)
    refine ok_nm2 (fun x8_2_3 ex8_2_3 => ?_)
    have f11 : (1 : Int32).toInt = 1 := by decide
    have f12 : (a3_1 + (1 : Int32)).toInt = a3_1.toInt + (1 : Int32).toInt := iadd_toInt (by omega) (by omega)
    have qx8_2_3 : x8_2_3.toInt = (a3_1 + 1).toInt := congrArg Int32.toInt ex8_2_3
    exact hrec_1 _ (x8_2_3, σ7_2_3) (show (40 + 1 - x8_2_3.toInt).toNat < n_1 by omega) ⟨rfl, hIσ7_2_3, hfσ7_2_3, (show 0 ≤ x8_2_3.toInt by omega), (show x8_2_3.toInt ≤ 40 by omega)⟩
theorem o_fX10_inverse {σ : gS} (hIσ : JM σ) {p0 : Int64}  : Ok (fX10_inverse σ p0) (fun _ => True) := by
  have l0 : (0 : Int64).toInt = 0 := by decide
  have l2 : (2 : Int64).toInt = 2 := by decide
  unfold fX10_inverse
  refine ok_nm.mpr (ok_nm.mpr (ok_nm.mpr (ok_lpc (I := fun (n : Nat) (s : Int64 × Int64 × Int64) => n = s.2.2.toInt.toNat) (fun rec n s hs hrec => ?_) K9 1000001 (1, p0, 1000001) (show 1000001 = (1000001 : Int64).toInt.toNat by decide) (by unfold K9; decide))))
  obtain ⟨a, b, e⟩ := s
  dsimp only at hs ⊢
  unfold bX10_inverse_10
  refine ok_ite.mpr ⟨fun _ => ok_some.mpr trivial, fun h => ?_⟩
  have he : 0 < e.toInt := by
    have := q_lgt h
    omega
  have e2 : (e / 2).toInt = e.toInt / 2 := by rw [ldiv_nn (by omega) (by omega), l2]
  have J : ∀ a', Ok (jX10_inverse_37 σ (fun a2 a4 a6 => rec (a2, a4, a6)) a' b e) (fun _ => True) := fun a' => by
    unfold jX10_inverse_37
    exact ok_nm.mpr (ok_nm.mpr (hrec (e / 2).toInt.toNat (a', _, e / 2) (by omega) rfl))
  exact ok_ite.mpr ⟨fun _ => ok_nm.mpr (J _), fun _ => J _⟩
noncomputable def PS (σ2 : gS) (out : Int32 × gS) : Prop := JM out.2 ∧ Fr [(31, 0)] σ2 out.2 ∧ 0 ≤ out.1.toInt ∧ out.1.toInt ≤ 1
theorem w9_ix {c a : Int32} (c0 : 0 ≤ c.toInt) (c1 : c.toInt ≤ 37) (a0 : 0 ≤ a.toInt) (a1 : a.toInt ≤ 39) : gb ((40 * c) + a) 1520 = true := by
  have f1 : (40 * c).toInt = 40 * c.toInt := imulc (by decide) (by omega) (by omega)
  have f2 : (40 * c + a).toInt = (40 * c).toInt + a.toInt := by rw [iadd_toInt] <;> omega
  exact gb_of (by omega) (by omega)
theorem w9_is168 {σ2 τ : gS} {c r : Int32} {f : Int64} (c0 : 0 ≤ c.toInt) (c1 : c.toInt ≤ 37) (r0 : 0 ≤ r.toInt) (r1 : r.toInt ≤ 37) (hI : JM τ) (hF : Fr [(31, 0)] σ2 τ) {rec6 rec126 : Int32 → gS → Option (Int32 × gS)} (k : ∀ u, JM u → Fr [(31, 0)] σ2 u → Ok (rec126 (r + 1) u) (PS σ2)) : Ok (lpc (S := Int32 × gS) K9 (fun rec s => bX10_isSolved_168 τ c r f rec6 rec126 (fun a8 σ1 => rec (a8, σ1)) s.1 s.2) (0, τ)) (PS σ2) := by
  refine ok_lpc (I := fun (n : Nat) (s : Int32 × gS) => n = (40 - s.1.toInt).toNat ∧ 0 ≤ s.1.toInt ∧ s.1.toInt ≤ 40 ∧ JM s.2 ∧ Fr [(31, 0)] σ2 s.2) (fun rec n s hs hrec => ?_) K9 40 (0, τ) ⟨by first | decide | (dsimp only; decide), by first | decide | (dsimp only; decide), by first | decide | (dsimp only; decide), hI, hF⟩ (by unfold K9; decide)
  obtain ⟨a, ρ⟩ := s
  obtain ⟨hn, h0, h1, jI, jF⟩ := hs
  dsimp only at hn h0 h1 jI jF ⊢
  have l : (40 : Int32).toInt = 40 := by decide
  have e1 : (a + 1).toInt = a.toInt + 1 := i_inc (by omega) h1 (by decide)
  unfold bX10_isSolved_168
  refine ok_ite.mpr ⟨fun _ => ok_nm.mpr (k ρ jI jF), fun h => ?_⟩
  have ha : a.toInt ≤ 39 := by
    have := q_gt h
    omega
  refine ok_gd.mpr ⟨w9_ix r0 r1 h0 ha, ok_nm.mpr (ok_gd.mpr ⟨w9_ix c0 c1 h0 ha, ok_nm.mpr (ok_bde (x := _) rfl (ok_gd.mpr ⟨w9_ix r0 r1 h0 ha, ok_nm.mpr (ok_nm.mpr ?_)⟩))⟩)⟩
  exact hrec (40 - (a + 1).toInt).toNat (a + 1, _) (by omega) ⟨rfl, show 0 ≤ (a + 1).toInt by omega, show (a + 1).toInt ≤ 40 by omega, JM_l jI, Fr_l0 jF (by decide)⟩
theorem w9_un {σ2 ρ : gS} (hF : Fr [(31, 0)] σ2 ρ) : ρ.1 0 43 = σ2.1 0 43 := (hF 0 43 (by decide) (by decide)).1
theorem w9_is126 {σ2 τ : gS} {c : Int32} (hI2 : JM σ2) (c0 : 0 ≤ c.toInt) (c1 : c.toInt < (σ2.1 0 43).toInt) (hI : JM τ) (hF : Fr [(31, 0)] σ2 τ) {rec6 : Int32 → gS → Option (Int32 × gS)} (k : ∀ u, JM u → Fr [(31, 0)] σ2 u → Ok (rec6 (c + 1) u) (PS σ2)) : Ok (lpc (S := Int32 × gS) K9 (fun rec s => bX10_isSolved_126 τ c rec6 (fun a5 σ1 => rec (a5, σ1)) s.1 s.2) (0, τ)) (PS σ2) := by
  have hu : 0 ≤ (σ2.1 0 43).toInt ∧ (σ2.1 0 43).toInt ≤ 38 := hI2 0 43
  refine ok_lpc (I := fun (n : Nat) (s : Int32 × gS) => n = (38 - s.1.toInt).toNat ∧ 0 ≤ s.1.toInt ∧ s.1.toInt ≤ 38 ∧ JM s.2 ∧ Fr [(31, 0)] σ2 s.2) (fun rec n s hs hrec => ?_) K9 38 (0, τ) ⟨by first | decide | (dsimp only; decide), by first | decide | (dsimp only; decide), by first | decide | (dsimp only; decide), hI, hF⟩ (by unfold K9; decide)
  obtain ⟨a, ρ⟩ := s
  obtain ⟨hn, h0, h1, jI, jF⟩ := hs
  dsimp only at hn h0 h1 jI jF ⊢
  have e1 : (a + 1).toInt = a.toInt + 1 := i_inc (by omega) h1 (by decide)
  unfold bX10_isSolved_126
  rw [w9_un jF]
  refine ok_ite.mpr ⟨fun _ => ok_nm.mpr (k ρ jI jF), fun h => ?_⟩
  have ha : a.toInt < (σ2.1 0 43).toInt := by
    have := q_gt h
    omega
  have next : ∀ u, JM u → Fr [(31, 0)] σ2 u → Ok (rec (a + 1, u)) (PS σ2) := fun u x y => hrec (38 - (a + 1).toInt).toNat (a + 1, u) (by omega) ⟨rfl, show 0 ≤ (a + 1).toInt by omega, show (a + 1).toInt ≤ 38 by omega, x, y⟩
  refine ok_gd.mpr ⟨w9_ix h0 (by omega) c0 (by omega), ok_nm.mpr (ok_nm.mpr (ok_ite.mpr ⟨fun _ => ok_nm.mpr (next ρ jI jF), fun _ => ok_ite.mpr ⟨fun _ => ok_nm.mpr (next ρ jI jF), fun _ => ok_nm.mpr ?_⟩⟩))⟩
  exact w9_is168 c0 (by omega) h0 (by omega) jI jF next
theorem w9_is80 {σ2 τ : gS} {c : Int32} {f : Int64} (hI2 : JM σ2) (c0 : 0 ≤ c.toInt) (c1 : c.toInt < (σ2.1 0 43).toInt) (hI : JM τ) (hF : Fr [(31, 0)] σ2 τ) {rec6 : Int32 → gS → Option (Int32 × gS)} (k : ∀ u, JM u → Fr [(31, 0)] σ2 u → Ok (rec6 (c + 1) u) (PS σ2)) : Ok (lpc (S := Int32 × gS) K9 (fun rec s => bX10_isSolved_80 τ c f rec6 (fun a5 σ1 => rec (a5, σ1)) s.1 s.2) (0, τ)) (PS σ2) := by
  have hu : 0 ≤ (σ2.1 0 43).toInt ∧ (σ2.1 0 43).toInt ≤ 38 := hI2 0 43
  refine ok_lpc (I := fun (n : Nat) (s : Int32 × gS) => n = (40 - s.1.toInt).toNat ∧ 0 ≤ s.1.toInt ∧ s.1.toInt ≤ 40 ∧ JM s.2 ∧ Fr [(31, 0)] σ2 s.2) (fun rec n s hs hrec => ?_) K9 40 (0, τ) ⟨by first | decide | (dsimp only; decide), by first | decide | (dsimp only; decide), by first | decide | (dsimp only; decide), hI, hF⟩ (by unfold K9; decide)
  obtain ⟨a, ρ⟩ := s
  obtain ⟨hn, h0, h1, jI, jF⟩ := hs
  dsimp only at hn h0 h1 jI jF ⊢
  have l : (40 : Int32).toInt = 40 := by decide
  have e1 : (a + 1).toInt = a.toInt + 1 := i_inc (by omega) h1 (by decide)
  unfold bX10_isSolved_80
  refine ok_ite.mpr ⟨fun _ => ok_nm.mpr (w9_is126 hI2 c0 c1 jI jF k), fun h => ?_⟩
  have ha : a.toInt ≤ 39 := by
    have := q_gt h
    omega
  refine ok_gd.mpr ⟨w9_ix c0 (by omega) h0 ha, ok_nm.mpr (ok_gd.mpr ⟨w9_ix c0 (by omega) h0 ha, ok_nm.mpr (ok_nm.mpr ?_)⟩)⟩
  exact hrec (40 - (a + 1).toInt).toNat (a + 1, _) (by omega) ⟨rfl, show 0 ≤ (a + 1).toInt by omega, show (a + 1).toInt ≤ 40 by omega, JM_l jI, Fr_l0 jF (by decide)⟩
theorem w9_is46 {σ2 τ : gS} {c r : Int32} (hI2 : JM σ2) (c0 : 0 ≤ c.toInt) (c1 : c.toInt < (σ2.1 0 43).toInt) (r0 : 0 ≤ r.toInt) (r1 : r.toInt ≤ (σ2.1 0 43).toInt) (hI : JM τ) (hF : Fr [(31, 0)] σ2 τ) {rec6 : Int32 → gS → Option (Int32 × gS)} (k : ∀ u, JM u → Fr [(31, 0)] σ2 u → Ok (rec6 (c + 1) u) (PS σ2)) : Ok (jX10_isSolved_46 τ rec6 c r) (PS σ2) := by
  have hu : 0 ≤ (σ2.1 0 43).toInt ∧ (σ2.1 0 43).toInt ≤ 38 := hI2 0 43
  unfold jX10_isSolved_46
  rw [w9_un hF]
  refine ok_ite.mpr ⟨fun _ => ok_some.mpr ⟨hI, hF, show 0 ≤ (0 : Int32).toInt by decide, show (0 : Int32).toInt ≤ 1 by decide⟩, fun h => ?_⟩
  have hr : r.toInt ≠ (σ2.1 0 43).toInt := fun z => h (Int32.toInt_inj.mp z)
  refine ok_bd.mpr ((o_fX10_swaps hI (p1 := c) (p2 := r) c0 (by omega) r0 (by omega)).mono (fun u hu2 => ?_))
  refine ok_gd.mpr ⟨w9_ix c0 (by omega) c0 (by omega), ok_nm.mpr ?_⟩
  refine ok_bd.mpr ((o_fX10_inverse hu2.1).mono (fun w _ => ok_nm.mpr (ok_nm.mpr ?_)))
  exact w9_is80 hI2 c0 c1 hu2.1 (Fr_c hF hu2.2 (by decide)) k
theorem o_fX10_isSolved {σ : gS} (hIσ : JM σ)  (pre0 : RM σ) : Ok (fX10_isSolved σ ) (fun out => JM out.2 ∧ Fr fr_fX10_isSolved σ out.2 ∧ 0 ≤ out.1.toInt ∧ out.1.toInt ≤ 1 ∧ NK σ out.2) := by
  unfold fX10_isSolved
  refine ok_bd.mpr ((o_fX10_equations hIσ pre0).mono (fun σ2 h2 => ok_nm.mpr ?_))
  obtain ⟨hI2, hF2, hN⟩ := h2
  have hu : 0 ≤ (σ2.1 0 43).toInt ∧ (σ2.1 0 43).toInt ≤ 38 := hI2 0 43
  have L : Ok (lpc (S := Int32 × gS) K9 (fun rec s => bX10_isSolved_6 σ2 (fun a1 σ1 => rec (a1, σ1)) s.1 s.2) (0, σ2)) (PS σ2) := by
    refine ok_lpc (I := fun (n : Nat) (s : Int32 × gS) => n = (38 - s.1.toInt).toNat ∧ 0 ≤ s.1.toInt ∧ s.1.toInt ≤ 38 ∧ JM s.2 ∧ Fr [(31, 0)] σ2 s.2) (fun rec n s hs hrec => ?_) K9 38 (0, σ2) ⟨by first | decide | (dsimp only; decide), by first | decide | (dsimp only; decide), by first | decide | (dsimp only; decide), hI2, Fr_r⟩ (by unfold K9; decide)
    obtain ⟨c, ρ⟩ := s
    obtain ⟨hn, h0, h1, jI, jF⟩ := hs
    dsimp only at hn h0 h1 jI jF ⊢
    have e1 : (c + 1).toInt = c.toInt + 1 := i_inc (by omega) h1 (by decide)
    unfold bX10_isSolved_6
    rw [w9_un jF]
    refine ok_ite.mpr ⟨fun _ => ok_some.mpr ⟨jI, jF, show 0 ≤ (1 : Int32).toInt by decide, show (1 : Int32).toInt ≤ 1 by decide⟩, fun h => ok_nm.mpr ?_⟩
    have hc : c.toInt < (σ2.1 0 43).toInt := by
      have := q_gt h
      omega
    have next : ∀ u, JM u → Fr [(31, 0)] σ2 u → Ok (rec (c + 1, u)) (PS σ2) := fun u x y => hrec (38 - (c + 1).toInt).toNat (c + 1, u) (by omega) ⟨rfl, show 0 ≤ (c + 1).toInt by omega, show (c + 1).toInt ≤ 38 by omega, x, y⟩
    refine ok_lpc (I := fun (n : Nat) (s : Int32) => n = (38 - s.toInt).toNat ∧ 0 ≤ s.toInt ∧ s.toInt ≤ (σ2.1 0 43).toInt) (fun rec2 n2 r hr hrec2 => ?_) K9 (38 - c.toInt).toNat c ⟨rfl, h0, by omega⟩ (by unfold K9; omega)
    obtain ⟨hn2, r0, r1⟩ := hr
    unfold bX10_isSolved_16
    rw [w9_un jF]
    refine ok_ite.mpr ⟨fun _ => w9_is46 hI2 h0 hc r0 r1 jI jF next, fun h => ?_⟩
    have hr : r.toInt < (σ2.1 0 43).toInt := by
      have := q_gt h
      omega
    have e2 : (r + 1).toInt = r.toInt + 1 := i_inc (c := 38) (by omega) (by omega) (by decide)
    refine ok_gd.mpr ⟨w9_ix r0 (by omega) h0 (by omega), ok_nm.mpr (ok_ite.mpr ⟨fun _ => ok_nm.mpr ?_, fun _ => w9_is46 hI2 h0 hc r0 r1 jI jF next⟩)⟩
    exact hrec2 (38 - (r + 1).toInt).toNat (r + 1) (by omega) ⟨rfl, by omega, by omega⟩
  refine L.mono (fun o ho => ⟨ho.1, Fr_c (Fr_c Fr_r hF2 (by decide)) ho.2.1 (by decide), ho.2.2.1, ho.2.2.2, fun k x y t u => ?_⟩)
  obtain ⟨i, i1, i2⟩ := hN k x y t u
  refine ⟨i, ?_, ?_⟩
  · rw [(ho.2.1 0 43 (by decide) (by decide)).1]; exact i1
  · rw [(ho.2.1 30 i (by decide) (by simp)).1]; exact i2
theorem w9_w118 {σ : gS} (hIσ : JM σ) (hR : RM σ) {a z w : Int32} (a0 : 0 ≤ a.toInt) (a1 : a.toInt ≤ 1) (k0 : 0 ≤ (w + z).toInt) (k1 : (w + z).toInt ≤ 37) (ht : TH σ (w + z)) : Ok (jX10_whole_118 σ a z w) (fun out => JM out.2 ∧ Fr fr_fX10_whole σ out.2) := by
  unfold jX10_whole_118
  refine ok_nm.mpr (ok_bde (m_isUsed hIσ k0 k1) (ok_ite.mpr ⟨fun _ => ok_some.mpr ⟨hIσ, Fr_r⟩, fun hu => ?_⟩))
  refine ok_bd2.mpr ((o_fX10_isSolved hIσ hR).mono (fun o ho => ?_))
  obtain ⟨r, τ⟩ := o
  obtain ⟨hI, hF, -, -, hN⟩ := ho
  dsimp only at hI hF hN ⊢
  have hF' : Fr fr_fX10_whole σ τ := Fr_c Fr_r hF (by decide)
  refine ok_ite.mpr ⟨fun _ => ok_some.mpr ⟨hI, hF'⟩, fun _ => ?_⟩
  obtain ⟨x, hx, x0, x1⟩ := m_number hI (hN (w + z) k0 k1 ht hu)
  refine ok_bde hx ?_
  have l38 : (38 : Int32).toInt = 38 := by decide
  have f1 : (40 * x).toInt = 40 * x.toInt := imulc (by decide) (by omega) (by omega)
  have f2 : (40 * x + 38).toInt = (40 * x).toInt + 38 := by rw [iadd_toInt] <;> omega
  have f3 : (40 * x + 38 + a).toInt = (40 * x + 38).toInt + a.toInt := by rw [iadd_toInt] <;> omega
  exact ok_gd.mpr ⟨gb_of (by omega) (by omega), ok_nm.mpr (ok_some.mpr ⟨hI, hF'⟩)⟩
theorem o_fX10_whole {σ : gS} (hIσ : JM σ) {p1 : Int32} {p2 : Int32} {p3 : Int32} (pre0 : RM σ) : Ok (fX10_whole σ p1 p2 p3) (fun out => JM out.2 ∧ Fr fr_fX10_whole σ out.2) := by
  have hn := JM_n hIσ
  have l0 : (0 : Int64).toInt = 0 := by decide
  have l1 : (1 : Int64).toInt = 1 := by decide
  have l2 : (2 : Int64).toInt = 2 := by decide
  have i1 : (1 : Int32).toInt = 1 := by decide
  have i12 : (12 : Int32).toInt = 12 := by decide
  have i32 : (32 : Int32).toInt = 32 := by decide
  have i40 : (40 : Int32).toInt = 40 := by decide
  have e1 : p1.toInt64.toInt = p1.toInt := Int32.toInt_toInt64 _
  have e2 : p2.toInt64.toInt = p2.toInt := Int32.toInt_toInt64 _
  have e3 : p3.toInt64.toInt = p3.toInt := Int32.toInt_toInt64 _
  have no : Ok (some ((-1 : Int32), σ)) (fun out => JM out.2 ∧ Fr fr_fX10_whole σ out.2) := ok_some.mpr ⟨hIσ, Fr_r⟩
  -- the three kinds
  have inn : ∀ m : Int32, 0 ≤ m.toInt → m.toInt ≤ 60 → (fX10_isIn σ p2.toInt64 0 ((m - 1).toInt64) = some 0 ∨ (fX10_isIn σ p2.toInt64 0 ((m - 1).toInt64) = some 1 ∧ 0 ≤ p2.toInt ∧ p2.toInt < m.toInt)) := fun m m0 m1 => by
    have em : (m - 1).toInt = m.toInt - 1 := by rw [isub_toInt] <;> omega
    have em2 : (m - 1).toInt64.toInt = (m - 1).toInt := Int32.toInt_toInt64 _
    rcases m_isIn σ p2.toInt64 0 ((m - 1).toInt64) with ⟨h, b1, b2⟩ | ⟨h, -⟩
    · exact .inr ⟨h, by omega, by omega⟩
    · exact .inl h
  unfold fX10_whole
  rcases m_isIn σ p1.toInt64 0 2 with ⟨h, a1, a2⟩ | ⟨h, -⟩
  · refine ok_bde h (ok_ite.mpr ⟨fun _ => no, fun _ => ?_⟩)
    rcases m_isIn σ p3.toInt64 0 1 with ⟨h, b1, b2⟩ | ⟨h, -⟩
    · refine ok_bde h (ok_ite.mpr ⟨fun _ => no, fun _ => ok_ite.mpr ⟨fun c0 => ?_, fun c0 => ok_ite.mpr ⟨fun c1 => ?_, fun c1 => ?_⟩⟩⟩)
      · subst c0
        unfold jX10_whole_49
        refine ok_gd.mpr ⟨by decide, ok_nm.mpr ?_⟩
        show Ok (bd (fX10_isIn σ p2.toInt64 0 ((σ.1 15 7 - 1).toInt64)) _) _
        rcases inn (σ.1 15 7) (by omega) (by omega) with h | ⟨h, g0, g1⟩
        · exact ok_bde h (ok_ite.mpr ⟨fun _ => no, fun z => absurd rfl z⟩)
        · refine ok_bde h (ok_ite.mpr ⟨fun _ => no, fun _ => ok_ite.mpr ⟨fun z => absurd z (by decide), fun _ => ?_⟩⟩)
          unfold jX10_whole_97
          refine ok_ite.mpr ⟨fun _ => ?_, fun z => absurd rfl z⟩
          have e : (p2 + 0).toInt = p2.toInt := by
            have : (0 : Int32).toInt = 0 := by decide
            rw [iadd_toInt] <;> omega
          exact w9_w118 hIσ pre0 (by omega) (by omega) (by omega) (by omega) ⟨fun _ => by omega, fun z => absurd z (by omega), fun z => absurd z (by omega)⟩
      · subst c1
        unfold jX10_whole_49
        refine ok_gd.mpr ⟨by decide, ok_nm.mpr ?_⟩
        show Ok (bd (fX10_isIn σ p2.toInt64 0 ((σ.1 15 8 - 1).toInt64)) _) _
        rcases inn (σ.1 15 8) (by omega) (by omega) with h | ⟨h, g0, g1⟩
        · exact ok_bde h (ok_ite.mpr ⟨fun _ => no, fun z => absurd rfl z⟩)
        · refine ok_bde h (ok_ite.mpr ⟨fun _ => no, fun _ => ok_ite.mpr ⟨fun _ => ?_, fun z => absurd rfl z⟩⟩)
          rcases m_isControl σ g0 (by omega) with hc | hc
          · refine ok_bde hc (ok_ite.mpr ⟨fun _ => ?_, fun z => absurd rfl z⟩)
            unfold jX10_whole_97
            refine ok_ite.mpr ⟨fun z => absurd z (by decide), fun _ => ok_ite.mpr ⟨fun _ => ?_, fun z => absurd rfl z⟩⟩
            have e : (p2 + 12).toInt = p2.toInt + 12 := by rw [iadd_toInt] <;> omega
            have e' : p2 + 12 - 12 = p2 := Int32.toInt_inj.mp (by rw [isub_toInt] <;> omega)
            exact w9_w118 hIσ pre0 (by omega) (by omega) (by omega) (by omega) ⟨fun z => absurd z (by omega), fun _ _ => ⟨by omega, by rw [e']; exact hc⟩, fun z => absurd z (by omega)⟩
          · refine ok_bde hc (ok_ite.mpr ⟨fun z => absurd z (by decide), fun _ => ?_⟩)
            have f1 : (2 * p2).toInt = 2 * p2.toInt := imulc (by decide) (by omega) (by omega)
            have f2 : (40 + 2 * p2).toInt = 40 + (2 * p2).toInt := by rw [iadd_toInt] <;> omega
            have f3 : (40 + 2 * p2 + p3).toInt = (40 + 2 * p2).toInt + p3.toInt := by rw [iadd_toInt] <;> omega
            exact ok_gd.mpr ⟨gb_of (by omega) (by omega), ok_nm.mpr (ok_bde (x := _) rfl (ok_some.mpr ⟨hIσ, Fr_r⟩))⟩
      · have c2 : p1.toInt = 2 := by
          have z0 : p1.toInt ≠ 0 := fun z => c0 (q_of 0 (z.trans (by decide)))
          have z1 : p1.toInt ≠ 1 := fun z => c1 (q_of 1 (z.trans (by decide)))
          omega
        obtain rfl := q_of 2 (c2.trans (by decide))
        unfold jX10_whole_49
        refine ok_gd.mpr ⟨by decide, ok_nm.mpr ?_⟩
        show Ok (bd (fX10_isIn σ p2.toInt64 0 ((σ.1 15 6 - 1).toInt64)) _) _
        rcases inn (σ.1 15 6) (by omega) (by omega) with h | ⟨h, g0, g1⟩
        · exact ok_bde h (ok_ite.mpr ⟨fun _ => no, fun z => absurd rfl z⟩)
        · refine ok_bde h (ok_ite.mpr ⟨fun _ => no, fun _ => ok_ite.mpr ⟨fun z => absurd z (by decide), fun _ => ?_⟩⟩)
          unfold jX10_whole_97
          refine ok_ite.mpr ⟨fun z => absurd z (by decide), fun _ => ok_ite.mpr ⟨fun z => absurd z (by decide), fun _ => ?_⟩⟩
          have e : (p2 + 32).toInt = p2.toInt + 32 := by rw [iadd_toInt] <;> omega
          exact w9_w118 hIσ pre0 (by omega) (by omega) (by omega) (by omega) ⟨fun z => absurd z (by omega), fun _ z => absurd z (by omega), fun _ => by omega⟩
    · exact ok_bde h (ok_ite.mpr ⟨fun _ => no, fun z => absurd rfl z⟩)
  · exact ok_bde h (ok_ite.mpr ⟨fun _ => no, fun z => absurd rfl z⟩)
set_option maxRecDepth 20000 in
set_option maxHeartbeats 2000000 in
theorem o_fX10_sets {σ : gS} (hIσ : JM σ) {p1 : Int32}  : Ok (fX10_sets σ p1) (fun out => JM out.2 ∧ Fr fr_fX10_sets σ out.2) := by
  unfold fX10_sets
  have hfσ : Fr fr_fX10_sets σ σ := Fr_r
  refine ok_bd.mpr ?_
  try unfold fX10_isIn
  refine ok_ite.mpr ⟨fun h_1 => ?_, fun h_1 => ?_⟩
  · have f2 : p1.toInt64.toInt = p1.toInt := Int32.toInt_toInt64 _
    have f3 : (0 : Int64).toInt = 0 := by decide
    have g4 : p1.toInt64.toInt < (0 : Int64).toInt := Int64.lt_iff_toInt_lt.mp h_1
    refine ok_some.mpr ?_
    refine ok_ite.mpr ⟨fun h_5 => ?_, fun h_5 => ?_⟩
    · have f6 : (0 : Int32).toInt = 0 := by decide
      have g7 : (0 : Int32).toInt = (0 : Int32).toInt := by rw [h_5]
      refine ok_some.mpr ?_
      have f8 : (-1 : Int32).toInt = -1 := by decide
      exact ⟨hIσ, hfσ⟩
    · have f9 : (0 : Int32).toInt = 0 := by decide
      have g10 : (0 : Int32).toInt ≠ (0 : Int32).toInt := fun z => h_5 (Int32.toInt_inj.mp z)
      exfalso
      omega
  · have f11 : p1.toInt64.toInt = p1.toInt := Int32.toInt_toInt64 _
    have f12 : (0 : Int64).toInt = 0 := by decide
    have g13 : ¬ p1.toInt64.toInt < (0 : Int64).toInt := fun z => h_1 (Int64.lt_iff_toInt_lt.mpr z)
    refine ok_ite.mpr ⟨fun h_14 => ?_, fun h_14 => ?_⟩
    · have f15 : (3 : Int64).toInt = 3 := by decide
      have g16 : (3 : Int64).toInt < p1.toInt64.toInt := Int64.lt_iff_toInt_lt.mp h_14
      refine ok_some.mpr ?_
      refine ok_ite.mpr ⟨fun h_17 => ?_, fun h_17 => ?_⟩
      · have f18 : (0 : Int32).toInt = 0 := by decide
        have g19 : (0 : Int32).toInt = (0 : Int32).toInt := by rw [h_17]
        refine ok_some.mpr ?_
        have f20 : (-1 : Int32).toInt = -1 := by decide
        exact ⟨hIσ, hfσ⟩
      · have f21 : (0 : Int32).toInt = 0 := by decide
        have g22 : (0 : Int32).toInt ≠ (0 : Int32).toInt := fun z => h_17 (Int32.toInt_inj.mp z)
        exfalso
        omega
    · have f23 : (3 : Int64).toInt = 3 := by decide
      have g24 : ¬ (3 : Int64).toInt < p1.toInt64.toInt := fun z => h_14 (Int64.lt_iff_toInt_lt.mpr z)
      refine ok_some.mpr ?_
      refine ok_ite.mpr ⟨fun h_25 => ?_, fun h_25 => ?_⟩
      · have f26 : (1 : Int32).toInt = 1 := by decide
        have f27 : (0 : Int32).toInt = 0 := by decide
        have g28 : (1 : Int32).toInt = (0 : Int32).toInt := by rw [h_25]
        exfalso
        omega
      · have f29 : (1 : Int32).toInt = 1 := by decide
        have f30 : (0 : Int32).toInt = 0 := by decide
        have g31 : (1 : Int32).toInt ≠ (0 : Int32).toInt := fun z => h_25 (Int32.toInt_inj.mp z)
        refine ok_nm2 (fun σ4_4 eσ4_4 => ?_)
        have hIσ4_4 : JM σ4_4 := by rw [eσ4_4]; exact JM_w hIσ (Int32.le_toInt _) (Int32.toInt_le _)
        have hfσ4_4 : Fr fr_fX10_sets σ σ4_4 := by rw [eσ4_4]; exact Fr_w hfσ (by decide)
        refine ok_bd.mpr ((o_fX10_standControls hIσ4_4  ).mono (fun σ6_4 ho_33 => ?_))
        obtain ⟨hIσ6_4, hcσ6_4⟩ := ho_33
        have hfσ6_4 : Fr fr_fX10_sets σ σ6_4 := Fr_c hfσ4_4 hcσ6_4 (by decide)
        refine ok_bd.mpr ((o_fX10_controls hIσ6_4  ).mono (fun r8_4 ho_35 => ?_))
        refine ok_some.mpr ?_
        exact ⟨hIσ6_4, hfσ6_4⟩
set_option maxRecDepth 20000 in
set_option maxHeartbeats 2000000 in
theorem o_fX10_parts {σ : gS} (hIσ : JM σ)   : Ok (fX10_parts σ ) (fun out => JM out.2 ∧ Fr fr_fX10_parts σ out.2) := by
  unfold fX10_parts
  have hfσ : Fr fr_fX10_parts σ σ := Fr_r
  refine ok_bd.mpr ((o_fX10_hangs hIσ  ).mono (fun σ2 ho_2 => ?_))
  obtain ⟨hIσ2, hcσ2⟩ := ho_2
  have hfσ2 : Fr fr_fX10_parts σ σ2 := Fr_c hfσ hcσ2 (by decide)
  refine ok_nm2 (fun x3 ex3 => ?_)
  have f3 : (0 : Int32).toInt = 0 := by decide
  have qx3 : x3.toInt = 0 := by rw [ex3]; decide
  refine ok_nm2 (fun x4 ex4 => ?_)
  have qx4 : x4.toInt = 0 := by rw [ex4]; decide
  refine ok_lpc (I := fun n s => n = (12 + 1 - s.2.toInt).toNat ∧ 0 ≤ s.2.toInt ∧ s.2.toInt ≤ 12) (fun rec8_1r n_1 s_1 hs_1 hrec_1 => ?_) K9 ((12 + 1 - x4.toInt).toNat) (x3, x4) ⟨rfl, (show 0 ≤ x4.toInt by omega), (show x4.toInt ≤ 12 by omega)⟩ (by unfold K9; omega)
  obtain ⟨a1_1, a2_1⟩ := s_1
  obtain ⟨hn_1, b0a2_1, b1a2_1⟩ := hs_1
  dsimp only at hn_1 b0a2_1 b1a2_1
  unfold bX10_parts_8
  try dsimp only
  refine ok_bd.mpr ?_
  try unfold fX10_pictures
  have f4 : (7 : Int32).toInt = 7 := by decide
  refine ok_gd.mpr ⟨gb_of (by omega) (by omega), ?_⟩
  refine ok_nm2 (fun v1_33 ev1_33 => ?_)
  have f5 : 0 ≤ (σ2.1 15 7).toInt ∧ (σ2.1 15 7).toInt ≤ 12 := hIσ2 15 7
  have qv1_33 : v1_33.toInt = (σ2.1 15 7).toInt := congrArg Int32.toInt ev1_33
  refine ok_some.mpr ?_
  refine ok_ite.mpr ⟨fun h_6 => ?_, fun h_6 => ?_⟩
  · have g7 : v1_33.toInt ≤ a2_1.toInt := Int32.le_iff_toInt_le.mp h_6
    refine ok_some.mpr ?_
    exact ⟨hIσ2, hfσ2⟩
  · have g8 : ¬ v1_33.toInt ≤ a2_1.toInt := fun z => h_6 (Int32.le_iff_toInt_le.mpr z)
    refine ok_nm2 (fun x8_30_34 ex8_30_34 => ?_)
    have f9 : (1 : Int32).toInt = 1 := by decide
    have qx8_30_34 : x8_30_34.toInt = 1 := by rw [ex8_30_34]; decide
    refine ok_nm2 (fun x9_30_34 ex9_30_34 => ?_)
    have qx9_30_34 : x9_30_34.toInt = 0 := by rw [ex9_30_34]; decide
    refine ok_lpc (I := fun n s => n = (11 + 1 - s.2.toInt).toNat ∧ 0 ≤ s.1.toInt ∧ s.1.toInt ≤ 1 ∧ 0 ≤ s.2.toInt ∧ s.2.toInt ≤ 11) (fun rec21_35r n_35 s_35 hs_35 hrec_35 => ?_) K9 ((11 + 1 - x9_30_34.toInt).toNat) (x8_30_34, x9_30_34) ⟨rfl, (show 0 ≤ x8_30_34.toInt by omega), (show x8_30_34.toInt ≤ 1 by omega), (show 0 ≤ x9_30_34.toInt by omega), (show x9_30_34.toInt ≤ 11 by omega)⟩ (by unfold K9; omega)
    obtain ⟨a3_35, a4_35⟩ := s_35
    obtain ⟨hn_35, b0a3_35, b1a3_35, b0a4_35, b1a4_35⟩ := hs_35
    dsimp only at hn_35 b0a3_35 b1a3_35 b0a4_35 b1a4_35
    unfold bX10_parts_21
    try dsimp only
    refine ok_ite.mpr ⟨fun h_10 => ?_, fun h_10 => ?_⟩
    · have g11 : a2_1.toInt ≤ a4_35.toInt := Int32.le_iff_toInt_le.mp h_10
      refine ok_ite.mpr ⟨fun h_12 => ?_, fun h_12 => ?_⟩
      · have g13 : a3_35.toInt = (0 : Int32).toInt := by rw [h_12]
        refine ok_nm2 (fun x12_36 ex12_36 => ?_)
        have f14 : (a2_1 + (1 : Int32)).toInt = a2_1.toInt + (1 : Int32).toInt := iadd_toInt (by omega) (by omega)
        have qx12_36 : x12_36.toInt = (a2_1 + 1).toInt := congrArg Int32.toInt ex12_36
        exact hrec_1 _ (a1_1, x12_36) (show (12 + 1 - x12_36.toInt).toNat < n_1 by omega) ⟨rfl, (show 0 ≤ x12_36.toInt by omega), (show x12_36.toInt ≤ 12 by omega)⟩
      · have g15 : a3_35.toInt ≠ (0 : Int32).toInt := fun z => h_12 (Int32.toInt_inj.mp z)
        refine ok_nm2 (fun x13_36 ex13_36 => ?_)
        have qx13_36 : x13_36.toInt = (a1_1 + 1).toInt := congrArg Int32.toInt ex13_36
        refine ok_nm2 (fun x14_36 ex14_36 => ?_)
        have f16 : (a2_1 + (1 : Int32)).toInt = a2_1.toInt + (1 : Int32).toInt := iadd_toInt (by omega) (by omega)
        have qx14_36 : x14_36.toInt = (a2_1 + 1).toInt := congrArg Int32.toInt ex14_36
        exact hrec_1 _ (x13_36, x14_36) (show (12 + 1 - x14_36.toInt).toNat < n_1 by omega) ⟨rfl, (show 0 ≤ x14_36.toInt by omega), (show x14_36.toInt ≤ 12 by omega)⟩
    · have g17 : ¬ a2_1.toInt ≤ a4_35.toInt := fun z => h_10 (Int32.le_iff_toInt_le.mpr z)
      refine ok_ite.mpr ⟨fun h_18 => ?_, fun h_18 => ?_⟩
      · have g19 : a3_35.toInt = (0 : Int32).toInt := by rw [h_18]
        refine ok_nm2 (fun x16_36 ex16_36 => ?_)
        have qx16_36 : x16_36.toInt = 0 := by rw [ex16_36]; decide
        refine ok_nm2 (fun x17_36 ex17_36 => ?_)
        have f20 : (a4_35 + (1 : Int32)).toInt = a4_35.toInt + (1 : Int32).toInt := iadd_toInt (by omega) (by omega)
        have qx17_36 : x17_36.toInt = (a4_35 + 1).toInt := congrArg Int32.toInt ex17_36
        exact hrec_35 _ (x16_36, x17_36) (show (11 + 1 - x17_36.toInt).toNat < n_35 by omega) ⟨rfl, (show 0 ≤ x16_36.toInt by omega), (show x16_36.toInt ≤ 1 by omega), (show 0 ≤ x17_36.toInt by omega), (show x17_36.toInt ≤ 11 by omega)⟩
      · have g21 : a3_35.toInt ≠ (0 : Int32).toInt := fun z => h_18 (Int32.toInt_inj.mp z)
        refine ok_gd.mpr ⟨gb_of (by omega) (by omega), ?_⟩
        refine ok_nm2 (fun v18_36 ev18_36 => ?_)
        have qv18_36 : v18_36.toInt = (σ2.1 32 a4_35.toNatClampNeg).toInt := congrArg Int32.toInt ev18_36
        refine ok_gd.mpr ⟨gb_of (by omega) (by omega), ?_⟩
        refine ok_nm2 (fun v19_36 ev19_36 => ?_)
        have qv19_36 : v19_36.toInt = (σ2.1 32 a2_1.toNatClampNeg).toInt := congrArg Int32.toInt ev19_36
        refine ok_ite.mpr ⟨fun h_22 => ?_, fun h_22 => ?_⟩
        · have g23 : v18_36.toInt = v19_36.toInt := by rw [h_22]
          refine ok_nm2 (fun x21_36 ex21_36 => ?_)
          have qx21_36 : x21_36.toInt = 0 := by rw [ex21_36]; decide
          refine ok_nm2 (fun x22_36 ex22_36 => ?_)
          have f24 : (a4_35 + (1 : Int32)).toInt = a4_35.toInt + (1 : Int32).toInt := iadd_toInt (by omega) (by omega)
          have qx22_36 : x22_36.toInt = (a4_35 + 1).toInt := congrArg Int32.toInt ex22_36
          exact hrec_35 _ (x21_36, x22_36) (show (11 + 1 - x22_36.toInt).toNat < n_35 by omega) ⟨rfl, (show 0 ≤ x21_36.toInt by omega), (show x21_36.toInt ≤ 1 by omega), (show 0 ≤ x22_36.toInt by omega), (show x22_36.toInt ≤ 11 by omega)⟩
        · have g25 : v18_36.toInt ≠ v19_36.toInt := fun z => h_22 (Int32.toInt_inj.mp z)
          refine ok_nm2 (fun x23_36 ex23_36 => ?_)
          have qx23_36 : x23_36.toInt = 1 := by rw [ex23_36]; decide
          refine ok_nm2 (fun x24_36 ex24_36 => ?_)
          have f26 : (a4_35 + (1 : Int32)).toInt = a4_35.toInt + (1 : Int32).toInt := iadd_toInt (by omega) (by omega)
          have qx24_36 : x24_36.toInt = (a4_35 + 1).toInt := congrArg Int32.toInt ex24_36
          exact hrec_35 _ (x23_36, x24_36) (show (11 + 1 - x24_36.toInt).toNat < n_35 by omega) ⟨rfl, (show 0 ≤ x23_36.toInt by omega), (show x23_36.toInt ≤ 1 by omega), (show 0 ≤ x24_36.toInt by omega), (show x24_36.toInt ≤ 11 by omega)⟩
set_option maxRecDepth 20000 in
set_option maxHeartbeats 2000000 in
theorem o_fX10_hang {σ : gS} (hIσ : JM σ) {p1 : Int32} {p2 : Int32}  : Ok (fX10_hang σ p1 p2) (fun out => JM out.2 ∧ Fr fr_fX10_hang σ out.2 ∧ -1 ≤ out.1.toInt ∧ out.1.toInt ≤ 1) := by
  unfold fX10_hang
  have hfσ : Fr fr_fX10_hang σ σ := Fr_r
  refine ok_bd.mpr ?_
  try unfold fX10_isPicture
  refine ok_bd.mpr ?_
  try unfold fX10_pictures
  have f1 : (7 : Int32).toInt = 7 := by decide
  refine ok_gd.mpr ⟨gb_of (by omega) (by omega), ?_⟩
  refine ok_nm2 (fun v1_2 ev1_2 => ?_)
  have f2 : 0 ≤ (σ.1 15 7).toInt ∧ (σ.1 15 7).toInt ≤ 12 := hIσ 15 7
  have qv1_2 : v1_2.toInt = (σ.1 15 7).toInt := congrArg Int32.toInt ev1_2
  refine ok_some.mpr ?_
  refine ok_bd.mpr ?_
  try unfold fX10_isIn
  refine ok_ite.mpr ⟨fun h_3 => ?_, fun h_3 => ?_⟩
  · have f4 : p1.toInt64.toInt = p1.toInt := Int32.toInt_toInt64 _
    have f5 : (0 : Int64).toInt = 0 := by decide
    have g6 : p1.toInt64.toInt < (0 : Int64).toInt := Int64.lt_iff_toInt_lt.mp h_3
    refine ok_some.mpr ?_
    refine ok_some.mpr ?_
    refine ok_ite.mpr ⟨fun h_7 => ?_, fun h_7 => ?_⟩
    · have f8 : (vp_nar .boolean 0).toInt = 0 := by decide
      have f9 : (0 : Int32).toInt = 0 := by decide
      have g10 : (vp_nar .boolean 0).toInt = (0 : Int32).toInt := by rw [h_7]
      refine ok_some.mpr ?_
      have f11 : (-1 : Int32).toInt = -1 := by decide
      exact ⟨hIσ, hfσ, (show -1 ≤ (-1 : Int32).toInt by omega), (show (-1 : Int32).toInt ≤ 1 by omega)⟩
    · have f12 : (vp_nar .boolean 0).toInt = 0 := by decide
      have f13 : (0 : Int32).toInt = 0 := by decide
      have g14 : (vp_nar .boolean 0).toInt ≠ (0 : Int32).toInt := fun z => h_7 (Int32.toInt_inj.mp z)
      exfalso
      omega
  · have f15 : p1.toInt64.toInt = p1.toInt := Int32.toInt_toInt64 _
    have f16 : (0 : Int64).toInt = 0 := by decide
    have g17 : ¬ p1.toInt64.toInt < (0 : Int64).toInt := fun z => h_3 (Int64.lt_iff_toInt_lt.mpr z)
    refine ok_ite.mpr ⟨fun h_18 => ?_, fun h_18 => ?_⟩
    · have f19 : (1 : Int32).toInt = 1 := by decide
      have f20 : (v1_2 - (1 : Int32)).toInt = v1_2.toInt - (1 : Int32).toInt := isub_toInt (by omega) (by omega)
      have f21 : (v1_2 - 1).toInt64.toInt = (v1_2 - 1).toInt := Int32.toInt_toInt64 _
      have g22 : (v1_2 - 1).toInt64.toInt < p1.toInt64.toInt := Int64.lt_iff_toInt_lt.mp h_18
      refine ok_some.mpr ?_
      refine ok_some.mpr ?_
      refine ok_ite.mpr ⟨fun h_23 => ?_, fun h_23 => ?_⟩
      · have f24 : (vp_nar .boolean 0).toInt = 0 := by decide
        have f25 : (0 : Int32).toInt = 0 := by decide
        have g26 : (vp_nar .boolean 0).toInt = (0 : Int32).toInt := by rw [h_23]
        refine ok_some.mpr ?_
        have f27 : (-1 : Int32).toInt = -1 := by decide
        exact ⟨hIσ, hfσ, (show -1 ≤ (-1 : Int32).toInt by omega), (show (-1 : Int32).toInt ≤ 1 by omega)⟩
      · have f28 : (vp_nar .boolean 0).toInt = 0 := by decide
        have f29 : (0 : Int32).toInt = 0 := by decide
        have g30 : (vp_nar .boolean 0).toInt ≠ (0 : Int32).toInt := fun z => h_23 (Int32.toInt_inj.mp z)
        exfalso
        omega
    · have f31 : (1 : Int32).toInt = 1 := by decide
      have f32 : (v1_2 - (1 : Int32)).toInt = v1_2.toInt - (1 : Int32).toInt := isub_toInt (by omega) (by omega)
      have f33 : (v1_2 - 1).toInt64.toInt = (v1_2 - 1).toInt := Int32.toInt_toInt64 _
      have g34 : ¬ (v1_2 - 1).toInt64.toInt < p1.toInt64.toInt := fun z => h_18 (Int64.lt_iff_toInt_lt.mpr z)
      refine ok_some.mpr ?_
      refine ok_some.mpr ?_
      refine ok_ite.mpr ⟨fun h_35 => ?_, fun h_35 => ?_⟩
      · have f36 : (vp_nar .boolean 1).toInt = 1 := by decide
        have f37 : (0 : Int32).toInt = 0 := by decide
        have g38 : (vp_nar .boolean 1).toInt = (0 : Int32).toInt := by rw [h_35]
        exfalso
        omega
      · have f39 : (vp_nar .boolean 1).toInt = 1 := by decide
        have f40 : (0 : Int32).toInt = 0 := by decide
        have g41 : (vp_nar .boolean 1).toInt ≠ (0 : Int32).toInt := fun z => h_35 (Int32.toInt_inj.mp z)
        refine ok_bd.mpr ?_
        try unfold fX10_isPicture
        refine ok_bd.mpr ?_
        try unfold fX10_pictures
        refine ok_gd.mpr ⟨gb_of (by omega) (by omega), ?_⟩
        refine ok_nm2 (fun v1_12 ev1_12 => ?_)
        have qv1_12 : v1_12.toInt = (σ.1 15 7).toInt := congrArg Int32.toInt ev1_12
        refine ok_some.mpr ?_
        refine ok_bd.mpr ?_
        try unfold fX10_isIn
        refine ok_ite.mpr ⟨fun h_42 => ?_, fun h_42 => ?_⟩
        · have f43 : p2.toInt64.toInt = p2.toInt := Int32.toInt_toInt64 _
          have g44 : p2.toInt64.toInt < (0 : Int64).toInt := Int64.lt_iff_toInt_lt.mp h_42
          refine ok_some.mpr ?_
          refine ok_some.mpr ?_
          refine ok_ite.mpr ⟨fun h_45 => ?_, fun h_45 => ?_⟩
          · have f46 : (vp_nar .boolean 0).toInt = 0 := by decide
            have g47 : (vp_nar .boolean 0).toInt = (0 : Int32).toInt := by rw [h_45]
            refine ok_some.mpr ?_
            have f48 : (-1 : Int32).toInt = -1 := by decide
            exact ⟨hIσ, hfσ, (show -1 ≤ (-1 : Int32).toInt by omega), (show (-1 : Int32).toInt ≤ 1 by omega)⟩
          · have f49 : (vp_nar .boolean 0).toInt = 0 := by decide
            have g50 : (vp_nar .boolean 0).toInt ≠ (0 : Int32).toInt := fun z => h_45 (Int32.toInt_inj.mp z)
            exfalso
            omega
        · have f51 : p2.toInt64.toInt = p2.toInt := Int32.toInt_toInt64 _
          have g52 : ¬ p2.toInt64.toInt < (0 : Int64).toInt := fun z => h_42 (Int64.lt_iff_toInt_lt.mpr z)
          refine ok_ite.mpr ⟨fun h_53 => ?_, fun h_53 => ?_⟩
          · have f54 : (v1_12 - (1 : Int32)).toInt = v1_12.toInt - (1 : Int32).toInt := isub_toInt (by omega) (by omega)
            have f55 : (v1_12 - 1).toInt64.toInt = (v1_12 - 1).toInt := Int32.toInt_toInt64 _
            have g56 : (v1_12 - 1).toInt64.toInt < p2.toInt64.toInt := Int64.lt_iff_toInt_lt.mp h_53
            refine ok_some.mpr ?_
            refine ok_some.mpr ?_
            refine ok_ite.mpr ⟨fun h_57 => ?_, fun h_57 => ?_⟩
            · have f58 : (vp_nar .boolean 0).toInt = 0 := by decide
              have g59 : (vp_nar .boolean 0).toInt = (0 : Int32).toInt := by rw [h_57]
              refine ok_some.mpr ?_
              have f60 : (-1 : Int32).toInt = -1 := by decide
              exact ⟨hIσ, hfσ, (show -1 ≤ (-1 : Int32).toInt by omega), (show (-1 : Int32).toInt ≤ 1 by omega)⟩
            · have f61 : (vp_nar .boolean 0).toInt = 0 := by decide
              have g62 : (vp_nar .boolean 0).toInt ≠ (0 : Int32).toInt := fun z => h_57 (Int32.toInt_inj.mp z)
              exfalso
              omega
          · have f63 : (v1_12 - (1 : Int32)).toInt = v1_12.toInt - (1 : Int32).toInt := isub_toInt (by omega) (by omega)
            have f64 : (v1_12 - 1).toInt64.toInt = (v1_12 - 1).toInt := Int32.toInt_toInt64 _
            have g65 : ¬ (v1_12 - 1).toInt64.toInt < p2.toInt64.toInt := fun z => h_53 (Int64.lt_iff_toInt_lt.mpr z)
            refine ok_some.mpr ?_
            refine ok_some.mpr ?_
            refine ok_ite.mpr ⟨fun h_66 => ?_, fun h_66 => ?_⟩
            · have g67 : (vp_nar .boolean 1).toInt = (0 : Int32).toInt := by rw [h_66]
              exfalso
              omega
            · have g68 : (vp_nar .boolean 1).toInt ≠ (0 : Int32).toInt := fun z => h_66 (Int32.toInt_inj.mp z)
              refine ok_bd.mpr ((o_fX10_hangs hIσ  ).mono (fun σ8_3_9_10_13_19_20 ho_70 => ?_))
              obtain ⟨hIσ8_3_9_10_13_19_20, hcσ8_3_9_10_13_19_20⟩ := ho_70
              have hfσ8_3_9_10_13_19_20 : Fr fr_fX10_hang σ σ8_3_9_10_13_19_20 := Fr_c hfσ hcσ8_3_9_10_13_19_20 (by decide)
              refine ok_gd.mpr ⟨gb_of (by omega) (by omega), ?_⟩
              refine ok_nm2 (fun v9_3_9_10_13_19_20 ev9_3_9_10_13_19_20 => ?_)
              have qv9_3_9_10_13_19_20 : v9_3_9_10_13_19_20.toInt = (σ8_3_9_10_13_19_20.1 32 p1.toNatClampNeg).toInt := congrArg Int32.toInt ev9_3_9_10_13_19_20
              refine ok_gd.mpr ⟨gb_of (by omega) (by omega), ?_⟩
              refine ok_nm2 (fun v10_3_9_10_13_19_20 ev10_3_9_10_13_19_20 => ?_)
              have qv10_3_9_10_13_19_20 : v10_3_9_10_13_19_20.toInt = (σ8_3_9_10_13_19_20.1 32 p2.toNatClampNeg).toInt := congrArg Int32.toInt ev10_3_9_10_13_19_20
              refine ok_ite.mpr ⟨fun h_71 => ?_, fun h_71 => ?_⟩
              · have g72 : v9_3_9_10_13_19_20.toInt = v10_3_9_10_13_19_20.toInt := by rw [h_71]
                refine ok_some.mpr ?_
                exact ⟨hIσ8_3_9_10_13_19_20, hfσ8_3_9_10_13_19_20, (show -1 ≤ (1 : Int32).toInt by omega), (show (1 : Int32).toInt ≤ 1 by omega)⟩
              · have g73 : v9_3_9_10_13_19_20.toInt ≠ v10_3_9_10_13_19_20.toInt := fun z => h_71 (Int32.toInt_inj.mp z)
                refine ok_some.mpr ?_
                exact ⟨hIσ8_3_9_10_13_19_20, hfσ8_3_9_10_13_19_20, (show -1 ≤ (0 : Int32).toInt by omega), (show (0 : Int32).toInt ≤ 1 by omega)⟩
set_option maxRecDepth 20000 in
set_option maxHeartbeats 2000000 in
theorem o_fX10_blind {σ : gS} (hIσ : JM σ)   : Ok (fX10_blind σ ) (fun out => JM out.2 ∧ Fr fr_fX10_blind σ out.2) := by
  unfold fX10_blind
  have hfσ : Fr fr_fX10_blind σ σ := Fr_r
  refine ok_nm2 (fun x1 ex1 => ?_)
  have f1 : (0 : Int32).toInt = 0 := by decide
  have qx1 : x1.toInt = 0 := by rw [ex1]; decide
  refine ok_nm2 (fun x2 ex2 => ?_)
  have qx2 : x2.toInt = 0 := by rw [ex2]; decide
  refine ok_lpc (I := fun n s => n = (60 + 1 - s.2.1.toInt).toNat ∧ JM s.2.2 ∧ Fr fr_fX10_blind σ s.2.2 ∧ 0 ≤ s.2.1.toInt ∧ s.2.1.toInt ≤ 60) (fun rec4_1r n_1 s_1 hs_1 hrec_1 => ?_) K9 ((60 + 1 - x2.toInt).toNat) (x1, x2, σ) ⟨rfl, hIσ, hfσ, (show 0 ≤ x2.toInt by omega), (show x2.toInt ≤ 60 by omega)⟩ (by unfold K9; omega)
  obtain ⟨a1_1, a2_1, σ1_1⟩ := s_1
  obtain ⟨hn_1, hIσ1_1, hfσ1_1, b0a2_1, b1a2_1⟩ := hs_1
  dsimp only at hn_1 hIσ1_1 hfσ1_1 b0a2_1 b1a2_1
  unfold bX10_blind_4
  try dsimp only
  refine ok_bd.mpr ?_
  try unfold fX10_rows
  have f2 : (9 : Int32).toInt = 9 := by decide
  refine ok_gd.mpr ⟨gb_of (by omega) (by omega), ?_⟩
  refine ok_nm2 (fun v1_31 ev1_31 => ?_)
  have f3 : 0 ≤ (σ1_1.1 15 9).toInt ∧ (σ1_1.1 15 9).toInt ≤ 60 := hIσ1_1 15 9
  have qv1_31 : v1_31.toInt = (σ1_1.1 15 9).toInt := congrArg Int32.toInt ev1_31
  refine ok_some.mpr ?_
  refine ok_ite.mpr ⟨fun h_4 => ?_, fun h_4 => ?_⟩
  · have g5 : v1_31.toInt ≤ a2_1.toInt := Int32.le_iff_toInt_le.mp h_4
    refine ok_some.mpr ?_
    exact ⟨hIσ1_1, hfσ1_1⟩
  · have g6 : ¬ v1_31.toInt ≤ a2_1.toInt := fun z => h_4 (Int32.le_iff_toInt_le.mpr z)
    refine ok_gd.mpr ⟨gb_of (by omega) (by omega), ?_⟩
    refine ok_nm2 (fun v6_30_32 ev6_30_32 => ?_)
    have qv6_30_32 : v6_30_32.toInt = (σ1_1.1 26 a2_1.toNatClampNeg).toInt := congrArg Int32.toInt ev6_30_32
    refine ok_ite.mpr ⟨fun h_7 => ?_, fun h_7 => ?_⟩
    · have g8 : v6_30_32.toInt = (0 : Int32).toInt := by rw [h_7]
      refine ok_bd2.mpr ((o_fX10_canShow hIσ1_1 (p1 := a2_1) (by omega) (by omega)).mono (fun o_9 ho_10 => ?_))
      obtain ⟨r10_30_32, σ11_30_32⟩ := o_9
      obtain ⟨hIσ11_30_32, hcσ11_30_32, r0r10_30_32, r1r10_30_32⟩ := ho_10
      dsimp only at hIσ11_30_32 hcσ11_30_32 r0r10_30_32 r1r10_30_32 ⊢
      have hfσ11_30_32 : Fr fr_fX10_blind σ σ11_30_32 := Fr_c hfσ1_1 hcσ11_30_32 (by decide)
      refine ok_ite.mpr ⟨fun h_11 => ?_, fun h_11 => ?_⟩
      · have g12 : r10_30_32.toInt = (0 : Int32).toInt := by rw [h_11]
        refine ok_nm2 (fun x14_30_32 ex14_30_32 => ?_)
        have f13 : (1 : Int32).toInt = 1 := by decide
        have qx14_30_32 : x14_30_32.toInt = (a1_1 + 1).toInt := congrArg Int32.toInt ex14_30_32
        refine ok_nm2 (fun x15_30_32 ex15_30_32 => ?_)
        have f14 : (a2_1 + (1 : Int32)).toInt = a2_1.toInt + (1 : Int32).toInt := iadd_toInt (by omega) (by omega)
        have qx15_30_32 : x15_30_32.toInt = (a2_1 + 1).toInt := congrArg Int32.toInt ex15_30_32
        exact hrec_1 _ (x14_30_32, x15_30_32, σ11_30_32) (show (60 + 1 - x15_30_32.toInt).toNat < n_1 by omega) ⟨rfl, hIσ11_30_32, hfσ11_30_32, (show 0 ≤ x15_30_32.toInt by omega), (show x15_30_32.toInt ≤ 60 by omega)⟩
      · have g15 : r10_30_32.toInt ≠ (0 : Int32).toInt := fun z => h_11 (Int32.toInt_inj.mp z)
        refine ok_nm2 (fun x13_30_32 ex13_30_32 => ?_)
        have f16 : (1 : Int32).toInt = 1 := by decide
        have f17 : (a2_1 + (1 : Int32)).toInt = a2_1.toInt + (1 : Int32).toInt := iadd_toInt (by omega) (by omega)
        have qx13_30_32 : x13_30_32.toInt = (a2_1 + 1).toInt := congrArg Int32.toInt ex13_30_32
        exact hrec_1 _ (a1_1, x13_30_32, σ11_30_32) (show (60 + 1 - x13_30_32.toInt).toNat < n_1 by omega) ⟨rfl, hIσ11_30_32, hfσ11_30_32, (show 0 ≤ x13_30_32.toInt by omega), (show x13_30_32.toInt ≤ 60 by omega)⟩
    · have g18 : v6_30_32.toInt ≠ (0 : Int32).toInt := fun z => h_7 (Int32.toInt_inj.mp z)
      refine ok_nm2 (fun x8_30_32 ex8_30_32 => ?_)
      have f19 : (1 : Int32).toInt = 1 := by decide
      have f20 : (a2_1 + (1 : Int32)).toInt = a2_1.toInt + (1 : Int32).toInt := iadd_toInt (by omega) (by omega)
      have qx8_30_32 : x8_30_32.toInt = (a2_1 + 1).toInt := congrArg Int32.toInt ex8_30_32
      exact hrec_1 _ (a1_1, x8_30_32, σ1_1) (show (60 + 1 - x8_30_32.toInt).toNat < n_1 by omega) ⟨rfl, hIσ1_1, hfσ1_1, (show 0 ≤ x8_30_32.toInt by omega), (show x8_30_32.toInt ≤ 60 by omega)⟩
set_option maxRecDepth 20000 in
set_option maxHeartbeats 2000000 in
theorem o_fX10_looseMany {σ : gS} (hIσ : JM σ)   : Ok (fX10_looseMany σ ) (fun out => JM out.2 ∧ Fr fr_fX10_looseMany σ out.2) := by
  unfold fX10_looseMany
  have hfσ : Fr fr_fX10_looseMany σ σ := Fr_r
  refine ok_bd.mpr ((o_fX10_hangs hIσ  ).mono (fun σ2 ho_2 => ?_))
  obtain ⟨hIσ2, hcσ2⟩ := ho_2
  have hfσ2 : Fr fr_fX10_looseMany σ σ2 := Fr_c hfσ hcσ2 (by decide)
  refine ok_nm2 (fun x3 ex3 => ?_)
  have f3 : (0 : Int32).toInt = 0 := by decide
  have qx3 : x3.toInt = 0 := by rw [ex3]; decide
  refine ok_nm2 (fun x4 ex4 => ?_)
  have qx4 : x4.toInt = 0 := by rw [ex4]; decide
  refine ok_lpc (I := fun n s => n = (12 + 1 - s.2.toInt).toNat ∧ 0 ≤ s.2.toInt ∧ s.2.toInt ≤ 12) (fun rec8_1r n_1 s_1 hs_1 hrec_1 => ?_) K9 ((12 + 1 - x4.toInt).toNat) (x3, x4) ⟨rfl, (show 0 ≤ x4.toInt by omega), (show x4.toInt ≤ 12 by omega)⟩ (by unfold K9; omega)
  obtain ⟨a1_1, a2_1⟩ := s_1
  obtain ⟨hn_1, b0a2_1, b1a2_1⟩ := hs_1
  dsimp only at hn_1 b0a2_1 b1a2_1
  unfold bX10_looseMany_8
  try dsimp only
  refine ok_bd.mpr ?_
  try unfold fX10_pictures
  have f4 : (7 : Int32).toInt = 7 := by decide
  refine ok_gd.mpr ⟨gb_of (by omega) (by omega), ?_⟩
  refine ok_nm2 (fun v1_31 ev1_31 => ?_)
  have f5 : 0 ≤ (σ2.1 15 7).toInt ∧ (σ2.1 15 7).toInt ≤ 12 := hIσ2 15 7
  have qv1_31 : v1_31.toInt = (σ2.1 15 7).toInt := congrArg Int32.toInt ev1_31
  refine ok_some.mpr ?_
  refine ok_ite.mpr ⟨fun h_6 => ?_, fun h_6 => ?_⟩
  · have g7 : v1_31.toInt ≤ a2_1.toInt := Int32.le_iff_toInt_le.mp h_6
    refine ok_some.mpr ?_
    exact ⟨hIσ2, hfσ2⟩
  · have g8 : ¬ v1_31.toInt ≤ a2_1.toInt := fun z => h_6 (Int32.le_iff_toInt_le.mpr z)
    refine ok_bd.mpr ((o_fX10_isLoose hIσ2 (p1 := a2_1) (by omega) (by omega)).mono (fun r9_30_32 ho_10 => ?_))
    obtain ⟨r0r9_30_32, r1r9_30_32⟩ := ho_10
    refine ok_ite.mpr ⟨fun h_11 => ?_, fun h_11 => ?_⟩
    · have g12 : r9_30_32.toInt = (0 : Int32).toInt := by rw [h_11]
      refine ok_nm2 (fun x11_30_32 ex11_30_32 => ?_)
      have f13 : (1 : Int32).toInt = 1 := by decide
      have f14 : (a2_1 + (1 : Int32)).toInt = a2_1.toInt + (1 : Int32).toInt := iadd_toInt (by omega) (by omega)
      have qx11_30_32 : x11_30_32.toInt = (a2_1 + 1).toInt := congrArg Int32.toInt ex11_30_32
      exact hrec_1 _ (a1_1, x11_30_32) (show (12 + 1 - x11_30_32.toInt).toNat < n_1 by omega) ⟨rfl, (show 0 ≤ x11_30_32.toInt by omega), (show x11_30_32.toInt ≤ 12 by omega)⟩
    · have g15 : r9_30_32.toInt ≠ (0 : Int32).toInt := fun z => h_11 (Int32.toInt_inj.mp z)
      refine ok_nm2 (fun x12_30_32 ex12_30_32 => ?_)
      have f16 : (1 : Int32).toInt = 1 := by decide
      have qx12_30_32 : x12_30_32.toInt = (a1_1 + 1).toInt := congrArg Int32.toInt ex12_30_32
      refine ok_nm2 (fun x13_30_32 ex13_30_32 => ?_)
      have f17 : (a2_1 + (1 : Int32)).toInt = a2_1.toInt + (1 : Int32).toInt := iadd_toInt (by omega) (by omega)
      have qx13_30_32 : x13_30_32.toInt = (a2_1 + 1).toInt := congrArg Int32.toInt ex13_30_32
      exact hrec_1 _ (x12_30_32, x13_30_32) (show (12 + 1 - x13_30_32.toInt).toNat < n_1 by omega) ⟨rfl, (show 0 ≤ x13_30_32.toInt by omega), (show x13_30_32.toInt ≤ 12 by omega)⟩
set_option maxRecDepth 20000 in
set_option maxHeartbeats 2000000 in
theorem o_fX10_needs {σ : gS} (hIσ : JM σ) {p1 : Int32}  : Ok (fX10_needs σ p1) (fun out => JM out.2 ∧ Fr fr_fX10_needs σ out.2) := by
  unfold fX10_needs
  have hfσ : Fr fr_fX10_needs σ σ := Fr_r
  refine ok_bd.mpr ?_
  try unfold fX10_isRow
  refine ok_bd.mpr ?_
  try unfold fX10_rows
  have f1 : (9 : Int32).toInt = 9 := by decide
  refine ok_gd.mpr ⟨gb_of (by omega) (by omega), ?_⟩
  refine ok_nm2 (fun v1_2 ev1_2 => ?_)
  have f2 : 0 ≤ (σ.1 15 9).toInt ∧ (σ.1 15 9).toInt ≤ 60 := hIσ 15 9
  have qv1_2 : v1_2.toInt = (σ.1 15 9).toInt := congrArg Int32.toInt ev1_2
  refine ok_some.mpr ?_
  refine ok_bd.mpr ?_
  try unfold fX10_isIn
  refine ok_ite.mpr ⟨fun h_3 => ?_, fun h_3 => ?_⟩
  · have f4 : p1.toInt64.toInt = p1.toInt := Int32.toInt_toInt64 _
    have f5 : (0 : Int64).toInt = 0 := by decide
    have g6 : p1.toInt64.toInt < (0 : Int64).toInt := Int64.lt_iff_toInt_lt.mp h_3
    refine ok_some.mpr ?_
    refine ok_some.mpr ?_
    refine ok_ite.mpr ⟨fun h_7 => ?_, fun h_7 => ?_⟩
    · have f8 : (vp_nar .boolean 0).toInt = 0 := by decide
      have f9 : (0 : Int32).toInt = 0 := by decide
      have g10 : (vp_nar .boolean 0).toInt = (0 : Int32).toInt := by rw [h_7]
      refine ok_some.mpr ?_
      have f11 : (-1 : Int32).toInt = -1 := by decide
      exact ⟨hIσ, hfσ⟩
    · have f12 : (vp_nar .boolean 0).toInt = 0 := by decide
      have f13 : (0 : Int32).toInt = 0 := by decide
      have g14 : (vp_nar .boolean 0).toInt ≠ (0 : Int32).toInt := fun z => h_7 (Int32.toInt_inj.mp z)
      exfalso
      omega
  · have f15 : p1.toInt64.toInt = p1.toInt := Int32.toInt_toInt64 _
    have f16 : (0 : Int64).toInt = 0 := by decide
    have g17 : ¬ p1.toInt64.toInt < (0 : Int64).toInt := fun z => h_3 (Int64.lt_iff_toInt_lt.mpr z)
    refine ok_ite.mpr ⟨fun h_18 => ?_, fun h_18 => ?_⟩
    · have f19 : (1 : Int32).toInt = 1 := by decide
      have f20 : (v1_2 - (1 : Int32)).toInt = v1_2.toInt - (1 : Int32).toInt := isub_toInt (by omega) (by omega)
      have f21 : (v1_2 - 1).toInt64.toInt = (v1_2 - 1).toInt := Int32.toInt_toInt64 _
      have g22 : (v1_2 - 1).toInt64.toInt < p1.toInt64.toInt := Int64.lt_iff_toInt_lt.mp h_18
      refine ok_some.mpr ?_
      refine ok_some.mpr ?_
      refine ok_ite.mpr ⟨fun h_23 => ?_, fun h_23 => ?_⟩
      · have f24 : (vp_nar .boolean 0).toInt = 0 := by decide
        have f25 : (0 : Int32).toInt = 0 := by decide
        have g26 : (vp_nar .boolean 0).toInt = (0 : Int32).toInt := by rw [h_23]
        refine ok_some.mpr ?_
        have f27 : (-1 : Int32).toInt = -1 := by decide
        exact ⟨hIσ, hfσ⟩
      · have f28 : (vp_nar .boolean 0).toInt = 0 := by decide
        have f29 : (0 : Int32).toInt = 0 := by decide
        have g30 : (vp_nar .boolean 0).toInt ≠ (0 : Int32).toInt := fun z => h_23 (Int32.toInt_inj.mp z)
        exfalso
        omega
    · have f31 : (1 : Int32).toInt = 1 := by decide
      have f32 : (v1_2 - (1 : Int32)).toInt = v1_2.toInt - (1 : Int32).toInt := isub_toInt (by omega) (by omega)
      have f33 : (v1_2 - 1).toInt64.toInt = (v1_2 - 1).toInt := Int32.toInt_toInt64 _
      have g34 : ¬ (v1_2 - 1).toInt64.toInt < p1.toInt64.toInt := fun z => h_18 (Int64.lt_iff_toInt_lt.mpr z)
      refine ok_some.mpr ?_
      refine ok_some.mpr ?_
      refine ok_ite.mpr ⟨fun h_35 => ?_, fun h_35 => ?_⟩
      · have f36 : (vp_nar .boolean 1).toInt = 1 := by decide
        have f37 : (0 : Int32).toInt = 0 := by decide
        have g38 : (vp_nar .boolean 1).toInt = (0 : Int32).toInt := by rw [h_35]
        exfalso
        omega
      · have f39 : (vp_nar .boolean 1).toInt = 1 := by decide
        have f40 : (0 : Int32).toInt = 0 := by decide
        have g41 : (vp_nar .boolean 1).toInt ≠ (0 : Int32).toInt := fun z => h_35 (Int32.toInt_inj.mp z)
        refine ok_gd.mpr ⟨gb_of (by omega) (by omega), ?_⟩
        refine ok_nm2 (fun v4_3_9_10 ev4_3_9_10 => ?_)
        have qv4_3_9_10 : v4_3_9_10.toInt = (σ.1 26 p1.toNatClampNeg).toInt := congrArg Int32.toInt ev4_3_9_10
        refine ok_ite.mpr ⟨fun h_42 => ?_, fun h_42 => ?_⟩
        · have g43 : v4_3_9_10.toInt = (0 : Int32).toInt := by rw [h_42]
          refine ok_bd2.mpr ((o_fX10_looseMany hIσ  ).mono (fun o_44 ho_45 => ?_))
          obtain ⟨r7_3_9_10, σ8_3_9_10⟩ := o_44
          obtain ⟨hIσ8_3_9_10, hcσ8_3_9_10⟩ := ho_45
          dsimp only at hIσ8_3_9_10 hcσ8_3_9_10 ⊢
          have hfσ8_3_9_10 : Fr fr_fX10_needs σ σ8_3_9_10 := Fr_c hfσ hcσ8_3_9_10 (by decide)
          refine ok_nm.mpr ?_
          refine ok_gd.mpr ⟨gb_of (by omega) (by omega), ?_⟩
          refine ok_nm2 (fun σ10_3_9_10_11 eσ10_3_9_10_11 => ?_)
          have hIσ10_3_9_10_11 : JM σ10_3_9_10_11 := by rw [eσ10_3_9_10_11]; exact JM_w hIσ8_3_9_10 (Int32.le_toInt _) (Int32.toInt_le _)
          have hfσ10_3_9_10_11 : Fr fr_fX10_needs σ σ10_3_9_10_11 := by rw [eσ10_3_9_10_11]; exact Fr_w0 hfσ8_3_9_10 (by decide)
          refine ok_bd2.mpr ((o_fX10_looseMany hIσ10_3_9_10_11  ).mono (fun o_46 ho_47 => ?_))
          obtain ⟨r12_3_9_10_11, σ13_3_9_10_11⟩ := o_46
          obtain ⟨hIσ13_3_9_10_11, hcσ13_3_9_10_11⟩ := ho_47
          dsimp only at hIσ13_3_9_10_11 hcσ13_3_9_10_11 ⊢
          have hfσ13_3_9_10_11 : Fr fr_fX10_needs σ σ13_3_9_10_11 := Fr_c hfσ10_3_9_10_11 hcσ13_3_9_10_11 (by decide)
          refine ok_nm.mpr ?_
          refine ok_gd.mpr ⟨gb_of (by omega) (by omega), ?_⟩
          refine ok_nm2 (fun σ15_3_9_10_11_12 eσ15_3_9_10_11_12 => ?_)
          have f48 : (vp_nar .boolean 0).toInt = 0 := by decide
          have hIσ15_3_9_10_11_12 : JM σ15_3_9_10_11_12 := by rw [eσ15_3_9_10_11_12]; exact JM_w hIσ13_3_9_10_11 (Int32.le_toInt _) (Int32.toInt_le _)
          have hfσ15_3_9_10_11_12 : Fr fr_fX10_needs σ σ15_3_9_10_11_12 := by rw [eσ15_3_9_10_11_12]; exact Fr_w0 hfσ13_3_9_10_11 (by decide)
          refine ok_some.mpr ?_
          exact ⟨hIσ15_3_9_10_11_12, hfσ15_3_9_10_11_12⟩
        · have g49 : v4_3_9_10.toInt ≠ (0 : Int32).toInt := fun z => h_42 (Int32.toInt_inj.mp z)
          refine ok_some.mpr ?_
          have f50 : (-1 : Int32).toInt = -1 := by decide
          exact ⟨hIσ, hfσ⟩
set_option maxRecDepth 20000 in
set_option maxHeartbeats 2000000 in
theorem o_fX10_doubt {σ : gS} (hIσ : JM σ) {p1 : Int32}  : Ok (fX10_doubt σ p1) (fun _ => True) := by
  unfold fX10_doubt
  refine ok_bd.mpr ?_
  try unfold fX10_isRow
  refine ok_bd.mpr ?_
  try unfold fX10_rows
  have f1 : (9 : Int32).toInt = 9 := by decide
  refine ok_gd.mpr ⟨gb_of (by omega) (by omega), ?_⟩
  refine ok_nm2 (fun v1_2 ev1_2 => ?_)
  have f2 : 0 ≤ (σ.1 15 9).toInt ∧ (σ.1 15 9).toInt ≤ 60 := hIσ 15 9
  have qv1_2 : v1_2.toInt = (σ.1 15 9).toInt := congrArg Int32.toInt ev1_2
  refine ok_some.mpr ?_
  refine ok_bd.mpr ?_
  try unfold fX10_isIn
  refine ok_ite.mpr ⟨fun h_3 => ?_, fun h_3 => ?_⟩
  · have f4 : p1.toInt64.toInt = p1.toInt := Int32.toInt_toInt64 _
    have f5 : (0 : Int64).toInt = 0 := by decide
    have g6 : p1.toInt64.toInt < (0 : Int64).toInt := Int64.lt_iff_toInt_lt.mp h_3
    refine ok_some.mpr ?_
    refine ok_some.mpr ?_
    refine ok_ite.mpr ⟨fun h_7 => ?_, fun h_7 => ?_⟩
    · have f8 : (vp_nar .boolean 0).toInt = 0 := by decide
      have f9 : (0 : Int32).toInt = 0 := by decide
      have g10 : (vp_nar .boolean 0).toInt = (0 : Int32).toInt := by rw [h_7]
      refine ok_some.mpr ?_
      have f11 : (-1 : Int64).toInt = -1 := by decide
      exact trivial
    · have f12 : (vp_nar .boolean 0).toInt = 0 := by decide
      have f13 : (0 : Int32).toInt = 0 := by decide
      have g14 : (vp_nar .boolean 0).toInt ≠ (0 : Int32).toInt := fun z => h_7 (Int32.toInt_inj.mp z)
      exfalso
      omega
  · have f15 : p1.toInt64.toInt = p1.toInt := Int32.toInt_toInt64 _
    have f16 : (0 : Int64).toInt = 0 := by decide
    have g17 : ¬ p1.toInt64.toInt < (0 : Int64).toInt := fun z => h_3 (Int64.lt_iff_toInt_lt.mpr z)
    refine ok_ite.mpr ⟨fun h_18 => ?_, fun h_18 => ?_⟩
    · have f19 : (1 : Int32).toInt = 1 := by decide
      have f20 : (v1_2 - (1 : Int32)).toInt = v1_2.toInt - (1 : Int32).toInt := isub_toInt (by omega) (by omega)
      have f21 : (v1_2 - 1).toInt64.toInt = (v1_2 - 1).toInt := Int32.toInt_toInt64 _
      have g22 : (v1_2 - 1).toInt64.toInt < p1.toInt64.toInt := Int64.lt_iff_toInt_lt.mp h_18
      refine ok_some.mpr ?_
      refine ok_some.mpr ?_
      refine ok_ite.mpr ⟨fun h_23 => ?_, fun h_23 => ?_⟩
      · have f24 : (vp_nar .boolean 0).toInt = 0 := by decide
        have f25 : (0 : Int32).toInt = 0 := by decide
        have g26 : (vp_nar .boolean 0).toInt = (0 : Int32).toInt := by rw [h_23]
        refine ok_some.mpr ?_
        have f27 : (-1 : Int64).toInt = -1 := by decide
        exact trivial
      · have f28 : (vp_nar .boolean 0).toInt = 0 := by decide
        have f29 : (0 : Int32).toInt = 0 := by decide
        have g30 : (vp_nar .boolean 0).toInt ≠ (0 : Int32).toInt := fun z => h_23 (Int32.toInt_inj.mp z)
        exfalso
        omega
    · have f31 : (1 : Int32).toInt = 1 := by decide
      have f32 : (v1_2 - (1 : Int32)).toInt = v1_2.toInt - (1 : Int32).toInt := isub_toInt (by omega) (by omega)
      have f33 : (v1_2 - 1).toInt64.toInt = (v1_2 - 1).toInt := Int32.toInt_toInt64 _
      have g34 : ¬ (v1_2 - 1).toInt64.toInt < p1.toInt64.toInt := fun z => h_18 (Int64.lt_iff_toInt_lt.mpr z)
      refine ok_some.mpr ?_
      refine ok_some.mpr ?_
      refine ok_ite.mpr ⟨fun h_35 => ?_, fun h_35 => ?_⟩
      · have f36 : (vp_nar .boolean 1).toInt = 1 := by decide
        have f37 : (0 : Int32).toInt = 0 := by decide
        have g38 : (vp_nar .boolean 1).toInt = (0 : Int32).toInt := by rw [h_35]
        exfalso
        omega
      · have f39 : (vp_nar .boolean 1).toInt = 1 := by decide
        have f40 : (0 : Int32).toInt = 0 := by decide
        have g41 : (vp_nar .boolean 1).toInt ≠ (0 : Int32).toInt := fun z => h_35 (Int32.toInt_inj.mp z)
        refine ok_bd.mpr ((o_fX10_doubtOf hIσ (p1 := p1) (by omega) (by omega)).mono (fun r5_3_9_10 ho_43 => ?_))
        refine ok_some.mpr ?_
        exact trivial
set_option maxRecDepth 20000 in
set_option maxHeartbeats 2000000 in
theorem o_fX10_worstNow {σ : gS} (hIσ : JM σ)   : Ok (fX10_worstNow σ ) (fun out => JM out.2 ∧ Fr fr_fX10_worstNow σ out.2 ∧ -1 ≤ out.1.toInt ∧ out.1.toInt ≤ 59) := by
  unfold fX10_worstNow
  have hfσ : Fr fr_fX10_worstNow σ σ := Fr_r
  refine ok_nm2 (fun x1 ex1 => ?_)
  have f1 : (-1 : Int32).toInt = -1 := by decide
  have qx1 : x1.toInt = -1 := by rw [ex1]; decide
  refine ok_nm2 (fun x2 ex2 => ?_)
  have f2 : (0 : Int32).toInt = 0 := by decide
  have qx2 : x2.toInt = 0 := by rw [ex2]; decide
  refine ok_lpc (I := fun n s => n = (60 + 1 - s.2.1.toInt).toNat ∧ JM s.2.2 ∧ Fr fr_fX10_worstNow σ s.2.2 ∧ -1 ≤ s.1.toInt ∧ s.1.toInt ≤ 59 ∧ 0 ≤ s.2.1.toInt ∧ s.2.1.toInt ≤ 60) (fun rec4_1r n_1 s_1 hs_1 hrec_1 => ?_) K9 ((60 + 1 - x2.toInt).toNat) (x1, x2, σ) ⟨rfl, hIσ, hfσ, (show -1 ≤ x1.toInt by omega), (show x1.toInt ≤ 59 by omega), (show 0 ≤ x2.toInt by omega), (show x2.toInt ≤ 60 by omega)⟩ (by unfold K9; omega)
  obtain ⟨a1_1, a2_1, σ1_1⟩ := s_1
  obtain ⟨hn_1, hIσ1_1, hfσ1_1, b0a1_1, b1a1_1, b0a2_1, b1a2_1⟩ := hs_1
  dsimp only at hn_1 hIσ1_1 hfσ1_1 b0a1_1 b1a1_1 b0a2_1 b1a2_1
  unfold bX10_worstNow_4
  try dsimp only
  refine ok_bd.mpr ?_
  try unfold fX10_rows
  have f3 : (9 : Int32).toInt = 9 := by decide
  refine ok_gd.mpr ⟨gb_of (by omega) (by omega), ?_⟩
  refine ok_nm2 (fun v1_21 ev1_21 => ?_)
  have f4 : 0 ≤ (σ1_1.1 15 9).toInt ∧ (σ1_1.1 15 9).toInt ≤ 60 := hIσ1_1 15 9
  have qv1_21 : v1_21.toInt = (σ1_1.1 15 9).toInt := congrArg Int32.toInt ev1_21
  refine ok_some.mpr ?_
  refine ok_ite.mpr ⟨fun h_5 => ?_, fun h_5 => ?_⟩
  · have g6 : v1_21.toInt ≤ a2_1.toInt := Int32.le_iff_toInt_le.mp h_5
    refine ok_some.mpr ?_
    exact ⟨hIσ1_1, hfσ1_1, (show -1 ≤ a1_1.toInt by omega), (show a1_1.toInt ≤ 59 by omega)⟩
  · have g7 : ¬ v1_21.toInt ≤ a2_1.toInt := fun z => h_5 (Int32.le_iff_toInt_le.mpr z)
    refine ok_bd2.mpr ((o_fX10_canShow hIσ1_1 (p1 := a2_1) (by omega) (by omega)).mono (fun o_8 ho_9 => ?_))
    obtain ⟨r7_20_22, σ8_20_22⟩ := o_8
    obtain ⟨hIσ8_20_22, hcσ8_20_22, r0r7_20_22, r1r7_20_22⟩ := ho_9
    dsimp only at hIσ8_20_22 hcσ8_20_22 r0r7_20_22 r1r7_20_22 ⊢
    have hfσ8_20_22 : Fr fr_fX10_worstNow σ σ8_20_22 := Fr_c hfσ1_1 hcσ8_20_22 (by decide)
    refine ok_ite.mpr ⟨fun h_10 => ?_, fun h_10 => ?_⟩
    · have g11 : r7_20_22.toInt = (0 : Int32).toInt := by rw [h_10]
      refine ok_nm2 (fun x10_20_22 ex10_20_22 => ?_)
      have f12 : (1 : Int32).toInt = 1 := by decide
      have f13 : (a2_1 + (1 : Int32)).toInt = a2_1.toInt + (1 : Int32).toInt := iadd_toInt (by omega) (by omega)
      have qx10_20_22 : x10_20_22.toInt = (a2_1 + 1).toInt := congrArg Int32.toInt ex10_20_22
      exact hrec_1 _ (a1_1, x10_20_22, σ8_20_22) (show (60 + 1 - x10_20_22.toInt).toNat < n_1 by omega) ⟨rfl, hIσ8_20_22, hfσ8_20_22, (show -1 ≤ a1_1.toInt by omega), (show a1_1.toInt ≤ 59 by omega), (show 0 ≤ x10_20_22.toInt by omega), (show x10_20_22.toInt ≤ 60 by omega)⟩
    · have g14 : r7_20_22.toInt ≠ (0 : Int32).toInt := fun z => h_10 (Int32.toInt_inj.mp z)
      refine ok_ite.mpr ⟨fun h_15 => ?_, fun h_15 => ?_⟩
      · have g16 : a1_1.toInt = (-1 : Int32).toInt := by rw [h_15]
        refine ok_nm.mpr ?_
        refine ok_nm2 (fun x13_20_22_23 ex13_20_22_23 => ?_)
        have f17 : (1 : Int32).toInt = 1 := by decide
        have f18 : (a2_1 + (1 : Int32)).toInt = a2_1.toInt + (1 : Int32).toInt := iadd_toInt (by omega) (by omega)
        have qx13_20_22_23 : x13_20_22_23.toInt = (a2_1 + 1).toInt := congrArg Int32.toInt ex13_20_22_23
        exact hrec_1 _ (a2_1, x13_20_22_23, σ8_20_22) (show (60 + 1 - x13_20_22_23.toInt).toNat < n_1 by omega) ⟨rfl, hIσ8_20_22, hfσ8_20_22, (show -1 ≤ a2_1.toInt by omega), (show a2_1.toInt ≤ 59 by omega), (show 0 ≤ x13_20_22_23.toInt by omega), (show x13_20_22_23.toInt ≤ 60 by omega)⟩
      · have g19 : a1_1.toInt ≠ (-1 : Int32).toInt := fun z => h_15 (Int32.toInt_inj.mp z)
        refine ok_bd.mpr ((o_fX10_doubtOf hIσ8_20_22 (p1 := a2_1) (by omega) (by omega)).mono (fun r15_20_22 ho_21 => ?_))
        refine ok_bd.mpr ((o_fX10_doubtOf hIσ8_20_22 (p1 := a1_1) (by omega) (by omega)).mono (fun r17_20_22 ho_23 => ?_))
        refine ok_ite.mpr ⟨fun h_24 => ?_, fun h_24 => ?_⟩
        · have g25 : r15_20_22.toInt ≤ r17_20_22.toInt := Int64.le_iff_toInt_le.mp h_24
          refine ok_nm2 (fun x19_20_22 ex19_20_22 => ?_)
          have f26 : (1 : Int32).toInt = 1 := by decide
          have f27 : (a2_1 + (1 : Int32)).toInt = a2_1.toInt + (1 : Int32).toInt := iadd_toInt (by omega) (by omega)
          have qx19_20_22 : x19_20_22.toInt = (a2_1 + 1).toInt := congrArg Int32.toInt ex19_20_22
          exact hrec_1 _ (a1_1, x19_20_22, σ8_20_22) (show (60 + 1 - x19_20_22.toInt).toNat < n_1 by omega) ⟨rfl, hIσ8_20_22, hfσ8_20_22, (show -1 ≤ a1_1.toInt by omega), (show a1_1.toInt ≤ 59 by omega), (show 0 ≤ x19_20_22.toInt by omega), (show x19_20_22.toInt ≤ 60 by omega)⟩
        · have g28 : ¬ r15_20_22.toInt ≤ r17_20_22.toInt := fun z => h_24 (Int64.le_iff_toInt_le.mpr z)
          refine ok_nm.mpr ?_
          refine ok_nm2 (fun x21_20_22_24 ex21_20_22_24 => ?_)
          have f29 : (1 : Int32).toInt = 1 := by decide
          have f30 : (a2_1 + (1 : Int32)).toInt = a2_1.toInt + (1 : Int32).toInt := iadd_toInt (by omega) (by omega)
          have qx21_20_22_24 : x21_20_22_24.toInt = (a2_1 + 1).toInt := congrArg Int32.toInt ex21_20_22_24
          exact hrec_1 _ (a2_1, x21_20_22_24, σ8_20_22) (show (60 + 1 - x21_20_22_24.toInt).toNat < n_1 by omega) ⟨rfl, hIσ8_20_22, hfσ8_20_22, (show -1 ≤ a2_1.toInt by omega), (show a2_1.toInt ≤ 59 by omega), (show 0 ≤ x21_20_22_24.toInt by omega), (show x21_20_22_24.toInt ≤ 60 by omega)⟩
set_option maxRecDepth 20000 in
set_option maxHeartbeats 2000000 in
theorem o_fX10_worst {σ : gS} (hIσ : JM σ)   : Ok (fX10_worst σ ) (fun out => JM out.2 ∧ Fr fr_fX10_worst σ out.2 ∧ -1 ≤ out.1.toInt ∧ out.1.toInt ≤ 59) := by
  unfold fX10_worst
  have hfσ : Fr fr_fX10_worst σ σ := Fr_r
  refine ok_bd2.mpr ((o_fX10_worstNow hIσ  ).mono (fun o_1 ho_2 => ?_))
  obtain ⟨r2, σ3⟩ := o_1
  obtain ⟨hIσ3, hcσ3, r0r2, r1r2⟩ := ho_2
  dsimp only at hIσ3 hcσ3 r0r2 r1r2 ⊢
  have hfσ3 : Fr fr_fX10_worst σ σ3 := Fr_c hfσ hcσ3 (by decide)
  refine ok_some.mpr ?_
  exact ⟨hIσ3, hfσ3, (show -1 ≤ r2.toInt by omega), (show r2.toInt ≤ 59 by omega)⟩
set_option maxRecDepth 20000 in
set_option maxHeartbeats 2000000 in
theorem o_fX10_drop {σ : gS} (hIσ : JM σ) {p1 : Int32} {p2 : Int32}  : Ok (fX10_drop σ p1 p2) (fun out => JM out.2 ∧ Fr fr_fX10_drop σ out.2 ∧ 0 ≤ out.1.toInt ∧ out.1.toInt ≤ 1) := by
  unfold fX10_drop
  have hfσ : Fr fr_fX10_drop σ σ := Fr_r
  refine ok_bd.mpr ?_
  try unfold fX10_isRow
  refine ok_bd.mpr ?_
  try unfold fX10_rows
  have f1 : (9 : Int32).toInt = 9 := by decide
  refine ok_gd.mpr ⟨gb_of (by omega) (by omega), ?_⟩
  refine ok_nm2 (fun v1_2 ev1_2 => ?_)
  have f2 : 0 ≤ (σ.1 15 9).toInt ∧ (σ.1 15 9).toInt ≤ 60 := hIσ 15 9
  have qv1_2 : v1_2.toInt = (σ.1 15 9).toInt := congrArg Int32.toInt ev1_2
  refine ok_some.mpr ?_
  refine ok_bd.mpr ?_
  try unfold fX10_isIn
  refine ok_ite.mpr ⟨fun h_3 => ?_, fun h_3 => ?_⟩
  · have f4 : p1.toInt64.toInt = p1.toInt := Int32.toInt_toInt64 _
    have f5 : (0 : Int64).toInt = 0 := by decide
    have g6 : p1.toInt64.toInt < (0 : Int64).toInt := Int64.lt_iff_toInt_lt.mp h_3
    refine ok_some.mpr ?_
    refine ok_some.mpr ?_
    refine ok_ite.mpr ⟨fun h_7 => ?_, fun h_7 => ?_⟩
    · have f8 : (vp_nar .boolean 0).toInt = 0 := by decide
      have f9 : (0 : Int32).toInt = 0 := by decide
      have g10 : (vp_nar .boolean 0).toInt = (0 : Int32).toInt := by rw [h_7]
      refine ok_some.mpr ?_
      exact ⟨hIσ, hfσ, (show 0 ≤ (0 : Int32).toInt by omega), (show (0 : Int32).toInt ≤ 1 by omega)⟩
    · have f11 : (vp_nar .boolean 0).toInt = 0 := by decide
      have f12 : (0 : Int32).toInt = 0 := by decide
      have g13 : (vp_nar .boolean 0).toInt ≠ (0 : Int32).toInt := fun z => h_7 (Int32.toInt_inj.mp z)
      exfalso
      omega
  · have f14 : p1.toInt64.toInt = p1.toInt := Int32.toInt_toInt64 _
    have f15 : (0 : Int64).toInt = 0 := by decide
    have g16 : ¬ p1.toInt64.toInt < (0 : Int64).toInt := fun z => h_3 (Int64.lt_iff_toInt_lt.mpr z)
    refine ok_ite.mpr ⟨fun h_17 => ?_, fun h_17 => ?_⟩
    · have f18 : (1 : Int32).toInt = 1 := by decide
      have f19 : (v1_2 - (1 : Int32)).toInt = v1_2.toInt - (1 : Int32).toInt := isub_toInt (by omega) (by omega)
      have f20 : (v1_2 - 1).toInt64.toInt = (v1_2 - 1).toInt := Int32.toInt_toInt64 _
      have g21 : (v1_2 - 1).toInt64.toInt < p1.toInt64.toInt := Int64.lt_iff_toInt_lt.mp h_17
      refine ok_some.mpr ?_
      refine ok_some.mpr ?_
      refine ok_ite.mpr ⟨fun h_22 => ?_, fun h_22 => ?_⟩
      · have f23 : (vp_nar .boolean 0).toInt = 0 := by decide
        have f24 : (0 : Int32).toInt = 0 := by decide
        have g25 : (vp_nar .boolean 0).toInt = (0 : Int32).toInt := by rw [h_22]
        refine ok_some.mpr ?_
        exact ⟨hIσ, hfσ, (show 0 ≤ (0 : Int32).toInt by omega), (show (0 : Int32).toInt ≤ 1 by omega)⟩
      · have f26 : (vp_nar .boolean 0).toInt = 0 := by decide
        have f27 : (0 : Int32).toInt = 0 := by decide
        have g28 : (vp_nar .boolean 0).toInt ≠ (0 : Int32).toInt := fun z => h_22 (Int32.toInt_inj.mp z)
        exfalso
        omega
    · have f29 : (1 : Int32).toInt = 1 := by decide
      have f30 : (v1_2 - (1 : Int32)).toInt = v1_2.toInt - (1 : Int32).toInt := isub_toInt (by omega) (by omega)
      have f31 : (v1_2 - 1).toInt64.toInt = (v1_2 - 1).toInt := Int32.toInt_toInt64 _
      have g32 : ¬ (v1_2 - 1).toInt64.toInt < p1.toInt64.toInt := fun z => h_17 (Int64.lt_iff_toInt_lt.mpr z)
      refine ok_some.mpr ?_
      refine ok_some.mpr ?_
      refine ok_ite.mpr ⟨fun h_33 => ?_, fun h_33 => ?_⟩
      · have f34 : (vp_nar .boolean 1).toInt = 1 := by decide
        have f35 : (0 : Int32).toInt = 0 := by decide
        have g36 : (vp_nar .boolean 1).toInt = (0 : Int32).toInt := by rw [h_33]
        exfalso
        omega
      · have f37 : (vp_nar .boolean 1).toInt = 1 := by decide
        have f38 : (0 : Int32).toInt = 0 := by decide
        have g39 : (vp_nar .boolean 1).toInt ≠ (0 : Int32).toInt := fun z => h_33 (Int32.toInt_inj.mp z)
        refine ok_gd.mpr ⟨gb_of (by omega) (by omega), ?_⟩
        refine ok_nm2 (fun v4_3_9_10 ev4_3_9_10 => ?_)
        have qv4_3_9_10 : v4_3_9_10.toInt = (σ.1 26 p1.toNatClampNeg).toInt := congrArg Int32.toInt ev4_3_9_10
        refine ok_ite.mpr ⟨fun h_40 => ?_, fun h_40 => ?_⟩
        · have g41 : v4_3_9_10.toInt = p2.toInt := by rw [h_40]
          refine ok_some.mpr ?_
          exact ⟨hIσ, hfσ, (show 0 ≤ (0 : Int32).toInt by omega), (show (0 : Int32).toInt ≤ 1 by omega)⟩
        · have g42 : v4_3_9_10.toInt ≠ p2.toInt := fun z => h_40 (Int32.toInt_inj.mp z)
          refine ok_gd.mpr ⟨gb_of (by omega) (by omega), ?_⟩
          refine ok_nm2 (fun σ6_3_9_10 eσ6_3_9_10 => ?_)
          have f43 : 0 ≤ (vp_nar .boolean p2).toInt ∧ (vp_nar .boolean p2).toInt ≤ 1 := nar_bool _
          have hIσ6_3_9_10 : JM σ6_3_9_10 := by rw [eσ6_3_9_10]; exact JM_w hIσ (Int32.le_toInt _) (Int32.toInt_le _)
          have hfσ6_3_9_10 : Fr fr_fX10_drop σ σ6_3_9_10 := by rw [eσ6_3_9_10]; exact Fr_w0 hfσ (by decide)
          refine ok_some.mpr ?_
          exact ⟨hIσ6_3_9_10, hfσ6_3_9_10, (show 0 ≤ (1 : Int32).toInt by omega), (show (1 : Int32).toInt ≤ 1 by omega)⟩
set_option maxRecDepth 20000 in
set_option maxHeartbeats 2000000 in
theorem o_fX10_clean {σ : gS} (hIσ : JM σ) {p1 : Int64}  : Ok (fX10_clean σ p1) (fun out => JM out.2 ∧ Fr fr_fX10_clean σ out.2 ∧ -60 ≤ out.1.toInt ∧ out.1.toInt ≤ 20) := by
  unfold fX10_clean
  have hfσ : Fr fr_fX10_clean σ σ := Fr_r
  refine ok_ite.mpr ⟨fun h_1 => ?_, fun h_1 => ?_⟩
  · have f2 : (0 : Int64).toInt = 0 := by decide
    have g3 : (0 : Int64).toInt ≤ p1.toInt := Int64.le_iff_toInt_le.mp h_1
    refine ok_nm2 (fun x2 ex2 => ?_)
    have f4 : (0 : Int32).toInt = 0 := by decide
    have qx2 : x2.toInt = 0 := by rw [ex2]; decide
    refine ok_lpc (I := fun n s => n = (60 + 1 - s.1.toInt).toNat ∧ JM s.2 ∧ Fr fr_fX10_clean σ s.2 ∧ 0 ≤ s.1.toInt ∧ s.1.toInt ≤ 60) (fun rec10_1r n_1 s_1 hs_1 hrec_1 => ?_) K9 ((60 + 1 - x2.toInt).toNat) (x2, σ) ⟨rfl, hIσ, hfσ, (show 0 ≤ x2.toInt by omega), (show x2.toInt ≤ 60 by omega)⟩ (by unfold K9; omega)
    obtain ⟨a3_1, σ1_1⟩ := s_1
    obtain ⟨hn_1, hIσ1_1, hfσ1_1, b0a3_1, b1a3_1⟩ := hs_1
    dsimp only at hn_1 hIσ1_1 hfσ1_1 b0a3_1 b1a3_1
    unfold bX10_clean_10
    try dsimp only
    refine ok_bd.mpr ?_
    try unfold fX10_rows
    have f5 : (9 : Int32).toInt = 9 := by decide
    refine ok_gd.mpr ⟨gb_of (by omega) (by omega), ?_⟩
    refine ok_nm2 (fun v1_39 ev1_39 => ?_)
    have f6 : 0 ≤ (σ1_1.1 15 9).toInt ∧ (σ1_1.1 15 9).toInt ≤ 60 := hIσ1_1 15 9
    have qv1_39 : v1_39.toInt = (σ1_1.1 15 9).toInt := congrArg Int32.toInt ev1_39
    refine ok_some.mpr ?_
    refine ok_ite.mpr ⟨fun h_7 => ?_, fun h_7 => ?_⟩
    · have g8 : v1_39.toInt ≤ a3_1.toInt := Int32.le_iff_toInt_le.mp h_7
      refine ok_nm2 (fun x6_38_40 ex6_38_40 => ?_)
      have qx6_38_40 : x6_38_40.toInt = 0 := by rw [ex6_38_40]; decide
      refine ok_nm2 (fun x7_38_40 ex7_38_40 => ?_)
      have f9 : (1 : Int32).toInt = 1 := by decide
      have qx7_38_40 : x7_38_40.toInt = 1 := by rw [ex7_38_40]; decide
      refine ok_lpc (I := fun n s => n = (21 - s.1.toInt).toNat + s.2.1.toInt.toNat * 22 ∧ JM s.2.2 ∧ Fr fr_fX10_clean σ s.2.2 ∧ 0 ≤ s.1.toInt ∧ s.1.toInt ≤ 20 ∧ 0 ≤ s.2.1.toInt ∧ s.2.1.toInt ≤ 1) (fun rec41_41r n_41 s_41 hs_41 hrec_41 => ?_) K9 ((21 - x6_38_40.toInt).toNat + x7_38_40.toInt.toNat * 22) (x6_38_40, x7_38_40, σ1_1) ⟨rfl, hIσ1_1, hfσ1_1, (show 0 ≤ x6_38_40.toInt by omega), (show x6_38_40.toInt ≤ 20 by omega), (show 0 ≤ x7_38_40.toInt by omega), (show x7_38_40.toInt ≤ 1 by omega)⟩ (by unfold K9; omega)
      obtain ⟨a3_41, a4_41, σ1_41⟩ := s_41
      obtain ⟨hn_41, hIσ1_41, hfσ1_41, b0a3_41, b1a3_41, b0a4_41, b1a4_41⟩ := hs_41
      dsimp only at hn_41 hIσ1_41 hfσ1_41 b0a3_41 b1a3_41 b0a4_41 b1a4_41
      unfold bX10_clean_41
      try dsimp only
      refine ok_ite.mpr ⟨fun h_10 => ?_, fun h_10 => ?_⟩
      · have g11 : a4_41.toInt = (0 : Int32).toInt := by rw [h_10]
        refine ok_nm2 (fun x9_60 ex9_60 => ?_)
        have qx9_60 : x9_60.toInt = 0 := by rw [ex9_60]; decide
        refine ok_nm2 (fun x10_60 ex10_60 => ?_)
        have qx10_60 : x10_60.toInt = 0 := by rw [ex10_60]; decide
        refine ok_lpc (I := fun n s => n = (60 + 1 - s.2.1.toInt).toNat ∧ JM s.2.2 ∧ Fr fr_fX10_clean σ s.2.2 ∧ 0 ≤ s.1.toInt ∧ s.1.toInt ≤ 60 ∧ 0 ≤ s.2.1.toInt ∧ s.2.1.toInt ≤ 60 ∧ s.1.toInt ≤ s.2.1.toInt) (fun rec115_61r n_61 s_61 hs_61 hrec_61 => ?_) K9 ((60 + 1 - x10_60.toInt).toNat) (x9_60, x10_60, σ1_41) ⟨rfl, hIσ1_41, hfσ1_41, (show 0 ≤ x9_60.toInt by omega), (show x9_60.toInt ≤ 60 by omega), (show 0 ≤ x10_60.toInt by omega), (show x10_60.toInt ≤ 60 by omega), (show x9_60.toInt ≤ x10_60.toInt by omega)⟩ (by unfold K9; omega)
        obtain ⟨a5_61, a6_61, σ1_61⟩ := s_61
        obtain ⟨hn_61, hIσ1_61, hfσ1_61, b0a5_61, b1a5_61, b0a6_61, b1a6_61, iv0_61⟩ := hs_61
        dsimp only at hn_61 hIσ1_61 hfσ1_61 b0a5_61 b1a5_61 b0a6_61 b1a6_61 iv0_61
        unfold bX10_clean_115
        try dsimp only
        refine ok_bd.mpr ?_
        try unfold fX10_rows
        refine ok_gd.mpr ⟨gb_of (by omega) (by omega), ?_⟩
        refine ok_nm2 (fun v1_81 ev1_81 => ?_)
        have f12 : 0 ≤ (σ1_61.1 15 9).toInt ∧ (σ1_61.1 15 9).toInt ≤ 60 := hIσ1_61 15 9
        have qv1_81 : v1_81.toInt = (σ1_61.1 15 9).toInt := congrArg Int32.toInt ev1_81
        refine ok_some.mpr ?_
        refine ok_ite.mpr ⟨fun h_13 => ?_, fun h_13 => ?_⟩
        · have g14 : v1_81.toInt ≤ a6_61.toInt := Int32.le_iff_toInt_le.mp h_13
          refine ok_ite.mpr ⟨fun h_15 => ?_, fun h_15 => ?_⟩
          · have g16 : a5_61.toInt ≤ (0 : Int32).toInt := Int32.le_iff_toInt_le.mp h_15
            refine ok_nm2 (fun x15_80_82 ex15_80_82 => ?_)
            have qx15_80_82 : x15_80_82.toInt = 0 := by rw [ex15_80_82]; decide
            refine ok_some.mpr ?_
            have f17 : (a3_41 - a5_61).toInt = a3_41.toInt - a5_61.toInt := isub_toInt (by omega) (by omega)
            exact ⟨hIσ1_61, hfσ1_61, (show -60 ≤ (a3_41 - a5_61).toInt by omega), (show (a3_41 - a5_61).toInt ≤ 20 by omega)⟩
          · have g18 : ¬ a5_61.toInt ≤ (0 : Int32).toInt := fun z => h_15 (Int32.le_iff_toInt_le.mpr z)
            have f19 : (50 : Int32).toInt = 50 := by decide
            refine ok_bd2.mpr ((o_fX10_rests hIσ1_61 (p1 := (50 : Int32)) (by omega) (by omega)).mono (fun o_20 ho_21 => ?_))
            obtain ⟨r17_80_82, σ18_80_82⟩ := o_20
            obtain ⟨hIσ18_80_82, hcσ18_80_82, r0r17_80_82, r1r17_80_82⟩ := ho_21
            dsimp only at hIσ18_80_82 hcσ18_80_82 r0r17_80_82 r1r17_80_82 ⊢
            have hfσ18_80_82 : Fr fr_fX10_clean σ σ18_80_82 := Fr_c hfσ1_61 hcσ18_80_82 (by decide)
            refine ok_nm.mpr ?_
            refine ok_some.mpr ?_
            have f22 : (a3_41 - a5_61).toInt = a3_41.toInt - a5_61.toInt := isub_toInt (by omega) (by omega)
            exact ⟨hIσ18_80_82, hfσ18_80_82, (show -60 ≤ (a3_41 - a5_61).toInt by omega), (show (a3_41 - a5_61).toInt ≤ 20 by omega)⟩
        · have g23 : ¬ v1_81.toInt ≤ a6_61.toInt := fun z => h_13 (Int32.le_iff_toInt_le.mpr z)
          refine ok_gd.mpr ⟨gb_of (by omega) (by omega), ?_⟩
          refine ok_nm2 (fun v20_80_82 ev20_80_82 => ?_)
          have qv20_80_82 : v20_80_82.toInt = (σ1_61.1 26 a6_61.toNatClampNeg).toInt := congrArg Int32.toInt ev20_80_82
          refine ok_ite.mpr ⟨fun h_24 => ?_, fun h_24 => ?_⟩
          · have g25 : v20_80_82.toInt = (0 : Int32).toInt := by rw [h_24]
            refine ok_nm2 (fun x22_80_82 ex22_80_82 => ?_)
            have f26 : (a6_61 + (1 : Int32)).toInt = a6_61.toInt + (1 : Int32).toInt := iadd_toInt (by omega) (by omega)
            have qx22_80_82 : x22_80_82.toInt = (a6_61 + 1).toInt := congrArg Int32.toInt ex22_80_82
            exact hrec_61 _ (a5_61, x22_80_82, σ1_61) (show (60 + 1 - x22_80_82.toInt).toNat < n_61 by omega) ⟨rfl, hIσ1_61, hfσ1_61, (show 0 ≤ a5_61.toInt by omega), (show a5_61.toInt ≤ 60 by omega), (show 0 ≤ x22_80_82.toInt by omega), (show x22_80_82.toInt ≤ 60 by omega), (show a5_61.toInt ≤ x22_80_82.toInt by omega)⟩
          · have g27 : v20_80_82.toInt ≠ (0 : Int32).toInt := fun z => h_24 (Int32.toInt_inj.mp z)
            refine ok_gd.mpr ⟨gb_of (by omega) (by omega), ?_⟩
            refine ok_nm2 (fun v23_80_82 ev23_80_82 => ?_)
            have qv23_80_82 : v23_80_82.toInt = (σ1_61.1 33 a6_61.toNatClampNeg).toInt := congrArg Int32.toInt ev23_80_82
            refine ok_ite.mpr ⟨fun h_28 => ?_, fun h_28 => ?_⟩
            · have g29 : v23_80_82.toInt = (0 : Int32).toInt := by rw [h_28]
              refine ok_bd.mpr ((o_fX10_doubtOf hIσ1_61 (p1 := a6_61) (by omega) (by omega)).mono (fun r27_80_82 ho_31 => ?_))
              refine ok_ite.mpr ⟨fun h_32 => ?_, fun h_32 => ?_⟩
              · have g33 : r27_80_82.toInt ≤ p1.toInt := Int64.le_iff_toInt_le.mp h_32
                refine ok_gd.mpr ⟨gb_of (by omega) (by omega), ?_⟩
                refine ok_nm2 (fun σ29_80_82 eσ29_80_82 => ?_)
                have f34 : (vp_nar .boolean 0).toInt = 0 := by decide
                have hIσ29_80_82 : JM σ29_80_82 := by rw [eσ29_80_82]; exact JM_w hIσ1_61 (Int32.le_toInt _) (Int32.toInt_le _)
                have hfσ29_80_82 : Fr fr_fX10_clean σ σ29_80_82 := by rw [eσ29_80_82]; exact Fr_w0 hfσ1_61 (by decide)
                refine ok_nm2 (fun x30_80_82 ex30_80_82 => ?_)
                have f35 : (a5_61 + (1 : Int32)).toInt = a5_61.toInt + (1 : Int32).toInt := iadd_toInt (by omega) (by omega)
                have qx30_80_82 : x30_80_82.toInt = (a5_61 + 1).toInt := congrArg Int32.toInt ex30_80_82
                refine ok_nm2 (fun x31_80_82 ex31_80_82 => ?_)
                have f36 : (a6_61 + (1 : Int32)).toInt = a6_61.toInt + (1 : Int32).toInt := iadd_toInt (by omega) (by omega)
                have qx31_80_82 : x31_80_82.toInt = (a6_61 + 1).toInt := congrArg Int32.toInt ex31_80_82
                exact hrec_61 _ (x30_80_82, x31_80_82, σ29_80_82) (show (60 + 1 - x31_80_82.toInt).toNat < n_61 by omega) ⟨rfl, hIσ29_80_82, hfσ29_80_82, (show 0 ≤ x30_80_82.toInt by omega), (show x30_80_82.toInt ≤ 60 by omega), (show 0 ≤ x31_80_82.toInt by omega), (show x31_80_82.toInt ≤ 60 by omega), (show x30_80_82.toInt ≤ x31_80_82.toInt by omega)⟩
              · have g37 : ¬ r27_80_82.toInt ≤ p1.toInt := fun z => h_32 (Int64.le_iff_toInt_le.mpr z)
                refine ok_nm2 (fun x32_80_82 ex32_80_82 => ?_)
                have f38 : (a6_61 + (1 : Int32)).toInt = a6_61.toInt + (1 : Int32).toInt := iadd_toInt (by omega) (by omega)
                have qx32_80_82 : x32_80_82.toInt = (a6_61 + 1).toInt := congrArg Int32.toInt ex32_80_82
                exact hrec_61 _ (a5_61, x32_80_82, σ1_61) (show (60 + 1 - x32_80_82.toInt).toNat < n_61 by omega) ⟨rfl, hIσ1_61, hfσ1_61, (show 0 ≤ a5_61.toInt by omega), (show a5_61.toInt ≤ 60 by omega), (show 0 ≤ x32_80_82.toInt by omega), (show x32_80_82.toInt ≤ 60 by omega), (show a5_61.toInt ≤ x32_80_82.toInt by omega)⟩
            · have g39 : v23_80_82.toInt ≠ (0 : Int32).toInt := fun z => h_28 (Int32.toInt_inj.mp z)
              refine ok_nm2 (fun x25_80_82 ex25_80_82 => ?_)
              have f40 : (a6_61 + (1 : Int32)).toInt = a6_61.toInt + (1 : Int32).toInt := iadd_toInt (by omega) (by omega)
              have qx25_80_82 : x25_80_82.toInt = (a6_61 + 1).toInt := congrArg Int32.toInt ex25_80_82
              exact hrec_61 _ (a5_61, x25_80_82, σ1_61) (show (60 + 1 - x25_80_82.toInt).toNat < n_61 by omega) ⟨rfl, hIσ1_61, hfσ1_61, (show 0 ≤ a5_61.toInt by omega), (show a5_61.toInt ≤ 60 by omega), (show 0 ≤ x25_80_82.toInt by omega), (show x25_80_82.toInt ≤ 60 by omega), (show a5_61.toInt ≤ x25_80_82.toInt by omega)⟩
      · have g41 : a4_41.toInt ≠ (0 : Int32).toInt := fun z => h_10 (Int32.toInt_inj.mp z)
        have f42 : (50 : Int32).toInt = 50 := by decide
        refine ok_bd2.mpr ((o_fX10_rests hIσ1_41 (p1 := (50 : Int32)) (by omega) (by omega)).mono (fun o_43 ho_44 => ?_))
        obtain ⟨r34_60, σ35_60⟩ := o_43
        obtain ⟨hIσ35_60, hcσ35_60, r0r34_60, r1r34_60⟩ := ho_44
        dsimp only at hIσ35_60 hcσ35_60 r0r34_60 r1r34_60 ⊢
        have hfσ35_60 : Fr fr_fX10_clean σ σ35_60 := Fr_c hfσ1_41 hcσ35_60 (by decide)
        refine ok_nm.mpr ?_
        refine ok_bd2.mpr ((o_fX10_worstNow hIσ35_60  ).mono (fun o_45 ho_46 => ?_))
        obtain ⟨r38_60_84, σ39_60_84⟩ := o_45
        obtain ⟨hIσ39_60_84, hcσ39_60_84, r0r38_60_84, r1r38_60_84⟩ := ho_46
        dsimp only at hIσ39_60_84 hcσ39_60_84 r0r38_60_84 r1r38_60_84 ⊢
        have hfσ39_60_84 : Fr fr_fX10_clean σ σ39_60_84 := Fr_c hfσ35_60 hcσ39_60_84 (by decide)
        refine ok_nm.mpr ?_
        refine ok_ite.mpr ⟨fun h_47 => ?_, fun h_47 => ?_⟩
        · have f48 : (-1 : Int32).toInt = -1 := by decide
          have g49 : r38_60_84.toInt = (-1 : Int32).toInt := by rw [h_47]
          try unfold jX10_clean_88
          refine ok_nm2 (fun x42_86 ex42_86 => ?_)
          have qx42_86 : x42_86.toInt = 0 := by rw [ex42_86]; decide
          refine ok_ite.mpr ⟨fun h_50 => ?_, fun h_50 => ?_⟩
          · have g51 : x42_86.toInt = (0 : Int32).toInt := by rw [h_50]
            exact hrec_41 _ (a3_41, x42_86, σ39_60_84) (show (21 - a3_41.toInt).toNat + x42_86.toInt.toNat * 22 < n_41 by omega) ⟨rfl, hIσ39_60_84, hfσ39_60_84, (show 0 ≤ a3_41.toInt by omega), (show a3_41.toInt ≤ 20 by omega), (show 0 ≤ x42_86.toInt by omega), (show x42_86.toInt ≤ 1 by omega)⟩
          · have g52 : x42_86.toInt ≠ (0 : Int32).toInt := fun z => h_50 (Int32.toInt_inj.mp z)
            exfalso
            omega
        · have f53 : (-1 : Int32).toInt = -1 := by decide
          have g54 : r38_60_84.toInt ≠ (-1 : Int32).toInt := fun z => h_47 (Int32.toInt_inj.mp z)
          refine ok_bd.mpr ((o_fX10_doubtOf hIσ39_60_84 (p1 := r38_60_84) (by omega) (by omega)).mono (fun r47_60_84_85 ho_56 => ?_))
          refine ok_ite.mpr ⟨fun h_57 => ?_, fun h_57 => ?_⟩
          · have g58 : r47_60_84_85.toInt ≤ p1.toInt := Int64.le_iff_toInt_le.mp h_57
            try unfold jX10_clean_88
            refine ok_nm2 (fun x42_87 ex42_87 => ?_)
            have qx42_87 : x42_87.toInt = 0 := by rw [ex42_87]; decide
            refine ok_ite.mpr ⟨fun h_59 => ?_, fun h_59 => ?_⟩
            · have g60 : x42_87.toInt = (0 : Int32).toInt := by rw [h_59]
              exact hrec_41 _ (a3_41, x42_87, σ39_60_84) (show (21 - a3_41.toInt).toNat + x42_87.toInt.toNat * 22 < n_41 by omega) ⟨rfl, hIσ39_60_84, hfσ39_60_84, (show 0 ≤ a3_41.toInt by omega), (show a3_41.toInt ≤ 20 by omega), (show 0 ≤ x42_87.toInt by omega), (show x42_87.toInt ≤ 1 by omega)⟩
            · have g61 : x42_87.toInt ≠ (0 : Int32).toInt := fun z => h_59 (Int32.toInt_inj.mp z)
              exfalso
              omega
          · have g62 : ¬ r47_60_84_85.toInt ≤ p1.toInt := fun z => h_57 (Int64.le_iff_toInt_le.mpr z)
            refine ok_ite.mpr ⟨fun h_63 => ?_, fun h_63 => ?_⟩
            · have f64 : (20 : Int32).toInt = 20 := by decide
              have g65 : (20 : Int32).toInt ≤ a3_41.toInt := Int32.le_iff_toInt_le.mp h_63
              try unfold jX10_clean_88
              refine ok_nm2 (fun x42_88 ex42_88 => ?_)
              have qx42_88 : x42_88.toInt = 0 := by rw [ex42_88]; decide
              refine ok_ite.mpr ⟨fun h_66 => ?_, fun h_66 => ?_⟩
              · have g67 : x42_88.toInt = (0 : Int32).toInt := by rw [h_66]
                exact hrec_41 _ (a3_41, x42_88, σ39_60_84) (show (21 - a3_41.toInt).toNat + x42_88.toInt.toNat * 22 < n_41 by omega) ⟨rfl, hIσ39_60_84, hfσ39_60_84, (show 0 ≤ a3_41.toInt by omega), (show a3_41.toInt ≤ 20 by omega), (show 0 ≤ x42_88.toInt by omega), (show x42_88.toInt ≤ 1 by omega)⟩
              · have g68 : x42_88.toInt ≠ (0 : Int32).toInt := fun z => h_66 (Int32.toInt_inj.mp z)
                exfalso
                omega
            · have f69 : (20 : Int32).toInt = 20 := by decide
              have g70 : ¬ (20 : Int32).toInt ≤ a3_41.toInt := fun z => h_63 (Int32.le_iff_toInt_le.mpr z)
              try unfold jX10_clean_88
              refine ok_nm2 (fun x42_89 ex42_89 => ?_)
              have qx42_89 : x42_89.toInt = 1 := by rw [ex42_89]; decide
              refine ok_ite.mpr ⟨fun h_71 => ?_, fun h_71 => ?_⟩
              · have g72 : x42_89.toInt = (0 : Int32).toInt := by rw [h_71]
                exfalso
                omega
              · have g73 : x42_89.toInt ≠ (0 : Int32).toInt := fun z => h_71 (Int32.toInt_inj.mp z)
                refine ok_gd.mpr ⟨gb_of (by omega) (by omega), ?_⟩
                refine ok_nm2 (fun σ44_89 eσ44_89 => ?_)
                have f74 : (vp_nar .boolean 1).toInt = 1 := by decide
                have hIσ44_89 : JM σ44_89 := by rw [eσ44_89]; exact JM_w hIσ39_60_84 (Int32.le_toInt _) (Int32.toInt_le _)
                have hfσ44_89 : Fr fr_fX10_clean σ σ44_89 := by rw [eσ44_89]; exact Fr_w0 hfσ39_60_84 (by decide)
                refine ok_nm2 (fun x45_89 ex45_89 => ?_)
                have f75 : (a3_41 + (1 : Int32)).toInt = a3_41.toInt + (1 : Int32).toInt := iadd_toInt (by omega) (by omega)
                have qx45_89 : x45_89.toInt = (a3_41 + 1).toInt := congrArg Int32.toInt ex45_89
                exact hrec_41 _ (x45_89, x42_89, σ44_89) (show (21 - x45_89.toInt).toNat + x42_89.toInt.toNat * 22 < n_41 by omega) ⟨rfl, hIσ44_89, hfσ44_89, (show 0 ≤ x45_89.toInt by omega), (show x45_89.toInt ≤ 20 by omega), (show 0 ≤ x42_89.toInt by omega), (show x42_89.toInt ≤ 1 by omega)⟩
    · have g76 : ¬ v1_39.toInt ≤ a3_1.toInt := fun z => h_7 (Int32.le_iff_toInt_le.mpr z)
      refine ok_gd.mpr ⟨gb_of (by omega) (by omega), ?_⟩
      refine ok_nm2 (fun v50_38_40 ev50_38_40 => ?_)
      have qv50_38_40 : v50_38_40.toInt = (σ1_1.1 26 a3_1.toNatClampNeg).toInt := congrArg Int32.toInt ev50_38_40
      refine ok_gd.mpr ⟨gb_of (by omega) (by omega), ?_⟩
      refine ok_nm2 (fun σ51_38_40 eσ51_38_40 => ?_)
      have f77 : 0 ≤ (vp_nar .boolean v50_38_40).toInt ∧ (vp_nar .boolean v50_38_40).toInt ≤ 1 := nar_bool _
      have hIσ51_38_40 : JM σ51_38_40 := by rw [eσ51_38_40]; exact JM_w hIσ1_1 (Int32.le_toInt _) (Int32.toInt_le _)
      have hfσ51_38_40 : Fr fr_fX10_clean σ σ51_38_40 := by rw [eσ51_38_40]; exact Fr_w0 hfσ1_1 (by decide)
      refine ok_nm2 (fun x52_38_40 ex52_38_40 => ?_)
      have f78 : (1 : Int32).toInt = 1 := by decide
      have f79 : (a3_1 + (1 : Int32)).toInt = a3_1.toInt + (1 : Int32).toInt := iadd_toInt (by omega) (by omega)
      have qx52_38_40 : x52_38_40.toInt = (a3_1 + 1).toInt := congrArg Int32.toInt ex52_38_40
      exact hrec_1 _ (x52_38_40, σ51_38_40) (show (60 + 1 - x52_38_40.toInt).toNat < n_1 by omega) ⟨rfl, hIσ51_38_40, hfσ51_38_40, (show 0 ≤ x52_38_40.toInt by omega), (show x52_38_40.toInt ≤ 60 by omega)⟩
  · have f80 : (0 : Int64).toInt = 0 := by decide
    have g81 : ¬ (0 : Int64).toInt ≤ p1.toInt := fun z => h_1 (Int64.le_iff_toInt_le.mpr z)
    refine ok_some.mpr ?_
    have f82 : (-1 : Int32).toInt = -1 := by decide
    exact ⟨hIσ, hfσ, (show -60 ≤ (-1 : Int32).toInt by omega), (show (-1 : Int32).toInt ≤ 20 by omega)⟩
set_option maxRecDepth 20000 in
set_option maxHeartbeats 2000000 in
theorem o_fX10_areTwo {σ : gS} (hIσ : JM σ) {p1 : Int32} {p2 : Int32}  : Ok (fX10_areTwo σ p1 p2) (fun out => 0 ≤ out.toInt ∧ out.toInt ≤ 1) := by
  unfold fX10_areTwo
  refine ok_bd.mpr ?_
  try unfold fX10_isPicture
  refine ok_bd.mpr ?_
  try unfold fX10_pictures
  have f1 : (7 : Int32).toInt = 7 := by decide
  refine ok_gd.mpr ⟨gb_of (by omega) (by omega), ?_⟩
  refine ok_nm2 (fun v1_2 ev1_2 => ?_)
  have f2 : 0 ≤ (σ.1 15 7).toInt ∧ (σ.1 15 7).toInt ≤ 12 := hIσ 15 7
  have qv1_2 : v1_2.toInt = (σ.1 15 7).toInt := congrArg Int32.toInt ev1_2
  refine ok_some.mpr ?_
  refine ok_bd.mpr ?_
  try unfold fX10_isIn
  refine ok_ite.mpr ⟨fun h_3 => ?_, fun h_3 => ?_⟩
  · have f4 : p1.toInt64.toInt = p1.toInt := Int32.toInt_toInt64 _
    have f5 : (0 : Int64).toInt = 0 := by decide
    have g6 : p1.toInt64.toInt < (0 : Int64).toInt := Int64.lt_iff_toInt_lt.mp h_3
    refine ok_some.mpr ?_
    refine ok_some.mpr ?_
    refine ok_ite.mpr ⟨fun h_7 => ?_, fun h_7 => ?_⟩
    · have f8 : (vp_nar .boolean 0).toInt = 0 := by decide
      have f9 : (0 : Int32).toInt = 0 := by decide
      have g10 : (vp_nar .boolean 0).toInt = (0 : Int32).toInt := by rw [h_7]
      refine ok_some.mpr ?_
      exact ⟨(show 0 ≤ (0 : Int32).toInt by omega), (show (0 : Int32).toInt ≤ 1 by omega)⟩
    · have f11 : (vp_nar .boolean 0).toInt = 0 := by decide
      have f12 : (0 : Int32).toInt = 0 := by decide
      have g13 : (vp_nar .boolean 0).toInt ≠ (0 : Int32).toInt := fun z => h_7 (Int32.toInt_inj.mp z)
      exfalso
      omega
  · have f14 : p1.toInt64.toInt = p1.toInt := Int32.toInt_toInt64 _
    have f15 : (0 : Int64).toInt = 0 := by decide
    have g16 : ¬ p1.toInt64.toInt < (0 : Int64).toInt := fun z => h_3 (Int64.lt_iff_toInt_lt.mpr z)
    refine ok_ite.mpr ⟨fun h_17 => ?_, fun h_17 => ?_⟩
    · have f18 : (1 : Int32).toInt = 1 := by decide
      have f19 : (v1_2 - (1 : Int32)).toInt = v1_2.toInt - (1 : Int32).toInt := isub_toInt (by omega) (by omega)
      have f20 : (v1_2 - 1).toInt64.toInt = (v1_2 - 1).toInt := Int32.toInt_toInt64 _
      have g21 : (v1_2 - 1).toInt64.toInt < p1.toInt64.toInt := Int64.lt_iff_toInt_lt.mp h_17
      refine ok_some.mpr ?_
      refine ok_some.mpr ?_
      refine ok_ite.mpr ⟨fun h_22 => ?_, fun h_22 => ?_⟩
      · have f23 : (vp_nar .boolean 0).toInt = 0 := by decide
        have f24 : (0 : Int32).toInt = 0 := by decide
        have g25 : (vp_nar .boolean 0).toInt = (0 : Int32).toInt := by rw [h_22]
        refine ok_some.mpr ?_
        exact ⟨(show 0 ≤ (0 : Int32).toInt by omega), (show (0 : Int32).toInt ≤ 1 by omega)⟩
      · have f26 : (vp_nar .boolean 0).toInt = 0 := by decide
        have f27 : (0 : Int32).toInt = 0 := by decide
        have g28 : (vp_nar .boolean 0).toInt ≠ (0 : Int32).toInt := fun z => h_22 (Int32.toInt_inj.mp z)
        exfalso
        omega
    · have f29 : (1 : Int32).toInt = 1 := by decide
      have f30 : (v1_2 - (1 : Int32)).toInt = v1_2.toInt - (1 : Int32).toInt := isub_toInt (by omega) (by omega)
      have f31 : (v1_2 - 1).toInt64.toInt = (v1_2 - 1).toInt := Int32.toInt_toInt64 _
      have g32 : ¬ (v1_2 - 1).toInt64.toInt < p1.toInt64.toInt := fun z => h_17 (Int64.lt_iff_toInt_lt.mpr z)
      refine ok_some.mpr ?_
      refine ok_some.mpr ?_
      refine ok_ite.mpr ⟨fun h_33 => ?_, fun h_33 => ?_⟩
      · have f34 : (vp_nar .boolean 1).toInt = 1 := by decide
        have f35 : (0 : Int32).toInt = 0 := by decide
        have g36 : (vp_nar .boolean 1).toInt = (0 : Int32).toInt := by rw [h_33]
        exfalso
        omega
      · have f37 : (vp_nar .boolean 1).toInt = 1 := by decide
        have f38 : (0 : Int32).toInt = 0 := by decide
        have g39 : (vp_nar .boolean 1).toInt ≠ (0 : Int32).toInt := fun z => h_33 (Int32.toInt_inj.mp z)
        refine ok_bd.mpr ?_
        try unfold fX10_isPicture
        refine ok_bd.mpr ?_
        try unfold fX10_pictures
        refine ok_gd.mpr ⟨gb_of (by omega) (by omega), ?_⟩
        refine ok_nm2 (fun v1_12 ev1_12 => ?_)
        have qv1_12 : v1_12.toInt = (σ.1 15 7).toInt := congrArg Int32.toInt ev1_12
        refine ok_some.mpr ?_
        refine ok_bd.mpr ?_
        try unfold fX10_isIn
        refine ok_ite.mpr ⟨fun h_40 => ?_, fun h_40 => ?_⟩
        · have f41 : p2.toInt64.toInt = p2.toInt := Int32.toInt_toInt64 _
          have g42 : p2.toInt64.toInt < (0 : Int64).toInt := Int64.lt_iff_toInt_lt.mp h_40
          refine ok_some.mpr ?_
          refine ok_some.mpr ?_
          refine ok_ite.mpr ⟨fun h_43 => ?_, fun h_43 => ?_⟩
          · have f44 : (vp_nar .boolean 0).toInt = 0 := by decide
            have g45 : (vp_nar .boolean 0).toInt = (0 : Int32).toInt := by rw [h_43]
            refine ok_some.mpr ?_
            exact ⟨(show 0 ≤ (0 : Int32).toInt by omega), (show (0 : Int32).toInt ≤ 1 by omega)⟩
          · have f46 : (vp_nar .boolean 0).toInt = 0 := by decide
            have g47 : (vp_nar .boolean 0).toInt ≠ (0 : Int32).toInt := fun z => h_43 (Int32.toInt_inj.mp z)
            exfalso
            omega
        · have f48 : p2.toInt64.toInt = p2.toInt := Int32.toInt_toInt64 _
          have g49 : ¬ p2.toInt64.toInt < (0 : Int64).toInt := fun z => h_40 (Int64.lt_iff_toInt_lt.mpr z)
          refine ok_ite.mpr ⟨fun h_50 => ?_, fun h_50 => ?_⟩
          · have f51 : (v1_12 - (1 : Int32)).toInt = v1_12.toInt - (1 : Int32).toInt := isub_toInt (by omega) (by omega)
            have f52 : (v1_12 - 1).toInt64.toInt = (v1_12 - 1).toInt := Int32.toInt_toInt64 _
            have g53 : (v1_12 - 1).toInt64.toInt < p2.toInt64.toInt := Int64.lt_iff_toInt_lt.mp h_50
            refine ok_some.mpr ?_
            refine ok_some.mpr ?_
            refine ok_ite.mpr ⟨fun h_54 => ?_, fun h_54 => ?_⟩
            · have f55 : (vp_nar .boolean 0).toInt = 0 := by decide
              have g56 : (vp_nar .boolean 0).toInt = (0 : Int32).toInt := by rw [h_54]
              refine ok_some.mpr ?_
              exact ⟨(show 0 ≤ (0 : Int32).toInt by omega), (show (0 : Int32).toInt ≤ 1 by omega)⟩
            · have f57 : (vp_nar .boolean 0).toInt = 0 := by decide
              have g58 : (vp_nar .boolean 0).toInt ≠ (0 : Int32).toInt := fun z => h_54 (Int32.toInt_inj.mp z)
              exfalso
              omega
          · have f59 : (v1_12 - (1 : Int32)).toInt = v1_12.toInt - (1 : Int32).toInt := isub_toInt (by omega) (by omega)
            have f60 : (v1_12 - 1).toInt64.toInt = (v1_12 - 1).toInt := Int32.toInt_toInt64 _
            have g61 : ¬ (v1_12 - 1).toInt64.toInt < p2.toInt64.toInt := fun z => h_50 (Int64.lt_iff_toInt_lt.mpr z)
            refine ok_some.mpr ?_
            refine ok_some.mpr ?_
            refine ok_ite.mpr ⟨fun h_62 => ?_, fun h_62 => ?_⟩
            · have g63 : (vp_nar .boolean 1).toInt = (0 : Int32).toInt := by rw [h_62]
              exfalso
              omega
            · have g64 : (vp_nar .boolean 1).toInt ≠ (0 : Int32).toInt := fun z => h_62 (Int32.toInt_inj.mp z)
              refine ok_ite.mpr ⟨fun h_65 => ?_, fun h_65 => ?_⟩
              · have g66 : p1.toInt = p2.toInt := by rw [h_65]
                refine ok_some.mpr ?_
                exact ⟨(show 0 ≤ (0 : Int32).toInt by omega), (show (0 : Int32).toInt ≤ 1 by omega)⟩
              · have g67 : p1.toInt ≠ p2.toInt := fun z => h_65 (Int32.toInt_inj.mp z)
                refine ok_some.mpr ?_
                exact ⟨(show 0 ≤ (1 : Int32).toInt by omega), (show (1 : Int32).toInt ≤ 1 by omega)⟩
