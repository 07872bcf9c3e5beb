/-! THE GEOMETRY KEPT: block, sets, drop, measure; doubt, sum, drift -/
section P12ZC
theorem e_2 {σC σM : gS} (h : IG σC σM) : ∃ (oc : Int32 × gS) (om : Int32 × gS), fX9_block σC = some oc ∧ fX10_block σM = some om ∧ IG oc.2 om.2 := by
  obtain ⟨oc, om, eC, eM, -, hI⟩ := c_2 h.1
  obtain ⟨i1, i2, i3, i4, i5, i6, i7, i8⟩ := h.1
  obtain ⟨pc, pm, dC, dM, b1, -, -, -, -, b6⟩ := p_block i1 i2 i3 i4 i5 i8
  rw [eC] at dC
  rw [eM] at dM
  cases dC
  cases dM
  refine ⟨oc, om, eC, eM, hI, ?_⟩
  rcases b6 with ⟨f1, U⟩ | ⟨-, ρ, ω, x, r, q1, q2, jω, T, s1, s2, z, m⟩
  · have kC := k_block_fail i1 eC f1
    have kM := m_block_fail i2 eM (b1.symm.trans f1)
    have m15 : ∀ i, 6 ≤ i → om.2.1 15 i = σM.1 15 i := fun i hi => (U 15 i (by decide) (by decide) hi).1
    have m24 : ∀ i, 120 ≤ i → om.2.1 24 i = σM.1 24 i := fun i hi => (U 24 i (by decide) (by decide) hi).1
    obtain ⟨g1, g2, g3, g4, g5, g6, g7, g8⟩ := h.2
    unfold GE MSd
    rw [kC 47 (by decide), kM.2, m15 7 (by decide), m15 8 (by decide), m15 6 (by decide), m15 9 (by decide), kC 48 (by decide), kM.1 27 (by decide) (by decide), kM.1 28 (by decide) (by decide), kM.1 26 (by decide) (by decide), kC 58 (by decide), kC 13 (by decide), kC 14 (by decide)]
    refine ⟨g1, g2, g3, fun a p ha hp => ?_, fun a p ha hp => ?_, fun a p ha hp => ?_, g7, fun r hr => ?_⟩
    · rw [kC _ (by omega)]; exact g4 a p ha hp
    · rw [kC _ (by omega)]; exact g5 a p ha hp
    · rw [kC _ (by omega)]; exact g6 a p ha hp
    · rw [m24 _ (by omega), m24 _ (by omega)]
      exact g8 r hr
  · have b9 := (JM_n jω).1
    obtain ⟨pc, pm, dC, dM, -, g⟩ := start_2 (JM_n jω) jω T (s1.trans s2.symm) (by rw [s2]; decide) (fun r hr => ⟨by rw [(z r (by omega)).1, (z r (by omega)).2], .inl (z r (by omega)).2⟩) m
    rw [q1] at dC
    rw [q2] at dM
    cases dC
    cases dM
    exact g
theorem e_14 {σC σM : gS} (h : IG σC σM) (x1 : Int32) : ∃ (oc : Int32 × gS) (om : Int32 × gS), fX9_sets σC x1 = some oc ∧ fX10_sets σM x1 = some om ∧ IG oc.2 om.2 := by
  obtain ⟨oc, om, eC, eM, -, hI⟩ := c_14 h.1 x1
  refine ⟨oc, om, eC, eM, hI, ?_⟩
  have z0' := z0
  have l3 : (3 : Int32).toInt = 3 := by decide
  have T := h.1.2.2.2.2.2.2.2
  have n := JM_n h.1.2.1
  unfold fX9_sets at eC
  unfold fX10_sets at eM
  rcases lt_or x1 0 with ⟨a, a'⟩ | ⟨a, a'⟩
  · rw [if_pos a] at eC
    rcases in_32 σM x1 0 3 with ⟨b, b1, b2⟩ | ⟨b, b1⟩
    · omega
    · rw [q_bd (show fX10_isIn σM x1.toInt64 0 3 = some 0 from b), if_pos rfl] at eM
      cases eC
      cases eM
      exact h.2
  rw [if_neg a] at eC
  by_cases c : x1 ≤ 3
  · have c' := Int32.le_iff_toInt_le.mp c
    rw [if_pos c, nm_eq] at eC
    rcases in_32 σM x1 0 3 with ⟨b, b1, b2⟩ | ⟨b, b1⟩
    · rw [q_bd (show fX10_isIn σM x1.toInt64 0 3 = some 1 from b), if_neg one_ne, nm_eq] at eM
      obtain ⟨κ, hκ⟩ : ∃ κ, κ = gsI σC 47 1 x1 := ⟨_, rfl⟩
      obtain ⟨μ, hμ⟩ : ∃ μ, μ = gsI σM 0 36 x1 := ⟨_, rfl⟩
      rw [← hκ] at eC
      rw [← hμ] at eM
      have kr : ∀ k, k ≠ 47 → κ.1 k = σC.1 k := fun k hk => by rw [hκ, gsI_row hk]
      have mr : ∀ k, k ≠ 0 → μ.1 k = σM.1 k := fun k hk => by rw [hμ, gsI_row hk]
      have m15 := mr 15 (by decide)
      have Tκ : TRd κ μ := TR_k T (fun k hk => kr k (by omega)) (fun k k1 k2 => mr k (by omega)) (by rw [hμ]; rfl)
      have wM := wf_gt (gt_ig h)
      have wμ : WF μ := by
        unfold WF
        rw [m15, mr 22 (by decide), mr 23 (by decide), mr 25 (by decide), mr 16 (by decide), mr 18 (by decide), mr 27 (by decide)]
        exact wM
      have e47 : κ.1 47 1 = x1 := by rw [hκ, gsI_at, if_pos rfl]
      have e36 : μ.1 0 36 = x1 := by rw [hμ, gsI_at, if_pos rfl]
      obtain ⟨τ, e5, P1, P2, P3⟩ := k_placeFixed (σ := κ) (n := σM.1 15 8) (by rw [kr 3 (by decide)]; exact (tr_n T).2.1) n.2.1.1 n.2.1.2
      obtain ⟨t, e6, S1, S2, S3, S4⟩ := m_standControls (s := μ) (by rw [m15]; exact n.2.1.1) (by rw [m15]; exact n.2.1.2)
      rw [q_bd e5] at eC
      rw [q_bd e6] at eM
      obtain ⟨r1, -, eC⟩ := bd_some eC
      obtain ⟨r2, -, eM⟩ := bd_some eM
      cases eC
      cases eM
      obtain ⟨g1, g2, g3, g4, g5, g6, g7, g8⟩ := h.2
      have t15 : t.1 15 = σM.1 15 := (S1 15 (by decide)).trans m15
      have fx := fx_of (σ := κ) (s := μ) Tκ wμ (by rw [e47, e36]) (by rw [e36]; omega)
      show GE τ t
      unfold GE MSd
      rw [t15, P1 47 (by decide) (by decide), e47, S1 0 (by decide), e36, P1 48 (by decide) (by decide), kr 48 (by decide), S1 27 (by decide), mr 27 (by decide), P1 58 (by decide) (by decide), kr 58 (by decide), S1 26 (by decide), mr 26 (by decide), P1 13 (by decide) (by decide), kr 13 (by decide), P1 14 (by decide) (by decide), kr 14 (by decide), S1 24 (by decide), mr 24 (by decide)]
      refine ⟨rfl, ⟨by omega, by omega⟩, g3, fun a p ha hp => ?_, fun a q ha hq => ?_, fun a p ha hp => ?_, g7, g8⟩
      · rw [P1 _ (by omega) (by omega), kr _ (by omega), S3 _ (by omega), mr 28 (by decide)]
        exact g4 a p ha hp
      · have X := P3 q hq
        have Y := S4 q (by rw [m15]; exact hq)
        have F := fx q (by rw [m15]; exact hq)
        have Q := T.2.2.2.1 q hq
        have V : τ.1 53 q = t.1 28 (12 + q) ∧ τ.1 54 q = t.1 28 (50 + q) := by
          by_cases z : fixK κ q
          · have zM : ¬ freeM μ q := fun y => z (F.mpr y)
            have z20 : ¬ σM.1 20 (20 + q) = 0 := fun y => z (by rw [kr 16 (by decide), Q.1, y]; exact Int32.zero_and)
            obtain ⟨g1, g2, -⟩ := Q.2.2.2 z20
            rw [(X.1 z).1, (X.1 z).2, (Y.1 zM).1, (Y.1 zM).2, kr 18 (by decide), kr 19 (by decide), mr 21 (by decide), g1, g2]
            exact ⟨rfl, rfl⟩
          · have zM : freeM μ q := F.mp (Decidable.not_not.mp z)
            rw [(X.2 z).1, (X.2 z).2, (Y.2 zM).1, (Y.2 zM).2, kr 53 (by decide), kr 54 (by decide), mr 28 (by decide)]
            have G0 := g5 0 q (by decide) hq
            have G1 := g5 1 q (by decide) hq
            rw [show 38 * 0 + (12 + q) = 12 + q by omega] at G0
            rw [show 38 * 1 + (12 + q) = 50 + q by omega] at G1
            exact ⟨G0, G1⟩
        have ha2 : a = 0 ∨ a = 1 := by omega
        rcases ha2 with rfl | rfl
        · show τ.1 53 q = _
          rw [V.1, show 38 * 0 + (12 + q) = 12 + q by omega]
        · show τ.1 54 q = _
          rw [V.2, show 38 * 1 + (12 + q) = 50 + q by omega]
      · rw [P1 _ (by omega) (by omega), kr _ (by omega), S3 _ (by omega), mr 28 (by decide)]
        exact g6 a p ha hp
    · omega
  · have c' := q_gt c
    rw [if_neg c] at eC
    rcases in_32 σM x1 0 3 with ⟨b, b1, b2⟩ | ⟨b, b1⟩
    · omega
    · rw [q_bd (show fX10_isIn σM x1.toInt64 0 3 = some 0 from b), if_pos rfl] at eM
      cases eC
      cases eM
      exact h.2
/-- one row is dropped, or put back, on both sides -/
theorem GE_drop {σ s : gS} (g : GE σ s) (r : Nat) {v : Int32} (hv : v = 0 ∨ v = 1) : GE (gsI σ 58 r v) (gsI s 26 r v) := by
  obtain ⟨g1, g2, g3, g4, g5, g6, g7, g8⟩ := g
  have c : ∀ k, k ≠ 58 → (gsI σ 58 r v).1 k = σ.1 k := fun k hk => gsI_row hk
  have m : ∀ k, k ≠ 26 → (gsI s 26 r v).1 k = s.1 k := fun k hk => gsI_row hk
  unfold GE MSd
  rw [c 47 (by decide), m 0 (by decide), c 48 (by decide), m 27 (by decide), m 15 (by decide), m 28 (by decide), c 13 (by decide), c 14 (by decide), m 24 (by decide)]
  refine ⟨g1, g2, g3, fun a p ha hp => ?_, fun a p ha hp => ?_, fun a p ha hp => ?_, fun i hi => ?_, g8⟩
  · rw [c _ (by omega)]; exact g4 a p ha hp
  · rw [c _ (by omega)]; exact g5 a p ha hp
  · rw [c _ (by omega)]; exact g6 a p ha hp
  · rw [gsI_at, gsI_at]
    by_cases z : i = r
    · rw [if_pos z, if_pos z]
      exact ⟨rfl, hv⟩
    · rw [if_neg z, if_neg z]
      exact g7 i hi
theorem a_21 {σC σM : gS} (h : IG σC σM) (x1 d : Int32) (hd : d = 0 ∨ d = 1) : ∃ (oc : Int32 × gS) (om : Int32 × gS), fX9_drop σC x1 d = some oc ∧ fX10_drop σM x1 d = some om ∧ oc.1 = om.1 ∧ IG oc.2 om.2 := by
  obtain ⟨oc, om, eC, eM, hI⟩ := g_21 h.1 x1 d
  have n9 := (JM_n h.1.2.1).1
  have en := (IV_n h.1).1
  have eC' := eC
  have eM' := eM
  have eD : fX9_drop σC x1 d = jX9_drop_9 σC x1 d := by
    unfold fX9_drop
    rcases hd with rfl | rfl
    · rw [if_pos rfl]
    · rw [if_neg one_ne]
  rw [eD] at eC'
  unfold jX9_drop_9 at eC'
  unfold fX10_drop at eM'
  rw [nm_eq] at eC'
  rcases ex_2 σC x1 (k := 3) (K := 3) (by decide) (by decide) with ⟨a, a1, a2⟩ | ⟨a, a1⟩ <;> rcases m_isRow2 h.1.2.1 x1 with ⟨b, b1, b2⟩ | ⟨b, b1⟩
  · have gg := gb_of (i := x1) (n := 60) a1 (by omega)
    have e58 := (h.2.2.2.2.2.2.2.1 x1.toInt.toNat (by omega)).1
    rw [q_bd a, if_neg one_ne, q_gd gg, nm_eq, n_toInt, e58] at eC'
    rw [q_bd b, if_neg one_ne, q_gd gg, nm_eq, n_toInt] at eM'
    by_cases z : σM.1 26 x1.toInt.toNat = d
    · rw [if_pos z] at eC' eM'
      cases eC'
      cases eM'
      exact ⟨_, _, eC, eM, rfl, h⟩
    · rw [if_neg z, q_gd gg, nm_eq] at eC' eM'
      rw [vpb hd] at eM'
      cases eC'
      cases eM'
      exact ⟨_, _, eC, eM, rfl, hI, GE_drop h.2 _ hd⟩
  · rw [en] at a2; omega
  · rw [en] at a1; omega
  · rw [q_bd a, if_pos rfl] at eC'
    rw [q_bd b, if_pos rfl] at eM'
    cases eC'
    cases eM'
    exact ⟨_, _, eC, eM, rfl, h⟩
/-- a row is measured, on both sides -/
theorem GE_meas {σ s : gS} (g : GE σ s) (r : Nat) {u v : Int32} (hu : 0 ≤ u.toInt ∧ u.toInt ≤ 9999) (hv : 0 ≤ v.toInt ∧ v.toInt ≤ 9999) : GE (gsI (gsI σ 13 r u) 14 r v) (gsI (gsI s 24 (120 + 2 * r) u) 24 (120 + (2 * r + 1)) v) := by
  obtain ⟨g1, g2, g3, g4, g5, g6, g7, g8⟩ := g
  have c : ∀ k, k ≠ 13 → k ≠ 14 → (gsI (gsI σ 13 r u) 14 r v).1 k = σ.1 k := fun k hk h2 => (gsI_row h2).trans (gsI_row hk)
  have m : ∀ k, k ≠ 24 → (gsI (gsI s 24 (120 + 2 * r) u) 24 (120 + (2 * r + 1)) v).1 k = s.1 k := fun k hk => (gsI_row hk).trans (gsI_row hk)
  unfold GE MSd
  rw [c 47 (by decide) (by decide), m 0 (by decide), c 48 (by decide) (by decide), m 27 (by decide), m 15 (by decide), m 28 (by decide), c 58 (by decide) (by decide), m 26 (by decide)]
  refine ⟨g1, g2, g3, fun a p ha hp => ?_, fun a p ha hp => ?_, fun a p ha hp => ?_, g7, fun i hi => ?_⟩
  · rw [c _ (by omega) (by omega)]; exact g4 a p ha hp
  · rw [c _ (by omega) (by omega)]; exact g5 a p ha hp
  · rw [c _ (by omega) (by omega)]; exact g6 a p ha hp
  · have h13 : (gsI (gsI σ 13 r u) 14 r v).1 13 i = if i = r then u else σ.1 13 i := by rw [gsI_row (by decide), gsI_at]
    have h14 : (gsI (gsI σ 13 r u) 14 r v).1 14 i = if i = r then v else σ.1 14 i := by rw [gsI_at, gsI_row (by decide)]
    have h24 : ∀ j, (gsI (gsI s 24 (120 + 2 * r) u) 24 (120 + (2 * r + 1)) v).1 24 j = if j = 120 + (2 * r + 1) then v else if j = 120 + 2 * r then u else s.1 24 j := fun j => by rw [gsI_at, gsI_at]
    rw [h13, h14, h24, h24]
    by_cases z : i = r
    · rw [if_pos z, if_pos z, z, if_neg (show ¬ 120 + 2 * r = 120 + (2 * r + 1) by omega), if_pos rfl, if_pos rfl]
      exact ⟨rfl, rfl, hu, hv⟩
    · rw [if_neg z, if_neg z, if_neg (show ¬ 120 + 2 * i = 120 + (2 * r + 1) by omega), if_neg (show ¬ 120 + 2 * i = 120 + 2 * r by omega), if_neg (show ¬ 120 + (2 * i + 1) = 120 + (2 * r + 1) by omega), if_neg (show ¬ 120 + (2 * i + 1) = 120 + 2 * r by omega)]
      exact g8 i hi
theorem k_setM (σ : gS) {r u v : Int32} (r0 : 0 ≤ r.toInt) (r1 : r.toInt ≤ 59) : fX8_setMeasured_2 σ r u v = some (gsI (gsI σ 13 r.toInt.toNat u) 14 r.toInt.toNat v) := by
  have g := gb_of (i := r) (n := 60) r0 (by omega)
  unfold fX8_setMeasured_2
  rw [q_gd (by decide), q_gd g, nm_eq, q_gd (by decide), q_gd g, nm_eq]
  rfl
theorem m_meas (σ : gS) {r u v : Int32} (r0 : 0 ≤ r.toInt) (r1 : r.toInt ≤ 59) : fX10_measures σ r u v = some (gsI (gsI σ 24 (120 + 2 * r.toInt.toNat) u) 24 (120 + (2 * r.toInt.toNat + 1)) v) := by
  have l1 : (1 : Int32).toInt = 1 := by decide
  have l120 : (120 : Int32).toInt = 120 := by decide
  have m2 : (2 * r).toInt = 2 * r.toInt := imulc (by decide) (by omega) (by omega)
  have m120 : (120 + 2 * r).toInt = 120 + 2 * r.toInt := by rw [iadd_toInt] <;> omega
  have m121 : (120 + 2 * r + 1).toInt = 121 + 2 * r.toInt := by rw [iadd_toInt] <;> omega
  have k1 : (120 + 2 * r).toNatClampNeg = 120 + 2 * r.toInt.toNat := by rw [n_toInt]; omega
  have k2 : (120 + 2 * r + 1).toNatClampNeg = 120 + (2 * r.toInt.toNat + 1) := by rw [n_toInt]; omega
  unfold fX10_measures
  rw [q_gd (gb_of (by omega) (by omega)), nm_eq, k1, q_gd (gb_of (by omega) (by omega)), nm_eq, k2]
theorem e_30 {σC σM : gS} (h : IG σC σM) (x1 x2 x3 : Int32) : ∃ (oc : Int32 × gS) (om : Int32 × gS), fX9_measure σC x1 x2 x3 = some oc ∧ fX10_measure σM x1 x2 x3 = some om ∧ IG oc.2 om.2 := by
  obtain ⟨oc, om, eC, eM, hI⟩ := g_30 h.1 x1 x2 x3
  refine ⟨oc, om, eC, eM, hI, ?_⟩
  have n9 := (JM_n h.1.2.1).1
  unfold fX9_measure at eC
  unfold fX10_measure at eM
  have e := (IV_n h.1).1
  rcases c_can σC x1 x2 x3 with ⟨a, a1⟩ | ⟨a, a1⟩ <;> rcases m_can h.1.2.1 x1 x2 x3 with ⟨b, b1⟩ | ⟨b, b1⟩
  · rw [q_bd a, if_neg one_ne, q_bd (k_setM σC b1.1.1 (by have := b1.1; omega))] at eC
    rw [q_bd b, if_neg one_ne, q_bd (m_meas σM b1.1.1 (by have := b1.1; omega))] at eM
    cases eC
    cases eM
    exact GE_meas h.2 _ b1.2.1 b1.2.2
  · rw [e] at a1; exact absurd a1 b1
  · rw [← e] at b1; exact absurd b1 a1
  · rw [q_bd a, if_pos rfl] at eC
    rw [q_bd b, if_pos rfl] at eM
    cases eC
    cases eM
    exact h.2
theorem a_19 {σC σM : gS} (h : IG σC σM) (x1 : Int32) : ∃ (oc : Int64) (om : Int64), fX9_doubt σC x1 = some oc ∧ fX10_doubt σM x1 = some om ∧ oc = om ∧ IG σC σM := by
  have n9 := (JM_n h.1.2.1).1
  have en := (IV_n h.1).1
  unfold fX9_doubt fX10_doubt
  rcases ex_2 σC x1 (k := 3) (K := 3) (by decide) (by decide) with ⟨a, a1, a2⟩ | ⟨a, a1⟩ <;> rcases m_isRow2 h.1.2.1 x1 with ⟨b, b1, b2⟩ | ⟨b, b1⟩
  · have d := db_2 ⟨h.1.2.1, h.1.2.2.2.2.2.2.2⟩ h.2 (r := x1) b1 b2
    rw [q_bd a, q_bd b, if_neg one_ne, if_neg one_ne, q_bd d.1, q_bd d.2]
    exact ⟨_, _, rfl, rfl, rfl, h⟩
  · rw [en] at a2; omega
  · rw [en] at a1; omega
  · rw [q_bd a, q_bd b, if_pos rfl, if_pos rfl]
    exact ⟨_, _, rfl, rfl, rfl, h⟩
end P12ZC
