/-! WHOLE, 12: controls stand behind every call; whole -/
section P12ZZS
def IW9 (σC σM : gS) : Prop := IG σC σM ∧ CO9 σM
theorem fr_cell9 {s t : gS} {q : Nat} (hq : q < 20) (h : t.1 20 (20 + q) = s.1 20 (20 + q)) (h36 : t.1 0 36 = s.1 0 36) : freeM t q ↔ freeM s q := by
  have e : (Int32.ofNat q).toInt = q := iofNat_toInt (by omega)
  have l20 : (20 : Int32).toInt = 20 := by decide
  have e2 : (20 + Int32.ofNat q).toInt = 20 + q := by rw [iadd_toInt] <;> omega
  have n2 : (20 + Int32.ofNat q).toNatClampNeg = 20 + q := by rw [n_toInt]; omega
  unfold freeM fX10_isControl
  rw [n2, h, h36]
theorem kc_fr9 {L : List (Nat × Nat)} {s t : gS} (co : CO9 s) (F : Fr L s t) (hL : ∀ q ∈ L, q ≠ (0, 0) ∧ q ≠ (0, 37) ∧ q.1 ∉ [15, 20, 21, 28]) : CO9 t := KQ9_co (KQ9_fr F hL) co
theorem block_co {σC σM : gS} (h : IG σC σM) (co : CO9 σM) {oc om : Int32 × gS} (eC : fX9_block σC = some oc) (eM : fX10_block σM = some om) : CO9 om.2 := by
  obtain ⟨i1, i2, i3, i4, i5, i6, i7, i8⟩ := h.1
  obtain ⟨pc, pm, dC, dM, b1, -, -, -, -, b6⟩ := p_block i1 i2 i3 i4 i5 i8
  rw [eC] at dC
  rw [eM] at dM
  cases dC
  cases dM
  have b8 := (JM_n i2).2.1
  rcases b6 with ⟨f1, U⟩ | ⟨-, ρ, ω, x, r, q1, q2, jω, -⟩
  · have kM := m_block_fail i2 eM (b1.symm.trans f1)
    have m15 : ∀ i, 6 ≤ i → om.2.1 15 i = σM.1 15 i := fun i hi => (U 15 i (by decide) (by decide) hi).1
    have m20 : ∀ i, 20 ≤ i → om.2.1 20 i = σM.1 20 i := fun i hi => (U 20 i (by decide) (by decide) hi).1
    have m21 : ∀ i, 40 ≤ i → om.2.1 21 i = σM.1 21 i := fun i hi => (U 21 i (by decide) (by decide) hi).1
    intro q hq hf
    rw [m15 8 (by decide)] at hq
    have hf' : ¬ freeM σM q := fun z => hf ((fr_cell9 (by omega) (m20 _ (by omega)) kM.2).mpr z)
    rw [kM.1 28 (by decide) (by decide), m21 _ (by omega), m21 _ (by omega)]
    exact co q hq hf'
  · exact starts_co jω (r, om.2) q2
theorem v_0 {σC σM : gS} (h : IW9 σC σM) (x1 x2 x3 x4 x5 : Int32) : ∃ (oc : Int32 × gS) (om : Int32 × gS), fX9_feed σC x1 x2 x3 x4 x5 = some oc ∧ fX10_feed σM x1 x2 x3 x4 x5 = some om ∧ IW9 oc.2 om.2 := by
  obtain ⟨oc, om, eC, eM, hI⟩ := e_0 h.1 x1 x2 x3 x4 x5
  obtain ⟨pm, dM, hM⟩ := o_fX10_feed h.1.1.2.1 (p1 := x1) (p2 := x2) (p3 := x3) (p4 := x4) (p5 := x5)
  rw [eM] at dM
  cases dM
  exact ⟨oc, om, eC, eM, hI, kc_fr9 h.2 hM.2.1 (by decide)⟩
theorem v_1 {σC σM : gS} (h : IW9 σC σM) (x1 : Int32) : ∃ (oc : Int32 × gS) (om : Int32 × gS), fX9_end σC x1 = some oc ∧ fX10_end σM x1 = some om ∧ IW9 oc.2 om.2 := by
  obtain ⟨oc, om, eC, eM, hI⟩ := e_1 h.1 x1
  obtain ⟨pm, dM, hM⟩ := o_fX10_end h.1.1.2.1 (p1 := x1)
  rw [eM] at dM
  cases dM
  exact ⟨oc, om, eC, eM, hI, kc_fr9 h.2 hM.2.1 (by decide)⟩
theorem v_2 {σC σM : gS} (h : IW9 σC σM) : ∃ (oc : Int32 × gS) (om : Int32 × gS), fX9_block σC = some oc ∧ fX10_block σM = some om ∧ IW9 oc.2 om.2 := by
  obtain ⟨oc, om, eC, eM, hI⟩ := e_2 h.1
  exact ⟨oc, om, eC, eM, hI, block_co h.1 h.2 eC eM⟩
theorem v_3 {σC σM : gS} (h : IW9 σC σM) (x1 : Int32) : ∃ (oc : Int32) (om : Int32), fX9_fault σC x1 = some oc ∧ fX10_fault σM x1 = some om ∧ IW9 σC σM := by
  obtain ⟨oc, om, eC, eM, -⟩ := e_3 h.1 x1
  exact ⟨oc, om, eC, eM, h⟩
theorem v_4 {σC σM : gS} (h : IW9 σC σM) (x1 : Int32) : ∃ (oc : Int32) (om : Int32), fX9_has σC x1 = some oc ∧ fX10_has σM x1 = some om ∧ IW9 σC σM := by
  obtain ⟨oc, om, eC, eM, -⟩ := e_4 h.1 x1
  exact ⟨oc, om, eC, eM, h⟩
theorem v_5 {σC σM : gS} (h : IW9 σC σM) (x1 x2 x3 : Int32) : ∃ (oc : Int32) (om : Int32), fX9_letter σC x1 x2 x3 = some oc ∧ fX10_letter σM x1 x2 x3 = some om ∧ IW9 σC σM := by
  obtain ⟨oc, om, eC, eM, -⟩ := e_5 h.1 x1 x2 x3
  exact ⟨oc, om, eC, eM, h⟩
theorem v_6 {σC σM : gS} (h : IW9 σC σM) (x1 x2 : Int32) : ∃ (oc : Int32 × gS) (om : Int32 × gS), fX9_picture σC x1 x2 = some oc ∧ fX10_picture σM x1 x2 = some om ∧ IW9 oc.2 om.2 := by
  obtain ⟨oc, om, eC, eM, hI⟩ := e_6 h.1 x1 x2
  obtain ⟨pm, dM, hM⟩ := o_fX10_picture h.1.1.2.1 (p1 := x1) (p2 := x2)
  rw [eM] at dM
  cases dM
  exact ⟨oc, om, eC, eM, hI, kc_fr9 h.2 hM.2 (by decide)⟩
theorem v_7 {σC σM : gS} (h : IW9 σC σM) (x1 x2 : Int32) : ∃ (oc : Int32 × gS) (om : Int32 × gS), fX9_point σC x1 x2 = some oc ∧ fX10_point σM x1 x2 = some om ∧ IW9 oc.2 om.2 := by
  obtain ⟨oc, om, eC, eM, hI⟩ := e_7 h.1 x1 x2
  obtain ⟨pm, dM, hM⟩ := o_fX10_point h.1.1.2.1 (p1 := x1) (p2 := x2)
  rw [eM] at dM
  cases dM
  exact ⟨oc, om, eC, eM, hI, kc_fr9 h.2 hM.2 (by decide)⟩
theorem v_8 {σC σM : gS} (h : IW9 σC σM) (x1 x2 : Int32) : ∃ (oc : Int32 × gS) (om : Int32 × gS), fX9_row σC x1 x2 = some oc ∧ fX10_row σM x1 x2 = some om ∧ IW9 oc.2 om.2 := by
  obtain ⟨oc, om, eC, eM, -, hI⟩ := a_8 h.1 x1 x2
  obtain ⟨pm, dM, hM⟩ := o_fX10_row h.1.1.2.1 (p1 := x1) (p2 := x2)
  rw [eM] at dM
  cases dM
  exact ⟨oc, om, eC, eM, hI, kc_fr9 h.2 hM.2 (by decide)⟩
theorem v_9 {σC σM : gS} (h : IW9 σC σM) (x1 x2 : Int32) : ∃ (oc : Int32) (om : Int32), fX9_drift σC x1 x2 = some oc ∧ fX10_drift σM x1 x2 = some om ∧ IW9 σC σM := by
  obtain ⟨oc, om, eC, eM, -⟩ := e_9 h.1 x1 x2
  exact ⟨oc, om, eC, eM, h⟩
theorem v_10 {σC σM : gS} (h : IW9 σC σM) : ∃ (oc : Int32 × gS) (om : Int32 × gS), fX9_start σC = some oc ∧ fX10_start σM = some om ∧ IW9 oc.2 om.2 := by
  obtain ⟨oc, om, eC, eM, -, hI⟩ := a_10 h.1
  exact ⟨oc, om, eC, eM, hI, (show Pa9 (fX10_start σM) (fun o => CO9 o.2) by
    unfold fX10_start
    exact pa_bd2 (fun r u e => pa_some (starts_co h.1.1.2.1 _ e))) _ eM⟩
theorem v_11 {σC σM : gS} (h : IW9 σC σM) (x1 : Int32) : ∃ (oc : Int32 × gS) (om : Int32 × gS), fX9_rounds σC x1 = some oc ∧ fX10_rounds σM x1 = some om ∧ IW9 oc.2 om.2 := by
  obtain ⟨oc, om, eC, eM, -, hI⟩ := a_11 h.1 x1
  exact ⟨oc, om, eC, eM, hI, (show Pa9 (fX10_rounds σM x1) (fun o => CO9 o.2) by
    unfold fX10_rounds
    exact pa_bd (fun _ _ => pa_ite (fun _ => pa_some h.2) (fun _ => pa_bd2 (fun r u e => pa_some (KQ9_co (rests_kq (wf_gt (gt_ig h.1)) x1 _ e).1 h.2))))) _ eM⟩
theorem v_12 {σC σM : gS} (h : IW9 σC σM) : ∃ (oc : Int64) (om : Int64), fX9_sum σC = some oc ∧ fX10_sum σM = some om ∧ IW9 σC σM := by
  obtain ⟨oc, om, eC, eM, -⟩ := e_12 h.1
  exact ⟨oc, om, eC, eM, h⟩
theorem v_13 {σC σM : gS} (h : IW9 σC σM) (x1 x2 x3 : Int32) : ∃ (oc : Int32 × gS) (om : Int32 × gS), fX9_whole σC x1 x2 x3 = some oc ∧ fX10_whole σM x1 x2 x3 = some om ∧ IW9 oc.2 om.2 := by
  obtain ⟨oc, om, eC, eM, hI⟩ := e_13 h.1 x1 x2 x3
  obtain ⟨pm, dM, hM⟩ := o_fX10_whole h.1.1.2.1 (p1 := x1) (p2 := x2) (p3 := x3) (TR_RM h.1.1.2.2.2.2.2.2.2)
  rw [eM] at dM
  cases dM
  exact ⟨oc, om, eC, eM, hI, kc_fr9 h.2 hM.2 (by decide)⟩
theorem v_14 {σC σM : gS} (h : IW9 σC σM) (x1 : Int32) : ∃ (oc : Int32 × gS) (om : Int32 × gS), fX9_sets σC x1 = some oc ∧ fX10_sets σM x1 = some om ∧ IW9 oc.2 om.2 := by
  obtain ⟨oc, om, eC, eM, hI⟩ := e_14 h.1 x1
  exact ⟨oc, om, eC, eM, hI, sets_co h.1.1.2.1 h.2 x1 _ eM⟩
theorem v_15 {σC σM : gS} (h : IW9 σC σM) : ∃ (oc : Int32 × gS) (om : Int32 × gS), fX9_parts σC = some oc ∧ fX10_parts σM = some om ∧ IW9 oc.2 om.2 := by
  obtain ⟨oc, om, eC, eM, hI⟩ := e_15 h.1
  obtain ⟨pm, dM, hM⟩ := o_fX10_parts h.1.1.2.1
  rw [eM] at dM
  cases dM
  exact ⟨oc, om, eC, eM, hI, kc_fr9 h.2 hM.2 (by decide)⟩
theorem v_16 {σC σM : gS} (h : IW9 σC σM) (x1 x2 : Int32) : ∃ (oc : Int32 × gS) (om : Int32 × gS), fX9_hang σC x1 x2 = some oc ∧ fX10_hang σM x1 x2 = some om ∧ IW9 oc.2 om.2 := by
  obtain ⟨oc, om, eC, eM, hI⟩ := e_16 h.1 x1 x2
  obtain ⟨pm, dM, hM⟩ := o_fX10_hang h.1.1.2.1 (p1 := x1) (p2 := x2)
  rw [eM] at dM
  cases dM
  exact ⟨oc, om, eC, eM, hI, kc_fr9 h.2 hM.2.1 (by decide)⟩
theorem v_17 {σC σM : gS} (h : IW9 σC σM) : ∃ (oc : Int32 × gS) (om : Int32 × gS), fX9_blind σC = some oc ∧ fX10_blind σM = some om ∧ IW9 oc.2 om.2 := by
  obtain ⟨oc, om, eC, eM, -, hI⟩ := a_17 h.1
  obtain ⟨pm, dM, hM⟩ := o_fX10_blind h.1.1.2.1
  rw [eM] at dM
  cases dM
  exact ⟨oc, om, eC, eM, hI, kc_fr9 h.2 hM.2 (by decide)⟩
theorem v_18 {σC σM : gS} (h : IW9 σC σM) (x1 : Int32) : ∃ (oc : Int32 × gS) (om : Int32 × gS), fX9_needs σC x1 = some oc ∧ fX10_needs σM x1 = some om ∧ IW9 oc.2 om.2 := by
  obtain ⟨oc, om, eC, eM, -, hI⟩ := a_18 h.1 x1
  obtain ⟨pm, dM, hM⟩ := o_fX10_needs h.1.1.2.1 (p1 := x1)
  rw [eM] at dM
  cases dM
  exact ⟨oc, om, eC, eM, hI, kc_fr9 h.2 hM.2 (by decide)⟩
theorem v_19 {σC σM : gS} (h : IW9 σC σM) (x1 : Int32) : ∃ (oc : Int64) (om : Int64), fX9_doubt σC x1 = some oc ∧ fX10_doubt σM x1 = some om ∧ IW9 σC σM := by
  obtain ⟨oc, om, eC, eM, -⟩ := e_19 h.1 x1
  exact ⟨oc, om, eC, eM, h⟩
theorem v_20 {σC σM : gS} (h : IW9 σC σM) : ∃ (oc : Int32 × gS) (om : Int32 × gS), fX9_worst σC = some oc ∧ fX10_worst σM = some om ∧ IW9 oc.2 om.2 := by
  obtain ⟨oc, om, eC, eM, hI⟩ := e_20 h.1
  obtain ⟨pm, dM, hM⟩ := o_fX10_worst h.1.1.2.1
  rw [eM] at dM
  cases dM
  exact ⟨oc, om, eC, eM, hI, kc_fr9 h.2 hM.2.1 (by decide)⟩
theorem v_21 {σC σM : gS} (h : IW9 σC σM) (x1 x2 : Int32) (hd : x2 = 0 ∨ x2 = 1) : ∃ (oc : Int32 × gS) (om : Int32 × gS), fX9_drop σC x1 x2 = some oc ∧ fX10_drop σM x1 x2 = some om ∧ IW9 oc.2 om.2 := by
  obtain ⟨oc, om, eC, eM, -, hI⟩ := a_21 h.1 x1 x2 hd
  obtain ⟨pm, dM, hM⟩ := o_fX10_drop h.1.1.2.1 (p1 := x1) (p2 := x2)
  rw [eM] at dM
  cases dM
  exact ⟨oc, om, eC, eM, hI, kc_fr9 h.2 hM.2.1 (by decide)⟩
theorem v_22 {σC σM : gS} (h : IW9 σC σM) (x1 : Int64) : ∃ (oc : Int32 × gS) (om : Int32 × gS), fX9_clean σC x1 = some oc ∧ fX10_clean σM x1 = some om ∧ IW9 oc.2 om.2 := by
  obtain ⟨oc, om, eC, eM, -, hI⟩ := a_22 h.1 x1
  exact ⟨oc, om, eC, eM, hI, KQ9_co (clean_kq h.1.1.2.1 (wf_gt (gt_ig h.1)) x1 _ eM) h.2⟩
theorem v_23 {σC σM : gS} (h : IW9 σC σM) (x1 x2 x3 : Int32) : ∃ (oc : Int32 × gS) (om : Int32), fX9_tie σC x1 x2 x3 = some oc ∧ fX10_tie σM x1 x2 x3 = some om ∧ IW9 oc.2 σM := by
  obtain ⟨oc, om, eC, eM, hI⟩ := e_23 h.1 x1 x2 x3
  exact ⟨oc, om, eC, eM, hI, h.2⟩
theorem v_24 {σC σM : gS} (h : IW9 σC σM) (x1 x2 x3 x4 : Int32) : ∃ (oc : Int32 × gS) (om : Int32), fX9_loop σC x1 x2 x3 x4 = some oc ∧ fX10_loop σM x1 x2 x3 x4 = some om ∧ IW9 oc.2 σM := by
  obtain ⟨oc, om, eC, eM, hI⟩ := e_24 h.1 x1 x2 x3 x4
  exact ⟨oc, om, eC, eM, hI, h.2⟩
theorem v_25 {σC σM : gS} (h : IW9 σC σM) (x1 : Int32) : ∃ (oc : Int32 × gS) (om : Int32), fX9_gap σC x1 = some oc ∧ fX10_gap σM x1 = some om ∧ IW9 oc.2 σM := by
  obtain ⟨oc, om, eC, eM, hI⟩ := e_25 h.1 x1
  exact ⟨oc, om, eC, eM, hI, h.2⟩
theorem v_26 {σC σM : gS} (h : IW9 σC σM) (x1 : Int32) : ∃ (oc : Int32 × gS) (om : Int32 × gS), fX9_tree σC x1 = some oc ∧ fX10_tree σM x1 = some om ∧ IW9 oc.2 om.2 := by
  obtain ⟨oc, om, eC, eM, hI⟩ := e_26 h.1 x1
  obtain ⟨pm, dM, hM⟩ := o_fX10_tree h.1.1.2.1 (p1 := x1)
  rw [eM] at dM
  cases dM
  exact ⟨oc, om, eC, eM, hI, kc_fr9 h.2 hM.2 (by decide)⟩
theorem v_27 {σC σM : gS} (h : IW9 σC σM) (x1 : Int32) : ∃ (oc : Int32 × gS) (om : Int32 × gS), fX9_plan σC x1 = some oc ∧ fX10_plan σM x1 = some om ∧ IW9 oc.2 om.2 := by
  obtain ⟨oc, om, eC, eM, hI⟩ := e_27 h.1 x1
  obtain ⟨pm, dM, hM⟩ := o_fX10_plan h.1.1.2.1 (p1 := x1)
  rw [eM] at dM
  cases dM
  exact ⟨oc, om, eC, eM, hI, kc_fr9 h.2 hM.2 (by decide)⟩
theorem v_28 {σC σM : gS} (h : IW9 σC σM) (x1 x2 : Int32) : ∃ (oc : Int32 × gS) (om : Int32 × gS), fX9_differ σC x1 x2 = some oc ∧ fX10_differ σM x1 x2 = some om ∧ IW9 oc.2 om.2 := by
  obtain ⟨oc, om, eC, eM, -, hI⟩ := a_28 h.1 x1 x2
  exact ⟨oc, om, eC, eM, hI, KQ9_co (differ_kq h.1.1.2.1 x1 x2 _ eM) h.2⟩
theorem v_29 {σC σM : gS} (h : IW9 σC σM) (x1 x2 x3 x4 : Int32) : ∃ (oc : Int32 × gS) (om : Int32 × gS), fX9_alters σC x1 x2 x3 x4 = some oc ∧ fX10_alters σM x1 x2 x3 x4 = some om ∧ IW9 oc.2 om.2 := by
  obtain ⟨oc, om, eC, eM, hI⟩ := e_29 h.1 x1 x2 x3 x4
  exact ⟨oc, om, eC, eM, hI, KQ9_co (alters_kq h.1.1.2.1 x1 x2 x3 x4 _ eM) h.2⟩
theorem v_30 {σC σM : gS} (h : IW9 σC σM) (x1 x2 x3 : Int32) : ∃ (oc : Int32 × gS) (om : Int32 × gS), fX9_measure σC x1 x2 x3 = some oc ∧ fX10_measure σM x1 x2 x3 = some om ∧ IW9 oc.2 om.2 := by
  obtain ⟨oc, om, eC, eM, hI⟩ := e_30 h.1 x1 x2 x3
  obtain ⟨pm, dM, hM⟩ := o_fX10_measure h.1.1.2.1 (p1 := x1) (p2 := x2) (p3 := x3)
  rw [eM] at dM
  cases dM
  exact ⟨oc, om, eC, eM, hI, kc_fr9 h.2 hM.2.1 (by decide)⟩
theorem v_31 {σC σM : gS} (h : IW9 σC σM) (x1 x2 x3 : Int32) : ∃ (oc : Int32 × gS) (om : Int32 × gS), fX9_slips σC x1 x2 x3 = some oc ∧ fX10_slips σM x1 x2 x3 = some om ∧ IW9 oc.2 om.2 := by
  obtain ⟨oc, om, eC, eM, hI⟩ := e_31 h.1 x1 x2 x3
  obtain ⟨pm, dM, hM⟩ := o_fX10_slips h.1.1.2.1 (p1 := x1) (p2 := x2) (p3 := x3)
  rw [eM] at dM
  cases dM
  exact ⟨oc, om, eC, eM, hI, kc_fr9 h.2 hM.2 (by decide)⟩
theorem v_32 {σC σM : gS} (h : IW9 σC σM) : ∃ (oc : Int32 × gS) (om : Int32 × gS), fX9_image σC = some oc ∧ fX10_image σM = some om ∧ IW9 oc.2 om.2 := by
  obtain ⟨oc, om, eC, eM, hI⟩ := e_32 h.1
  obtain ⟨pm, dM, hM⟩ := o_fX10_image h.1.1.2.1
  rw [eM] at dM
  cases dM
  exact ⟨oc, om, eC, eM, hI, kc_fr9 h.2 hM.2.1 (by decide)⟩
theorem v_33 {σC σM : gS} (h : IW9 σC σM) (x1 : Int32) : ∃ (oc : Int32) (om : Int32), fX9_octet σC x1 = some oc ∧ fX10_octet σM x1 = some om ∧ IW9 σC σM := by
  obtain ⟨oc, om, eC, eM, -⟩ := e_33 h.1 x1
  exact ⟨oc, om, eC, eM, h⟩
theorem v_34 {σC σM : gS} (h : IW9 σC σM) : ∃ (oc : Int32 × gS) (om : Int32 × gS), fX9_on σC = some oc ∧ fX10_on σM = some om ∧ IW9 oc.2 om.2 := by
  obtain ⟨oc, om, eC, eM, hI⟩ := e_34 h.1
  exact ⟨oc, om, eC, eM, hI, on_co h.1.1.2.1 h.2 _ eM⟩
theorem a_13 {σC σM : gS} (h : IW9 σC σM) (x1 x2 x3 : Int32) : ∃ (oc : Int32 × gS) (om : Int32 × gS), fX9_whole σC x1 x2 x3 = some oc ∧ fX10_whole σM x1 x2 x3 = some om ∧ oc.1 = om.1 ∧ IW9 oc.2 om.2 := by
  obtain ⟨oc, om, eC, eM, hI⟩ := v_13 h x1 x2 x3
  obtain ⟨pc, pm, dC, dM, e⟩ := whole_9 (gt_ig h.1) h.2 x1 x2 x3
  rw [eC] at dC
  rw [eM] at dM
  cases dC
  cases dM
  exact ⟨oc, om, eC, eM, e, hI⟩
end P12ZZS
