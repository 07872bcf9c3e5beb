/-! THE IMAGE'S BYTES KEPT; octet -/
section P12ZW
noncomputable def IO (σC σM : gS) : Prop := IG σC σM ∧ OC σC σM
theorem OC_fr {LC LM : List (Nat × Nat)} {σC σM τC τM : gS} (g : OC σC σM) (FC : Fr LC σC τC) (FM : Fr LM σM τM) (hC : ∀ q ∈ LC, q.1 ≠ 198 ∧ q ≠ (197, 0) ∧ q ≠ (197, 3)) (hM : ∀ q ∈ LM, q.1 ≠ 40 ∧ q ≠ (0, 0) ∧ q ≠ (0, 57)) : OC τC τM := by
  unfold OC
  rw [(FC 197 2 (fun z => (hC _ z).2.1 rfl) (fun z => (hC _ z).2.2 rfl)).1, (FM 0 56 (fun z => (hM _ z).2.1 rfl) (fun z => (hM _ z).2.2 rfl)).1, Fr_row FC 198 (fun q hq z => (hC q hq).1 z), Fr_row FM 40 (fun q hq z => (hM q hq).1 z)]
  exact g
theorem y_0 {σC σM : gS} (h : IO σC σM) (x1 x2 x3 x4 x5 : Int32) : ∃ (oc : Int32 × gS) (om : Int32 × gS), fX9_feed σC x1 x2 x3 x4 x5 = some oc ∧ fX10_feed σM x1 x2 x3 x4 x5 = some om ∧ IO oc.2 om.2 := by
  obtain ⟨oc, om, eC, eM, hI⟩ := e_0 h.1 x1 x2 x3 x4 x5
  obtain ⟨pc, dC, hC⟩ := o_fX9_feed h.1.1.1 (p1 := x1) (p2 := x2) (p3 := x3) (p4 := x4) (p5 := x5)
  obtain ⟨pm, dM, hM⟩ := o_fX10_feed h.1.1.2.1 (p1 := x1) (p2 := x2) (p3 := x3) (p4 := x4) (p5 := x5)
  rw [eC] at dC
  rw [eM] at dM
  cases dC
  cases dM
  exact ⟨oc, om, eC, eM, hI, OC_fr h.2 hC.2.1 hM.2.1 (by decide) (by decide)⟩
theorem y_1 {σC σM : gS} (h : IO σC σM) (x1 : Int32) : ∃ (oc : Int32 × gS) (om : Int32 × gS), fX9_end σC x1 = some oc ∧ fX10_end σM x1 = some om ∧ IO oc.2 om.2 := by
  obtain ⟨oc, om, eC, eM, hI⟩ := e_1 h.1 x1
  obtain ⟨pc, dC, hC⟩ := o_fX9_end h.1.1.1 (p1 := x1)
  obtain ⟨pm, dM, hM⟩ := o_fX10_end h.1.1.2.1 (p1 := x1)
  rw [eC] at dC
  rw [eM] at dM
  cases dC
  cases dM
  exact ⟨oc, om, eC, eM, hI, OC_fr h.2 hC.2.1 hM.2.1 (by decide) (by decide)⟩
theorem y_2 {σC σM : gS} (h : IO σC σM) : ∃ (oc : Int32 × gS) (om : Int32 × gS), fX9_block σC = some oc ∧ fX10_block σM = some om ∧ IO oc.2 om.2 := by
  obtain ⟨oc, om, eC, eM, hI⟩ := e_2 h.1
  obtain ⟨pc, dC, hC⟩ := o_fX9_block h.1.1.1
  obtain ⟨pm, dM, hM⟩ := o_fX10_block h.1.1.2.1
  rw [eC] at dC
  rw [eM] at dM
  cases dC
  cases dM
  exact ⟨oc, om, eC, eM, hI, OC_fr h.2 hC.2.1 hM.2.1 (by decide) (by decide)⟩
theorem y_3 {σC σM : gS} (h : IO σC σM) (x1 : Int32) : ∃ (oc : Int32) (om : Int32), fX9_fault σC x1 = some oc ∧ fX10_fault σM x1 = some om ∧ IO σC σM := by
  obtain ⟨oc, om, eC, eM, -⟩ := e_3 h.1 x1
  exact ⟨oc, om, eC, eM, h⟩
theorem y_4 {σC σM : gS} (h : IO σC σM) (x1 : Int32) : ∃ (oc : Int32) (om : Int32), fX9_has σC x1 = some oc ∧ fX10_has σM x1 = some om ∧ IO σC σM := by
  obtain ⟨oc, om, eC, eM, -⟩ := e_4 h.1 x1
  exact ⟨oc, om, eC, eM, h⟩
theorem y_5 {σC σM : gS} (h : IO σC σM) (x1 x2 x3 : Int32) : ∃ (oc : Int32) (om : Int32), fX9_letter σC x1 x2 x3 = some oc ∧ fX10_letter σM x1 x2 x3 = some om ∧ IO σC σM := by
  obtain ⟨oc, om, eC, eM, -⟩ := e_5 h.1 x1 x2 x3
  exact ⟨oc, om, eC, eM, h⟩
theorem y_6 {σC σM : gS} (h : IO σC σM) (x1 x2 : Int32) : ∃ (oc : Int32 × gS) (om : Int32 × gS), fX9_picture σC x1 x2 = some oc ∧ fX10_picture σM x1 x2 = some om ∧ IO oc.2 om.2 := by
  obtain ⟨oc, om, eC, eM, hI⟩ := e_6 h.1 x1 x2
  obtain ⟨pc, dC, hC⟩ := o_fX9_picture h.1.1.1 (p1 := x1) (p2 := x2)
  obtain ⟨pm, dM, hM⟩ := o_fX10_picture h.1.1.2.1 (p1 := x1) (p2 := x2)
  rw [eC] at dC
  rw [eM] at dM
  cases dC
  cases dM
  exact ⟨oc, om, eC, eM, hI, OC_fr h.2 hC.2 hM.2 (by decide) (by decide)⟩
theorem y_7 {σC σM : gS} (h : IO σC σM) (x1 x2 : Int32) : ∃ (oc : Int32 × gS) (om : Int32 × gS), fX9_point σC x1 x2 = some oc ∧ fX10_point σM x1 x2 = some om ∧ IO oc.2 om.2 := by
  obtain ⟨oc, om, eC, eM, hI⟩ := e_7 h.1 x1 x2
  obtain ⟨pc, dC, hC⟩ := o_fX9_point h.1.1.1 (p1 := x1) (p2 := x2)
  obtain ⟨pm, dM, hM⟩ := o_fX10_point h.1.1.2.1 (p1 := x1) (p2 := x2)
  rw [eC] at dC
  rw [eM] at dM
  cases dC
  cases dM
  exact ⟨oc, om, eC, eM, hI, OC_fr h.2 hC.2 hM.2 (by decide) (by decide)⟩
theorem y_8 {σC σM : gS} (h : IO σC σM) (x1 x2 : Int32) : ∃ (oc : Int32 × gS) (om : Int32 × gS), fX9_row σC x1 x2 = some oc ∧ fX10_row σM x1 x2 = some om ∧ IO oc.2 om.2 := by
  obtain ⟨oc, om, eC, eM, -, hI⟩ := a_8 h.1 x1 x2
  obtain ⟨pc, dC, hC⟩ := o_fX9_row h.1.1.1 (p1 := x1) (p2 := x2)
  obtain ⟨pm, dM, hM⟩ := o_fX10_row h.1.1.2.1 (p1 := x1) (p2 := x2)
  rw [eC] at dC
  rw [eM] at dM
  cases dC
  cases dM
  exact ⟨oc, om, eC, eM, hI, OC_fr h.2 hC.2 hM.2 (by decide) (by decide)⟩
theorem y_9 {σC σM : gS} (h : IO σC σM) (x1 x2 : Int32) : ∃ (oc : Int32) (om : Int32), fX9_drift σC x1 x2 = some oc ∧ fX10_drift σM x1 x2 = some om ∧ IO σC σM := by
  obtain ⟨oc, om, eC, eM, -⟩ := e_9 h.1 x1 x2
  exact ⟨oc, om, eC, eM, h⟩
theorem y_10 {σC σM : gS} (h : IO σC σM) : ∃ (oc : Int32 × gS) (om : Int32 × gS), fX9_start σC = some oc ∧ fX10_start σM = some om ∧ IO oc.2 om.2 := by
  obtain ⟨oc, om, eC, eM, -, hI⟩ := a_10 h.1
  obtain ⟨pc, dC, hC⟩ := o_fX9_start h.1.1.1
  obtain ⟨pm, dM, hM⟩ := o_fX10_start h.1.1.2.1
  rw [eC] at dC
  rw [eM] at dM
  cases dC
  cases dM
  exact ⟨oc, om, eC, eM, hI, OC_fr h.2 hC.2 hM.2 (by decide) (by decide)⟩
theorem y_11 {σC σM : gS} (h : IO σC σM) (x1 : Int32) : ∃ (oc : Int32 × gS) (om : Int32 × gS), fX9_rounds σC x1 = some oc ∧ fX10_rounds σM x1 = some om ∧ IO oc.2 om.2 := by
  obtain ⟨oc, om, eC, eM, -, hI⟩ := a_11 h.1 x1
  obtain ⟨pc, dC, hC⟩ := o_fX9_rounds h.1.1.1 (p1 := x1)
  obtain ⟨pm, dM, hM⟩ := o_fX10_rounds h.1.1.2.1 (p1 := x1)
  rw [eC] at dC
  rw [eM] at dM
  cases dC
  cases dM
  exact ⟨oc, om, eC, eM, hI, OC_fr h.2 hC.2.1 hM.2.1 (by decide) (by decide)⟩
theorem y_12 {σC σM : gS} (h : IO σC σM) : ∃ (oc : Int64) (om : Int64), fX9_sum σC = some oc ∧ fX10_sum σM = some om ∧ IO σC σM := by
  obtain ⟨oc, om, eC, eM, -⟩ := e_12 h.1
  exact ⟨oc, om, eC, eM, h⟩
theorem y_13 {σC σM : gS} (h : IO σC σM) (x1 x2 x3 : Int32) : ∃ (oc : Int32 × gS) (om : Int32 × gS), fX9_whole σC x1 x2 x3 = some oc ∧ fX10_whole σM x1 x2 x3 = some om ∧ IO oc.2 om.2 := by
  obtain ⟨oc, om, eC, eM, hI⟩ := e_13 h.1 x1 x2 x3
  obtain ⟨pc, dC, hC⟩ := o_fX9_whole h.1.1.1 (p1 := x1) (p2 := x2) (p3 := x3)
  obtain ⟨pm, dM, hM⟩ := o_fX10_whole h.1.1.2.1 (p1 := x1) (p2 := x2) (p3 := x3) (TR_RM h.1.1.2.2.2.2.2.2.2)
  rw [eC] at dC
  rw [eM] at dM
  cases dC
  cases dM
  exact ⟨oc, om, eC, eM, hI, OC_fr h.2 hC.2 hM.2 (by decide) (by decide)⟩
theorem y_14 {σC σM : gS} (h : IO σC σM) (x1 : Int32) : ∃ (oc : Int32 × gS) (om : Int32 × gS), fX9_sets σC x1 = some oc ∧ fX10_sets σM x1 = some om ∧ IO oc.2 om.2 := by
  obtain ⟨oc, om, eC, eM, hI⟩ := e_14 h.1 x1
  obtain ⟨pc, dC, hC⟩ := o_fX9_sets h.1.1.1 (p1 := x1)
  obtain ⟨pm, dM, hM⟩ := o_fX10_sets h.1.1.2.1 (p1 := x1)
  rw [eC] at dC
  rw [eM] at dM
  cases dC
  cases dM
  exact ⟨oc, om, eC, eM, hI, OC_fr h.2 hC.2 hM.2 (by decide) (by decide)⟩
theorem y_15 {σC σM : gS} (h : IO σC σM) : ∃ (oc : Int32 × gS) (om : Int32 × gS), fX9_parts σC = some oc ∧ fX10_parts σM = some om ∧ IO oc.2 om.2 := by
  obtain ⟨oc, om, eC, eM, hI⟩ := e_15 h.1
  obtain ⟨pc, dC, hC⟩ := o_fX9_parts h.1.1.1
  obtain ⟨pm, dM, hM⟩ := o_fX10_parts h.1.1.2.1
  rw [eC] at dC
  rw [eM] at dM
  cases dC
  cases dM
  exact ⟨oc, om, eC, eM, hI, OC_fr h.2 hC.2 hM.2 (by decide) (by decide)⟩
theorem y_16 {σC σM : gS} (h : IO σC σM) (x1 x2 : Int32) : ∃ (oc : Int32 × gS) (om : Int32 × gS), fX9_hang σC x1 x2 = some oc ∧ fX10_hang σM x1 x2 = some om ∧ IO oc.2 om.2 := by
  obtain ⟨oc, om, eC, eM, hI⟩ := e_16 h.1 x1 x2
  obtain ⟨pc, dC, hC⟩ := o_fX9_hang h.1.1.1 (p1 := x1) (p2 := x2)
  obtain ⟨pm, dM, hM⟩ := o_fX10_hang h.1.1.2.1 (p1 := x1) (p2 := x2)
  rw [eC] at dC
  rw [eM] at dM
  cases dC
  cases dM
  exact ⟨oc, om, eC, eM, hI, OC_fr h.2 hC.2.1 hM.2.1 (by decide) (by decide)⟩
theorem y_17 {σC σM : gS} (h : IO σC σM) : ∃ (oc : Int32 × gS) (om : Int32 × gS), fX9_blind σC = some oc ∧ fX10_blind σM = some om ∧ IO oc.2 om.2 := by
  obtain ⟨oc, om, eC, eM, -, hI⟩ := a_17 h.1
  obtain ⟨pc, dC, hC⟩ := o_fX9_blind h.1.1.1
  obtain ⟨pm, dM, hM⟩ := o_fX10_blind h.1.1.2.1
  rw [eC] at dC
  rw [eM] at dM
  cases dC
  cases dM
  exact ⟨oc, om, eC, eM, hI, OC_fr h.2 hC.2 hM.2 (by decide) (by decide)⟩
theorem y_18 {σC σM : gS} (h : IO σC σM) (x1 : Int32) : ∃ (oc : Int32 × gS) (om : Int32 × gS), fX9_needs σC x1 = some oc ∧ fX10_needs σM x1 = some om ∧ IO oc.2 om.2 := by
  obtain ⟨oc, om, eC, eM, -, hI⟩ := a_18 h.1 x1
  obtain ⟨pc, dC, hC⟩ := o_fX9_needs h.1.1.1 (p1 := x1)
  obtain ⟨pm, dM, hM⟩ := o_fX10_needs h.1.1.2.1 (p1 := x1)
  rw [eC] at dC
  rw [eM] at dM
  cases dC
  cases dM
  exact ⟨oc, om, eC, eM, hI, OC_fr h.2 hC.2 hM.2 (by decide) (by decide)⟩
theorem y_19 {σC σM : gS} (h : IO σC σM) (x1 : Int32) : ∃ (oc : Int64) (om : Int64), fX9_doubt σC x1 = some oc ∧ fX10_doubt σM x1 = some om ∧ IO σC σM := by
  obtain ⟨oc, om, eC, eM, -⟩ := e_19 h.1 x1
  exact ⟨oc, om, eC, eM, h⟩
theorem y_20 {σC σM : gS} (h : IO σC σM) : ∃ (oc : Int32 × gS) (om : Int32 × gS), fX9_worst σC = some oc ∧ fX10_worst σM = some om ∧ IO oc.2 om.2 := by
  obtain ⟨oc, om, eC, eM, hI⟩ := e_20 h.1
  obtain ⟨pc, dC, hC⟩ := o_fX9_worst h.1.1.1
  obtain ⟨pm, dM, hM⟩ := o_fX10_worst h.1.1.2.1
  rw [eC] at dC
  rw [eM] at dM
  cases dC
  cases dM
  exact ⟨oc, om, eC, eM, hI, OC_fr h.2 hC.2.1 hM.2.1 (by decide) (by decide)⟩
theorem y_21 {σC σM : gS} (h : IO σC σM) (x1 x2 : Int32) (hd : x2 = 0 ∨ x2 = 1) : ∃ (oc : Int32 × gS) (om : Int32 × gS), fX9_drop σC x1 x2 = some oc ∧ fX10_drop σM x1 x2 = some om ∧ IO oc.2 om.2 := by
  obtain ⟨oc, om, eC, eM, -, hI⟩ := a_21 h.1 x1 x2 hd
  obtain ⟨pc, dC, hC⟩ := o_fX9_drop h.1.1.1 (p1 := x1) (p2 := x2)
  obtain ⟨pm, dM, hM⟩ := o_fX10_drop h.1.1.2.1 (p1 := x1) (p2 := x2)
  rw [eC] at dC
  rw [eM] at dM
  cases dC
  cases dM
  exact ⟨oc, om, eC, eM, hI, OC_fr h.2 hC.2.1 hM.2.1 (by decide) (by decide)⟩
theorem y_22 {σC σM : gS} (h : IO σC σM) (x1 : Int64) : ∃ (oc : Int32 × gS) (om : Int32 × gS), fX9_clean σC x1 = some oc ∧ fX10_clean σM x1 = some om ∧ IO oc.2 om.2 := by
  obtain ⟨oc, om, eC, eM, -, hI⟩ := a_22 h.1 x1
  obtain ⟨pc, dC, hC⟩ := o_fX9_clean h.1.1.1 (p1 := x1)
  obtain ⟨pm, dM, hM⟩ := o_fX10_clean h.1.1.2.1 (p1 := x1)
  rw [eC] at dC
  rw [eM] at dM
  cases dC
  cases dM
  exact ⟨oc, om, eC, eM, hI, OC_fr h.2 hC.2 hM.2.1 (by decide) (by decide)⟩
theorem y_23 {σC σM : gS} (h : IO σC σM) (x1 x2 x3 : Int32) : ∃ (oc : Int32 × gS) (om : Int32), fX9_tie σC x1 x2 x3 = some oc ∧ fX10_tie σM x1 x2 x3 = some om ∧ IO oc.2 σM := by
  obtain ⟨oc, om, eC, eM, hI⟩ := e_23 h.1 x1 x2 x3
  obtain ⟨pc, dC, hC⟩ := o_fX9_tie h.1.1.1 (p1 := x1) (p2 := x2) (p3 := x3)
  rw [eC] at dC
  cases dC
  exact ⟨oc, om, eC, eM, hI, OC_fr h.2 hC.2 (Fr_r (L := [])) (by decide) (by decide)⟩
theorem y_24 {σC σM : gS} (h : IO σC σM) (x1 x2 x3 x4 : Int32) : ∃ (oc : Int32 × gS) (om : Int32), fX9_loop σC x1 x2 x3 x4 = some oc ∧ fX10_loop σM x1 x2 x3 x4 = some om ∧ IO oc.2 σM := by
  obtain ⟨oc, om, eC, eM, hI⟩ := e_24 h.1 x1 x2 x3 x4
  obtain ⟨pc, dC, hC⟩ := o_fX9_loop h.1.1.1 (p1 := x1) (p2 := x2) (p3 := x3) (p4 := x4)
  rw [eC] at dC
  cases dC
  exact ⟨oc, om, eC, eM, hI, OC_fr h.2 hC.2 (Fr_r (L := [])) (by decide) (by decide)⟩
theorem y_25 {σC σM : gS} (h : IO σC σM) (x1 : Int32) : ∃ (oc : Int32 × gS) (om : Int32), fX9_gap σC x1 = some oc ∧ fX10_gap σM x1 = some om ∧ IO oc.2 σM := by
  obtain ⟨oc, om, eC, eM, hI⟩ := e_25 h.1 x1
  obtain ⟨pc, dC, hC⟩ := o_fX9_gap h.1.1.1 (p1 := x1)
  rw [eC] at dC
  cases dC
  exact ⟨oc, om, eC, eM, hI, OC_fr h.2 hC.2 (Fr_r (L := [])) (by decide) (by decide)⟩
theorem y_26 {σC σM : gS} (h : IO σC σM) (x1 : Int32) : ∃ (oc : Int32 × gS) (om : Int32 × gS), fX9_tree σC x1 = some oc ∧ fX10_tree σM x1 = some om ∧ IO oc.2 om.2 := by
  obtain ⟨oc, om, eC, eM, hI⟩ := e_26 h.1 x1
  obtain ⟨pc, dC, hC⟩ := o_fX9_tree h.1.1.1 (p1 := x1)
  obtain ⟨pm, dM, hM⟩ := o_fX10_tree h.1.1.2.1 (p1 := x1)
  rw [eC] at dC
  rw [eM] at dM
  cases dC
  cases dM
  exact ⟨oc, om, eC, eM, hI, OC_fr h.2 hC.2.1 hM.2 (by decide) (by decide)⟩
theorem y_27 {σC σM : gS} (h : IO σC σM) (x1 : Int32) : ∃ (oc : Int32 × gS) (om : Int32 × gS), fX9_plan σC x1 = some oc ∧ fX10_plan σM x1 = some om ∧ IO oc.2 om.2 := by
  obtain ⟨oc, om, eC, eM, hI⟩ := e_27 h.1 x1
  obtain ⟨pc, dC, hC⟩ := o_fX9_plan h.1.1.1 (p1 := x1)
  obtain ⟨pm, dM, hM⟩ := o_fX10_plan h.1.1.2.1 (p1 := x1)
  rw [eC] at dC
  rw [eM] at dM
  cases dC
  cases dM
  exact ⟨oc, om, eC, eM, hI, OC_fr h.2 hC.2 hM.2 (by decide) (by decide)⟩
theorem y_28 {σC σM : gS} (h : IO σC σM) (x1 x2 : Int32) : ∃ (oc : Int32 × gS) (om : Int32 × gS), fX9_differ σC x1 x2 = some oc ∧ fX10_differ σM x1 x2 = some om ∧ IO oc.2 om.2 := by
  obtain ⟨oc, om, eC, eM, -, hI⟩ := a_28 h.1 x1 x2
  obtain ⟨pc, dC, hC⟩ := o_fX9_differ h.1.1.1 (p1 := x1) (p2 := x2)
  obtain ⟨pm, dM, hM⟩ := o_fX10_differ h.1.1.2.1 (p1 := x1) (p2 := x2)
  rw [eC] at dC
  rw [eM] at dM
  cases dC
  cases dM
  exact ⟨oc, om, eC, eM, hI, OC_fr h.2 hC.2 hM.2 (by decide) (by decide)⟩
theorem y_29 {σC σM : gS} (h : IO σC σM) (x1 x2 x3 x4 : Int32) : ∃ (oc : Int32 × gS) (om : Int32 × gS), fX9_alters σC x1 x2 x3 x4 = some oc ∧ fX10_alters σM x1 x2 x3 x4 = some om ∧ IO oc.2 om.2 := by
  obtain ⟨oc, om, eC, eM, hI⟩ := e_29 h.1 x1 x2 x3 x4
  obtain ⟨pc, dC, hC⟩ := o_fX9_alters h.1.1.1 (p1 := x1) (p2 := x2) (p3 := x3) (p4 := x4)
  obtain ⟨pm, dM, hM⟩ := o_fX10_alters h.1.1.2.1 (p1 := x1) (p2 := x2) (p3 := x3) (p4 := x4)
  rw [eC] at dC
  rw [eM] at dM
  cases dC
  cases dM
  exact ⟨oc, om, eC, eM, hI, OC_fr h.2 hC.2 hM.2 (by decide) (by decide)⟩
theorem y_30 {σC σM : gS} (h : IO σC σM) (x1 x2 x3 : Int32) : ∃ (oc : Int32 × gS) (om : Int32 × gS), fX9_measure σC x1 x2 x3 = some oc ∧ fX10_measure σM x1 x2 x3 = some om ∧ IO oc.2 om.2 := by
  obtain ⟨oc, om, eC, eM, hI⟩ := e_30 h.1 x1 x2 x3
  obtain ⟨pc, dC, hC⟩ := o_fX9_measure h.1.1.1 (p1 := x1) (p2 := x2) (p3 := x3)
  obtain ⟨pm, dM, hM⟩ := o_fX10_measure h.1.1.2.1 (p1 := x1) (p2 := x2) (p3 := x3)
  rw [eC] at dC
  rw [eM] at dM
  cases dC
  cases dM
  exact ⟨oc, om, eC, eM, hI, OC_fr h.2 hC.2.1 hM.2.1 (by decide) (by decide)⟩
theorem y_31 {σC σM : gS} (h : IO σC σM) (x1 x2 x3 : Int32) : ∃ (oc : Int32 × gS) (om : Int32 × gS), fX9_slips σC x1 x2 x3 = some oc ∧ fX10_slips σM x1 x2 x3 = some om ∧ IO oc.2 om.2 := by
  obtain ⟨oc, om, eC, eM, hI⟩ := e_31 h.1 x1 x2 x3
  obtain ⟨pc, dC, hC⟩ := o_fX9_slips h.1.1.1 (p1 := x1) (p2 := x2) (p3 := x3)
  obtain ⟨pm, dM, hM⟩ := o_fX10_slips h.1.1.2.1 (p1 := x1) (p2 := x2) (p3 := x3)
  rw [eC] at dC
  rw [eM] at dM
  cases dC
  cases dM
  exact ⟨oc, om, eC, eM, hI, OC_fr h.2 hC.2 hM.2 (by decide) (by decide)⟩
theorem y_32 {σC σM : gS} (h : IO σC σM) : ∃ (oc : Int32 × gS) (om : Int32 × gS), fX9_image σC = some oc ∧ fX10_image σM = some om ∧ IO oc.2 om.2 := by
  obtain ⟨oc, om, eC, eM, hI⟩ := e_32 h.1
  obtain ⟨pc, pm, dC, dM, -, g⟩ := image_2 (gt_ig h.1)
  rw [eC] at dC
  rw [eM] at dM
  cases dC
  cases dM
  exact ⟨oc, om, eC, eM, hI, g⟩
theorem a_33 {σC σM : gS} (h : IO σC σM) (x1 : Int32) : ∃ (oc : Int32) (om : Int32), fX9_octet σC x1 = some oc ∧ fX10_octet σM x1 = some om ∧ oc = om ∧ IO σC σM := by
  obtain ⟨v, v1, v2⟩ := octet_2 h.2 x1
  exact ⟨v, v, v1, v2, rfl, h⟩
theorem y_34 {σC σM : gS} (h : IO σC σM) : ∃ (oc : Int32 × gS) (om : Int32 × gS), fX9_on σC = some oc ∧ fX10_on σM = some om ∧ IO oc.2 om.2 := by
  obtain ⟨oc, om, eC, eM, hI⟩ := e_34 h.1
  obtain ⟨pc, dC, hC⟩ := o_fX9_on h.1.1.1
  obtain ⟨pm, dM, hM⟩ := o_fX10_on h.1.1.2.1
  rw [eC] at dC
  rw [eM] at dM
  cases dC
  cases dM
  exact ⟨oc, om, eC, eM, hI, OC_fr h.2 hC.2.1 hM.2.1 (by decide) (by decide)⟩
end P12ZW
