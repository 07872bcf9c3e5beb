/-! THE GEOMETRY KEPT: calls that alter nothing of it (printed) -/
section P12Z
noncomputable def IG (σC σM : gS) : Prop := IV σC σM ∧ GE σC σM
theorem GE_fr {LC LM : List (Nat × Nat)} {σC σM τC τM : gS} (g : GE σC σM) (FC : Fr LC σC τC) (FM : Fr LM σM τM) (hC : ∀ q ∈ LC, q.1 ∉ [13, 14, 47, 48, 50, 51, 53, 54, 56, 57, 58]) (hM : ∀ q ∈ LM, q ≠ (0, 0) ∧ q ≠ (0, 37) ∧ q.1 ∉ [15, 24, 26, 27, 28]) : GE τC τM := by
  obtain ⟨g1, g2, g3, g4, g5, g6, g7, g8⟩ := g
  have c : ∀ k, k ∈ [13, 14, 47, 48, 50, 51, 53, 54, 56, 57, 58] → τC.1 k = σC.1 k := fun k hk => Fr_row FC k (fun q hq z => hC q hq (by rw [z]; exact hk))
  have m : ∀ k, k ∈ [15, 24, 26, 27, 28] → τM.1 k = σM.1 k := fun k hk => Fr_row FM k (fun q hq z => (hM q hq).2.2 (by rw [z]; exact hk))
  have m36 : τM.1 0 36 = σM.1 0 36 := (FM 0 36 (fun z => (hM _ z).1 rfl) (fun z => (hM _ z).2.1 rfl)).1
  unfold GE MSd
  rw [c 47 (by decide), m36, c 48 (by decide), m 27 (by decide), m 28 (by decide), m 15 (by decide), c 58 (by decide), m 26 (by decide), c 13 (by decide), c 14 (by decide), m 24 (by decide)]
  refine ⟨g1, g2, g3, fun a p ha hp => ?_, fun a p ha hp => ?_, fun a p ha hp => ?_, g7, g8⟩
  · rw [c (50 + a) (by have hj : a = 0 ∨ a = 1 := by omega
                       rcases hj with rfl | rfl <;> decide)]
    exact g4 a p ha hp
  · rw [c (53 + a) (by have hj : a = 0 ∨ a = 1 := by omega
                       rcases hj with rfl | rfl <;> decide)]
    exact g5 a p ha hp
  · rw [c (56 + a) (by have hj : a = 0 ∨ a = 1 := by omega
                       rcases hj with rfl | rfl <;> decide)]
    exact g6 a p ha hp
theorem e_6 {σC σM : gS} (h : IG σC σM) (x1 x2 : Int32) : ∃ (oc : Int32 × gS) (om : Int32 × gS), fX9_picture σC x1 x2 = some oc ∧ fX10_picture σM x1 x2 = some om ∧ IG oc.2 om.2 := by
  obtain ⟨oc, eC, hC⟩ := o_fX9_picture h.1.1 (p1 := x1) (p2 := x2)
  obtain ⟨om, eM, hM⟩ := o_fX10_picture h.1.2.1 (p1 := x1) (p2 := x2)
  exact ⟨oc, om, eC, eM, ⟨IV_fr h.1 hC.1 hM.1 hC.2 hM.2 (by decide) (by decide) (by decide), GE_fr h.2 hC.2 hM.2 (by decide) (by decide)⟩⟩
theorem e_7 {σC σM : gS} (h : IG σC σM) (x1 x2 : Int32) : ∃ (oc : Int32 × gS) (om : Int32 × gS), fX9_point σC x1 x2 = some oc ∧ fX10_point σM x1 x2 = some om ∧ IG oc.2 om.2 := by
  obtain ⟨oc, eC, hC⟩ := o_fX9_point h.1.1 (p1 := x1) (p2 := x2)
  obtain ⟨om, eM, hM⟩ := o_fX10_point h.1.2.1 (p1 := x1) (p2 := x2)
  exact ⟨oc, om, eC, eM, ⟨IV_fr h.1 hC.1 hM.1 hC.2 hM.2 (by decide) (by decide) (by decide), GE_fr h.2 hC.2 hM.2 (by decide) (by decide)⟩⟩
theorem e_13 {σC σM : gS} (h : IG σC σM) (x1 x2 x3 : Int32) : ∃ (oc : Int32 × gS) (om : Int32 × gS), fX9_whole σC x1 x2 x3 = some oc ∧ fX10_whole σM x1 x2 x3 = some om ∧ IG oc.2 om.2 := by
  obtain ⟨oc, eC, hC⟩ := o_fX9_whole h.1.1 (p1 := x1) (p2 := x2) (p3 := x3)
  obtain ⟨om, eM, hM⟩ := o_fX10_whole h.1.2.1 (p1 := x1) (p2 := x2) (p3 := x3) (TR_RM h.1.2.2.2.2.2.2.2)
  exact ⟨oc, om, eC, eM, ⟨IV_fr h.1 hC.1 hM.1 hC.2 hM.2 (by decide) (by decide) (by decide), GE_fr h.2 hC.2 hM.2 (by decide) (by decide)⟩⟩
theorem e_15 {σC σM : gS} (h : IG σC σM) : ∃ (oc : Int32 × gS) (om : Int32 × gS), fX9_parts σC  = some oc ∧ fX10_parts σM  = some om ∧ IG oc.2 om.2 := by
  obtain ⟨oc, eC, hC⟩ := o_fX9_parts h.1.1 
  obtain ⟨om, eM, hM⟩ := o_fX10_parts h.1.2.1 
  exact ⟨oc, om, eC, eM, ⟨IV_fr h.1 hC.1 hM.1 hC.2 hM.2 (by decide) (by decide) (by decide), GE_fr h.2 hC.2 hM.2 (by decide) (by decide)⟩⟩
theorem e_16 {σC σM : gS} (h : IG σC σM) (x1 x2 : Int32) : ∃ (oc : Int32 × gS) (om : Int32 × gS), fX9_hang σC x1 x2 = some oc ∧ fX10_hang σM x1 x2 = some om ∧ IG oc.2 om.2 := by
  obtain ⟨oc, eC, hC⟩ := o_fX9_hang h.1.1 (p1 := x1) (p2 := x2)
  obtain ⟨om, eM, hM⟩ := o_fX10_hang h.1.2.1 (p1 := x1) (p2 := x2)
  exact ⟨oc, om, eC, eM, ⟨IV_fr h.1 hC.1 hM.1 hC.2.1 hM.2.1 (by decide) (by decide) (by decide), GE_fr h.2 hC.2.1 hM.2.1 (by decide) (by decide)⟩⟩
theorem e_23 {σC σM : gS} (h : IG σC σM) (x1 x2 x3 : Int32) : ∃ (oc : Int32 × gS) (om : Int32), fX9_tie σC x1 x2 x3 = some oc ∧ fX10_tie σM x1 x2 x3 = some om ∧ IG oc.2 σM := by
  obtain ⟨oc, eC, hC⟩ := o_fX9_tie h.1.1 (p1 := x1) (p2 := x2) (p3 := x3)
  obtain ⟨om, eM, hM⟩ := o_fX10_tie h.1.2.1 (p1 := x1) (p2 := x2) (p3 := x3)
  exact ⟨oc, om, eC, eM, ⟨IV_fr h.1 hC.1 h.1.2.1 hC.2 (Fr_r (L := [])) (by decide) (by decide) (by decide), GE_fr h.2 hC.2 (Fr_r (L := [])) (by decide) (by decide)⟩⟩
theorem e_24 {σC σM : gS} (h : IG σC σM) (x1 x2 x3 x4 : Int32) : ∃ (oc : Int32 × gS) (om : Int32), fX9_loop σC x1 x2 x3 x4 = some oc ∧ fX10_loop σM x1 x2 x3 x4 = some om ∧ IG oc.2 σM := by
  obtain ⟨oc, eC, hC⟩ := o_fX9_loop h.1.1 (p1 := x1) (p2 := x2) (p3 := x3) (p4 := x4)
  obtain ⟨om, eM, hM⟩ := o_fX10_loop h.1.2.1 (p1 := x1) (p2 := x2) (p3 := x3) (p4 := x4)
  exact ⟨oc, om, eC, eM, ⟨IV_fr h.1 hC.1 h.1.2.1 hC.2 (Fr_r (L := [])) (by decide) (by decide) (by decide), GE_fr h.2 hC.2 (Fr_r (L := [])) (by decide) (by decide)⟩⟩
theorem e_25 {σC σM : gS} (h : IG σC σM) (x1 : Int32) : ∃ (oc : Int32 × gS) (om : Int32), fX9_gap σC x1 = some oc ∧ fX10_gap σM x1 = some om ∧ IG oc.2 σM := by
  obtain ⟨oc, eC, hC⟩ := o_fX9_gap h.1.1 (p1 := x1)
  obtain ⟨om, eM, hM⟩ := o_fX10_gap h.1.2.1 (p1 := x1)
  exact ⟨oc, om, eC, eM, ⟨IV_fr h.1 hC.1 h.1.2.1 hC.2 (Fr_r (L := [])) (by decide) (by decide) (by decide), GE_fr h.2 hC.2 (Fr_r (L := [])) (by decide) (by decide)⟩⟩
theorem e_26 {σC σM : gS} (h : IG σC σM) (x1 : Int32) : ∃ (oc : Int32 × gS) (om : Int32 × gS), fX9_tree σC x1 = some oc ∧ fX10_tree σM x1 = some om ∧ IG oc.2 om.2 := by
  obtain ⟨oc, eC, hC⟩ := o_fX9_tree h.1.1 (p1 := x1)
  obtain ⟨om, eM, hM⟩ := o_fX10_tree h.1.2.1 (p1 := x1)
  exact ⟨oc, om, eC, eM, ⟨IV_fr h.1 hC.1 hM.1 hC.2.1 hM.2 (by decide) (by decide) (by decide), GE_fr h.2 hC.2.1 hM.2 (by decide) (by decide)⟩⟩
theorem e_27 {σC σM : gS} (h : IG σC σM) (x1 : Int32) : ∃ (oc : Int32 × gS) (om : Int32 × gS), fX9_plan σC x1 = some oc ∧ fX10_plan σM x1 = some om ∧ IG oc.2 om.2 := by
  obtain ⟨oc, eC, hC⟩ := o_fX9_plan h.1.1 (p1 := x1)
  obtain ⟨om, eM, hM⟩ := o_fX10_plan h.1.2.1 (p1 := x1)
  exact ⟨oc, om, eC, eM, ⟨IV_fr h.1 hC.1 hM.1 hC.2 hM.2 (by decide) (by decide) (by decide), GE_fr h.2 hC.2 hM.2 (by decide) (by decide)⟩⟩
theorem e_32 {σC σM : gS} (h : IG σC σM) : ∃ (oc : Int32 × gS) (om : Int32 × gS), fX9_image σC  = some oc ∧ fX10_image σM  = some om ∧ IG oc.2 om.2 := by
  obtain ⟨oc, eC, hC⟩ := o_fX9_image h.1.1 
  obtain ⟨om, eM, hM⟩ := o_fX10_image h.1.2.1 
  exact ⟨oc, om, eC, eM, ⟨IV_fr h.1 hC.1 hM.1 hC.2.1 hM.2.1 (by decide) (by decide) (by decide), GE_fr h.2 hC.2.1 hM.2.1 (by decide) (by decide)⟩⟩
theorem e_4 {σC σM : gS} (h : IG σC σM) (x1 : Int32) : ∃ (oc : Int32) (om : Int32), fX9_has σC x1 = some oc ∧ fX10_has σM x1 = some om ∧ IG σC σM := by
  obtain ⟨oc, eC, hC⟩ := o_fX9_has h.1.1 (p1 := x1)
  obtain ⟨om, eM, hM⟩ := o_fX10_has h.1.2.1 (p1 := x1)
  exact ⟨oc, om, eC, eM, h⟩
theorem e_5 {σC σM : gS} (h : IG σC σM) (x1 x2 x3 : Int32) : ∃ (oc : Int32) (om : Int32), fX9_letter σC x1 x2 x3 = some oc ∧ fX10_letter σM x1 x2 x3 = some om ∧ IG σC σM := by
  obtain ⟨oc, eC, hC⟩ := o_fX9_letter h.1.1 (p1 := x1) (p2 := x2) (p3 := x3)
  obtain ⟨om, eM, hM⟩ := o_fX10_letter h.1.2.1 (p1 := x1) (p2 := x2) (p3 := x3)
  exact ⟨oc, om, eC, eM, h⟩
theorem e_9 {σC σM : gS} (h : IG σC σM) (x1 x2 : Int32) : ∃ (oc : Int32) (om : Int32), fX9_drift σC x1 x2 = some oc ∧ fX10_drift σM x1 x2 = some om ∧ IG σC σM := by
  obtain ⟨oc, eC, hC⟩ := o_fX9_drift h.1.1 (p1 := x1) (p2 := x2)
  obtain ⟨om, eM, hM⟩ := o_fX10_drift h.1.2.1 (p1 := x1) (p2 := x2)
  exact ⟨oc, om, eC, eM, h⟩
theorem e_12 {σC σM : gS} (h : IG σC σM) : ∃ (oc : Int64) (om : Int64), fX9_sum σC  = some oc ∧ fX10_sum σM  = some om ∧ IG σC σM := by
  obtain ⟨oc, eC, hC⟩ := o_fX9_sum h.1.1 
  obtain ⟨om, eM, hM⟩ := o_fX10_sum h.1.2.1 
  exact ⟨oc, om, eC, eM, h⟩
theorem e_19 {σC σM : gS} (h : IG σC σM) (x1 : Int32) : ∃ (oc : Int64) (om : Int64), fX9_doubt σC x1 = some oc ∧ fX10_doubt σM x1 = some om ∧ IG σC σM := by
  obtain ⟨oc, eC, hC⟩ := o_fX9_doubt h.1.1 (p1 := x1)
  obtain ⟨om, eM, hM⟩ := o_fX10_doubt h.1.2.1 (p1 := x1)
  exact ⟨oc, om, eC, eM, h⟩
theorem e_33 {σC σM : gS} (h : IG σC σM) (x1 : Int32) : ∃ (oc : Int32) (om : Int32), fX9_octet σC x1 = some oc ∧ fX10_octet σM x1 = some om ∧ IG σC σM := by
  obtain ⟨oc, eC, hC⟩ := o_fX9_octet h.1.1 (p1 := x1)
  obtain ⟨om, eM, hM⟩ := o_fX10_octet h.1.2.1 (p1 := x1)
  exact ⟨oc, om, eC, eM, h⟩
theorem e_0 {σC σM : gS} (h : IG σC σM) (x1 x2 x3 x4 x5 : Int32) : ∃ (oc : Int32 × gS) (om : Int32 × gS), fX9_feed σC x1 x2 x3 x4 x5 = some oc ∧ fX10_feed σM x1 x2 x3 x4 x5 = some om ∧ IG oc.2 om.2 := by
  obtain ⟨oc, om, eC, eM, -, hI⟩ := c_0 h.1 x1 x2 x3 x4 x5
  have oC := o_fX9_feed h.1.1 (p1 := x1) (p2 := x2) (p3 := x3) (p4 := x4) (p5 := x5)
  have oM := o_fX10_feed h.1.2.1 (p1 := x1) (p2 := x2) (p3 := x3) (p4 := x4) (p5 := x5)
  rw [eC] at oC
  rw [eM] at oM
  have oC := ok_some.mp oC
  have oM := ok_some.mp oM
  exact ⟨oc, om, eC, eM, hI, GE_fr h.2 oC.2.1 oM.2.1 (by decide) (by decide)⟩
theorem e_1 {σC σM : gS} (h : IG σC σM) (x1 : Int32) : ∃ (oc : Int32 × gS) (om : Int32 × gS), fX9_end σC x1 = some oc ∧ fX10_end σM x1 = some om ∧ IG oc.2 om.2 := by
  obtain ⟨oc, om, eC, eM, -, hI⟩ := c_1 h.1 x1
  have oC := o_fX9_end h.1.1 (p1 := x1)
  have oM := o_fX10_end h.1.2.1 (p1 := x1)
  rw [eC] at oC
  rw [eM] at oM
  have oC := ok_some.mp oC
  have oM := ok_some.mp oM
  exact ⟨oc, om, eC, eM, hI, GE_fr h.2 oC.2.1 oM.2.1 (by decide) (by decide)⟩
theorem e_3 {σC σM : gS} (h : IG σC σM) (x1 : Int32) : ∃ (oc : Int32) (om : Int32), fX9_fault σC x1 = some oc ∧ fX10_fault σM x1 = some om ∧ IG σC σM := by
  obtain ⟨oc, om, eC, eM, -, -⟩ := c_3 h.1 x1
  exact ⟨oc, om, eC, eM, h⟩
end P12Z
