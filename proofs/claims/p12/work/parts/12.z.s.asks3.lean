/-! WHAT IS ASKED, 3: picture, point, hang -/
section P12ZS
theorem NX_2 {σ t τ u : gS} (h : NX2 σ t τ u) : NX σ t τ u := h
theorem ps_2 {σ s : gS} (h : GT σ s) {p : Int32} (p0 : 0 ≤ p.toInt) (p1 : p.toInt < (s.1 15 7).toInt) : fX10_strip s p = some (s.1 16 (12 + p.toInt.toNat)) ∧ fX10_centreOf s p = some (s.1 18 (12 + p.toInt.toNat)) ∧ (12 + p).toInt = 12 + p.toInt := by
  have l12 : (12 : Int32).toInt = 12 := by decide
  have b7 := (gt_n h).2.2.1
  have e : (12 + p).toInt = 12 + p.toInt := by rw [iadd_toInt] <;> omega
  have n : (12 + p).toNatClampNeg = 12 + p.toInt.toNat := by rw [n_toInt]; omega
  refine ⟨?_, ?_, e⟩
  · unfold fX10_strip
    rw [q_gd (gb_of (by omega) (by omega)), nm_eq, n]
  · unfold fX10_centreOf
    rw [q_gd (gb_of (by omega) (by omega)), nm_eq, n]
theorem a_6 {σC σM : gS} (h : IG σC σM) (x1 x2 : Int32) : ∃ (oc : Int32 × gS) (om : Int32 × gS), fX9_picture σC x1 x2 = some oc ∧ fX10_picture σM x1 x2 = some om ∧ oc.1 = om.1 ∧ IG oc.2 om.2 := by
  obtain ⟨oc, om, eC, eM, hI⟩ := g_6 h.1 x1 x2
  have G := gt_ig h
  obtain ⟨b9, b8, b7, b6⟩ := gt_n G
  have eC' := eC
  have eM' := eM
  unfold fX9_picture at eC'
  unfold fX10_picture at eM'
  rcases pic_2 G x1 with ⟨a, b⟩ | ⟨⟨a, b⟩, p0, p1⟩
  · rw [q_bd a, if_pos rfl] at eC'
    rw [q_bd b, if_pos rfl] at eM'
    cases eC'; cases eM'
    exact ⟨_, _, eC, eM, rfl, h⟩
  rw [q_bd a, if_neg one_ne] at eC'
  rw [q_bd b, if_neg one_ne] at eM'
  have P := G.2.2.1.2.2.1 x1.toInt.toNat (by omega)
  have g12 := gb_of (i := x1) (n := 12) p0 (by omega)
  have g76 := gb_of (i := x1) (n := 76) p0 (by omega)
  have l38 : (38 : Int32).toInt = 38 := by decide
  have m38 : (38 + x1).toInt = 38 + x1.toInt := by rw [iadd_toInt] <;> omega
  obtain ⟨f1, f2, f3⟩ := ps_2 G p0 p1
  have A := h.2.2.2.1 x1.toInt.toNat (by omega)
  have B0 := h.2.2.2.2.1 0 x1.toInt.toNat (by decide) (by omega)
  have B1 := h.2.2.2.2.1 1 x1.toInt.toNat (by decide) (by omega)
  rw [show 38 * 0 + x1.toInt.toNat = x1.toInt.toNat by omega] at B0
  rw [show 38 * 1 + x1.toInt.toNat = 38 + x1.toInt.toNat by omega] at B1
  by_cases c0 : x2 = 0
  · rw [if_pos c0, q_gd g12, nm_eq, n_toInt, P.1] at eC'
    rw [if_pos c0, q_bd f1] at eM'
    cases eC'; cases eM'
    exact ⟨_, _, eC, eM, rfl, h⟩
  rw [if_neg c0] at eC' eM'
  by_cases c1 : x2 = 1
  · rw [if_pos c1, q_gd g12, nm_eq, n_toInt, A.1] at eC'
    rw [if_pos c1, q_gd g12, nm_eq, n_toInt] at eM'
    cases eC'; cases eM'
    exact ⟨_, _, eC, eM, rfl, h⟩
  rw [if_neg c1] at eC' eM'
  by_cases c2 : x2 = 2
  · rw [if_pos c2, q_gd g12, nm_eq, n_toInt, P.2.1] at eC'
    rw [if_pos c2, q_gd (gb_of (by omega) (by omega)), nm_eq, show (12 + x1).toNatClampNeg = 12 + x1.toInt.toNat by rw [n_toInt]; omega] at eM'
    by_cases z : σM.1 17 (12 + x1.toInt.toNat) = 4
    · rw [if_pos z] at eC' eM'
      cases eC'; cases eM'
      exact ⟨_, _, eC, eM, rfl, h⟩
    · rw [if_neg z] at eC' eM'
      cases eC'; cases eM'
      exact ⟨_, _, eC, eM, rfl, h⟩
  rw [if_neg c2] at eC' eM'
  by_cases c3 : x2 = 3
  · rw [if_pos c3, q_gd (by decide), q_gd g12, nm_eq, n_toInt, show σC.1 50 x1.toInt.toNat = σM.1 28 x1.toInt.toNat from B0] at eC'
    rw [if_pos c3, q_gd g76, nm_eq, n_toInt] at eM'
    cases eC'; cases eM'
    exact ⟨_, _, eC, eM, rfl, h⟩
  rw [if_neg c3] at eC' eM'
  by_cases c4 : x2 = 4
  · rw [if_pos c4, q_gd (by decide), q_gd g12, nm_eq, n_toInt, show σC.1 51 x1.toInt.toNat = σM.1 28 (38 + x1.toInt.toNat) from B1] at eC'
    rw [if_pos c4, q_gd (gb_of (by omega) (by omega)), nm_eq, show (38 + x1).toNatClampNeg = 38 + x1.toInt.toNat by rw [n_toInt]; omega] at eM'
    cases eC'; cases eM'
    exact ⟨_, _, eC, eM, rfl, h⟩
  rw [if_neg c4] at eC' eM'
  by_cases c5 : x2 = 5
  · obtain ⟨u, v, eu, ev, e⟩ := rows_p G p0
    rw [if_pos c5, q_bd eu] at eC'
    rw [if_pos c5, q_bd ev] at eM'
    cases eC'; cases eM'
    exact ⟨_, _, eC, eM, e, h⟩
  rw [if_neg c5] at eC' eM'
  by_cases c6 : x2 = 6
  · obtain ⟨τ, u, j1, j2, nx, -, L⟩ := join_m1 G
    obtain ⟨v, v1, v2, v3⟩ := L x1 p0 (by omega)
    have w : fX2_isPictureLoose σC x1 = some (v, τ) := by
      unfold fX2_isPictureLoose
      rw [q_bd j1, q_bd v1]
      rcases v3 with rfl | rfl
      · rw [nb0]
      · rw [nb1]
    rw [if_pos c6, q_bd2 w] at eC'
    rw [if_pos c6, q_bd j2, q_bd v2] at eM'
    rcases v3 with rfl | rfl
    · rw [if_pos rfl] at eC' eM'
      cases eC'; cases eM'
      exact ⟨_, _, eC, eM, rfl, NX_ig h hI (NX_2 nx)⟩
    · rw [if_neg one_ne] at eC' eM'
      cases eC'; cases eM'
      exact ⟨_, _, eC, eM, rfl, NX_ig h hI (NX_2 nx)⟩
  rw [if_neg c6] at eC' eM'
  by_cases c7 : x2 = 7
  · rw [if_pos c7, q_gd g12, nm_eq, n_toInt, P.2.2.1] at eC'
    rw [if_pos c7, q_bd f2] at eM'
    by_cases z : σM.1 18 (12 + x1.toInt.toNat) ≤ 0
    · rw [if_pos z] at eC' eM'
      cases eC'; cases eM'
      exact ⟨_, _, eC, eM, rfl, h⟩
    · rw [if_neg z] at eC' eM'
      cases eC'; cases eM'
      exact ⟨_, _, eC, eM, rfl, h⟩
  rw [if_neg c7] at eC' eM'
  cases eC'; cases eM'
  exact ⟨_, _, eC, eM, rfl, h⟩
theorem a_7 {σC σM : gS} (h : IG σC σM) (x1 x2 : Int32) : ∃ (oc : Int32 × gS) (om : Int32 × gS), fX9_point σC x1 x2 = some oc ∧ fX10_point σM x1 x2 = some om ∧ oc.1 = om.1 ∧ IG oc.2 om.2 := by
  obtain ⟨oc, om, eC, eM, hI⟩ := g_7 h.1 x1 x2
  have G := gt_ig h
  obtain ⟨b9, b8, b7, b6⟩ := gt_n G
  have eC' := eC
  have eM' := eM
  unfold fX9_point at eC'
  unfold fX10_point at eM'
  rcases pt_2 G x1 with ⟨a, b⟩ | ⟨⟨a, b⟩, p0, p1⟩
  · rw [q_bd a, if_pos rfl] at eC'
    rw [q_bd b, if_pos rfl] at eM'
    cases eC'; cases eM'
    exact ⟨_, _, eC, eM, rfl, h⟩
  rw [q_bd a, if_neg one_ne] at eC'
  rw [q_bd b, if_neg one_ne] at eM'
  have Q := G.2.2.1.2.2.2.1 x1.toInt.toNat (by omega)
  have g20 := gb_of (i := x1) (n := 20) p0 (by omega)
  have l12 : (12 : Int32).toInt = 12 := by decide
  have l20 : (20 : Int32).toInt = 20 := by decide
  have l50 : (50 : Int32).toInt = 50 := by decide
  have m12 : (12 + x1).toInt = 12 + x1.toInt := by rw [iadd_toInt] <;> omega
  have m20 : (20 + x1).toInt = 20 + x1.toInt := by rw [iadd_toInt] <;> omega
  have m50 : (50 + x1).toInt = 50 + x1.toInt := by rw [iadd_toInt] <;> omega
  have B0 := h.2.2.2.2.2.1 0 x1.toInt.toNat (by decide) (by omega)
  have B1 := h.2.2.2.2.2.1 1 x1.toInt.toNat (by decide) (by omega)
  rw [show 38 * 0 + (12 + x1.toInt.toNat) = 12 + x1.toInt.toNat by omega] at B0
  rw [show 38 * 1 + (12 + x1.toInt.toNat) = 50 + x1.toInt.toNat by omega] at B1
  by_cases c0 : x2 = 0
  · rw [if_pos c0, q_gd (by decide), q_gd g20, nm_eq, n_toInt, show σC.1 53 x1.toInt.toNat = σM.1 28 (12 + x1.toInt.toNat) from B0] at eC'
    rw [if_pos c0, q_gd (gb_of (by omega) (by omega)), nm_eq, show (12 + x1).toNatClampNeg = 12 + x1.toInt.toNat by rw [n_toInt]; omega] at eM'
    cases eC'; cases eM'
    exact ⟨_, _, eC, eM, rfl, h⟩
  rw [if_neg c0] at eC' eM'
  by_cases c1 : x2 = 1
  · rw [if_pos c1, q_gd (by decide), q_gd g20, nm_eq, n_toInt, show σC.1 54 x1.toInt.toNat = σM.1 28 (50 + x1.toInt.toNat) from B1] at eC'
    rw [if_pos c1, q_gd (gb_of (by omega) (by omega)), nm_eq, show (50 + x1).toNatClampNeg = 50 + x1.toInt.toNat by rw [n_toInt]; omega] at eM'
    cases eC'; cases eM'
    exact ⟨_, _, eC, eM, rfl, h⟩
  rw [if_neg c1] at eC' eM'
  by_cases c2 : x2 = 2
  · obtain ⟨u, v, eu, ev, e⟩ := rows_q G p0
    rw [if_pos c2, q_bd eu] at eC'
    rw [if_pos c2, q_bd ev] at eM'
    cases eC'; cases eM'
    exact ⟨_, _, eC, eM, e, h⟩
  rw [if_neg c2] at eC' eM'
  by_cases c3 : x2 = 3
  · rw [if_pos c3, q_gd g20, nm_eq, n_toInt, Q.1] at eC'
    rw [if_pos c3, q_gd (gb_of (by omega) (by omega)), nm_eq, show (20 + x1).toNatClampNeg = 20 + x1.toInt.toNat by rw [n_toInt]; omega] at eM'
    by_cases z : σM.1 20 (20 + x1.toInt.toNat) = 0
    · rw [if_pos z] at eC' eM'
      cases eC'; cases eM'
      exact ⟨_, _, eC, eM, rfl, h⟩
    · rw [if_neg z] at eC' eM'
      cases eC'; cases eM'
      exact ⟨_, _, eC, eM, rfl, h⟩
  rw [if_neg c3] at eC' eM'
  by_cases c4 : x2 = 4
  · rw [if_pos c4] at eC' eM'
    rcases fix_alike (qa_gt G) h.2.1 rfl h.2.2.1 p0 p1 with ⟨f1, f2⟩ | ⟨f1, f2⟩
    · rw [q_bd f1, if_pos rfl] at eC'
      rw [q_bd f2, if_pos rfl] at eM'
      cases eC'; cases eM'
      exact ⟨_, _, eC, eM, rfl, h⟩
    · rw [q_bd f1, if_neg one_ne] at eC'
      rw [q_bd f2, if_neg one_ne] at eM'
      cases eC'; cases eM'
      exact ⟨_, _, eC, eM, rfl, h⟩
  rw [if_neg c4] at eC' eM'
  by_cases c5 : x2 = 5
  · obtain ⟨τ, u, j1, j2, nx, -, L⟩ := join_m1 G
    obtain ⟨v, v1, v2, v3⟩ := L (12 + x1) (by omega) (by omega)
    have w : fX2_isPointLoose σC x1 = some (v, τ) := by
      unfold fX2_isPointLoose
      rw [q_bd j1, q_bd v1]
      rcases v3 with rfl | rfl
      · rw [nb0]
      · rw [nb1]
    rw [if_pos c5, q_bd2 w] at eC'
    rw [if_pos c5, q_bd j2, q_bd v2] at eM'
    rcases v3 with rfl | rfl
    · rw [if_pos rfl] at eC' eM'
      cases eC'; cases eM'
      exact ⟨_, _, eC, eM, rfl, NX_ig h hI (NX_2 nx)⟩
    · rw [if_neg one_ne] at eC' eM'
      cases eC'; cases eM'
      exact ⟨_, _, eC, eM, rfl, NX_ig h hI (NX_2 nx)⟩
  rw [if_neg c5] at eC' eM'
  cases eC'; cases eM'
  exact ⟨_, _, eC, eM, rfl, h⟩
theorem a_16 {σC σM : gS} (h : IG σC σM) (x1 x2 : Int32) : ∃ (oc : Int32 × gS) (om : Int32 × gS), fX9_hang σC x1 x2 = some oc ∧ fX10_hang σM x1 x2 = some om ∧ oc.1 = om.1 ∧ IG oc.2 om.2 := by
  obtain ⟨oc, om, eC, eM, hI⟩ := g_16 h.1 x1 x2
  have G := gt_ig h
  obtain ⟨b9, b8, b7, b6⟩ := gt_n G
  have eC' := eC
  have eM' := eM
  unfold fX9_hang at eC'
  unfold fX10_hang at eM'
  rcases pic_2 G x1 with ⟨a, b⟩ | ⟨⟨a, b⟩, p0, p1⟩
  · rw [q_bd a, if_pos rfl] at eC'
    rw [q_bd b, if_pos rfl] at eM'
    cases eC'; cases eM'
    exact ⟨_, _, eC, eM, rfl, h⟩
  rw [q_bd a, if_neg one_ne] at eC'
  rw [q_bd b, if_neg one_ne] at eM'
  rcases pic_2 G x2 with ⟨a, b⟩ | ⟨⟨a, b⟩, q0, q1⟩
  · rw [q_bd a, if_pos rfl] at eC'
    rw [q_bd b, if_pos rfl] at eM'
    cases eC'; cases eM'
    exact ⟨_, _, eC, eM, rfl, h⟩
  obtain ⟨τ, u, j1, j2, nx, L, -⟩ := join_m1 G
  have l := L x1.toInt.toNat x2.toInt.toNat (by omega) (by omega)
  have g1 := gb_of (i := x1) (n := 32) p0 (by omega)
  have g2 := gb_of (i := x2) (n := 32) q0 (by omega)
  rw [q_bd a, if_neg one_ne] at eC'
  unfold fX2_isJoined at eC'
  rw [q_bd j1, q_gd g1, nm_eq, q_gd g2, nm_eq, n_toInt, n_toInt] at eC'
  rw [q_bd b, if_neg one_ne, q_bd j2, q_gd g1, nm_eq, q_gd g2, nm_eq, n_toInt, n_toInt] at eM'
  by_cases z : u.1 32 x1.toInt.toNat = u.1 32 x2.toInt.toNat
  · rw [if_pos z] at eM'
    rw [if_pos (l.mpr z), bd2_so, if_neg one_ne] at eC'
    cases eC'; cases eM'
    exact ⟨_, _, eC, eM, rfl, NX_ig h hI (NX_2 nx)⟩
  · rw [if_neg z] at eM'
    rw [if_neg (fun y => z (l.mp y)), bd2_so, if_pos rfl] at eC'
    cases eC'; cases eM'
    exact ⟨_, _, eC, eM, rfl, NX_ig h hI (NX_2 nx)⟩
end P12ZS
