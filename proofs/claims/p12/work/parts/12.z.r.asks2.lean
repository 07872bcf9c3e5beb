/-! WHAT IS ASKED, 2: drift, rows counted, picture, point -/
section P12ZR
theorem pic_2 {σ s : gS} (h : GT σ s) (p : Int32) : (fX8_exists_2 σ 1 p = some 0 ∧ fX10_isPicture s p = some 0) ∨ ((fX8_exists_2 σ 1 p = some 1 ∧ fX10_isPicture s p = some 1) ∧ 0 ≤ p.toInt ∧ p.toInt < (s.1 15 7).toInt) := by
  have en := (tr_n h.2.2.1).2.2.1
  rcases ex_2 σ p (k := 1) (K := 1) (by decide) (by decide) with ⟨a, a1, a2⟩ | ⟨a, a1⟩ <;> rcases m_isPic (gt_n h).2.2.1 p with ⟨b, b1, b2⟩ | ⟨b, b1⟩
  · exact .inr ⟨⟨a, b⟩, b1, b2⟩
  · rw [en] at a2; omega
  · rw [en] at a1; omega
  · exact .inl ⟨a, b⟩
theorem pt_2 {σ s : gS} (h : GT σ s) (p : Int32) : (fX8_exists_2 σ 2 p = some 0 ∧ fX10_isPoint s p = some 0) ∨ ((fX8_exists_2 σ 2 p = some 1 ∧ fX10_isPoint s p = some 1) ∧ 0 ≤ p.toInt ∧ p.toInt < (s.1 15 8).toInt) := by
  have en := (tr_n h.2.2.1).2.1
  rcases ex_2 σ p (k := 2) (K := 2) (by decide) (by decide) with ⟨a, a1, a2⟩ | ⟨a, a1⟩ <;> rcases m_isPt (gt_n h).2.1 p with ⟨b, b1, b2⟩ | ⟨b, b1⟩
  · exact .inr ⟨⟨a, b⟩, b1, b2⟩
  · rw [en] at a2; omega
  · rw [en] at a1; omega
  · exact .inl ⟨a, b⟩
theorem hd_2 {σ s : gS} (h : GT σ s) (p : Int32) : ∃ v : Int32, fX8_drifts_2 σ p = some v ∧ fX10_hasDrift s p = some v := by
  refine ⟨_, ?_, m_hasDrift h.2.1 p⟩
  rw [c_drifts h.1 p, (tr_n h.2.2.1).2.2.1]
  congr 1
  refine eI_congr _ 0 (fun j h1 h2 => ?_)
  have P := h.2.2.1.2.2.1 j (by have := (gt_n h).2.2.1; omega)
  rw [P.1, P.2.2.1]
theorem a_9 {σC σM : gS} (h : IG σC σM) (x1 x2 : Int32) : ∃ (oc : Int32) (om : Int32), fX9_drift σC x1 x2 = some oc ∧ fX10_drift σM x1 x2 = some om ∧ oc = om ∧ IG σC σM := by
  have G := gt_ig h
  obtain ⟨b9, b8, b7, b6⟩ := gt_n G
  have z0' := z0
  have l1 : (1 : Int32).toInt = 1 := by decide
  have l32 : (32 : Int32).toInt = 32 := by decide
  have l38 : (38 : Int32).toInt = 38 := by decide
  have en := (tr_n G.2.2.1).2.2.2
  have em : (σM.1 15 6 - 1).toInt = (σM.1 15 6).toInt - 1 := by rw [isub_toInt] <;> omega
  unfold fX9_drift fX10_drift
  rw [q_gd (show gb 6 12 = true by decide), nm_eq, nm_eq, show σM.1 15 ((6 : Int32).toNatClampNeg) = σM.1 15 6 from rfl]
  have ex : (fX8_exists_2 σC 0 x1 = some 0 ∧ fX10_isIn σM x1.toInt64 0 (σM.1 15 6 - 1).toInt64 = some 0) ∨ ((fX8_exists_2 σC 0 x1 = some 1 ∧ fX10_isIn σM x1.toInt64 0 (σM.1 15 6 - 1).toInt64 = some 1) ∧ 0 ≤ x1.toInt ∧ x1.toInt < (σM.1 15 6).toInt) := by
    rcases ex_2 σC x1 (k := 0) (K := 0) (by decide) (by decide) with ⟨a, a1, a2⟩ | ⟨a, a1⟩ <;> rcases in_32 σM x1 0 (σM.1 15 6 - 1) with ⟨b, b1, b2⟩ | ⟨b, b1⟩
    · exact .inr ⟨⟨a, b⟩, a1, by omega⟩
    · rw [en] at a2; omega
    · rw [en] at a1; omega
    · exact .inl ⟨a, b⟩
  rcases ex with ⟨a, b⟩ | ⟨⟨a, b⟩, p0, p1⟩
  · rw [q_bd a, if_pos rfl, q_bd b, if_pos rfl]
    exact ⟨_, _, rfl, rfl, rfl, h⟩
  rw [q_bd a, if_neg one_ne, q_bd b, if_neg one_ne]
  rcases c_axis2 σC x2 with ⟨c, ha⟩ | ⟨c, ha⟩ <;> rcases m_axis2 σM x2 with ⟨d, hb⟩ | ⟨d, hb⟩
  · obtain ⟨v, v1, v2⟩ := hd_2 G x1
    rw [q_bd c, if_neg one_ne, q_bd d, if_neg one_ne, q_bd v1, q_bd v2]
    by_cases z : v = 0
    · rw [if_pos z, if_pos z]
      exact ⟨_, _, rfl, rfl, rfl, h⟩
    rw [if_neg z, if_neg z]
    have a0 : 0 ≤ x2.toInt ∧ x2.toInt ≤ 1 := by rcases ha with rfl | rfl <;> decide
    have D := h.2.2.2.2.2.2.1 x2.toInt.toNat x1.toInt.toNat (by omega) (by omega)
    have m1 : (38 * x2).toInt = 38 * x2.toInt := imulc (by decide) (by omega) (by omega)
    have m2 : (38 * x2 + 32).toInt = 38 * x2.toInt + 32 := by rw [iadd_toInt] <;> omega
    have m3 : (38 * x2 + 32 + x1).toInt = 38 * x2.toInt + 32 + x1.toInt := by rw [iadd_toInt] <;> omega
    rw [q_gd (gb_of (by omega) (by omega)), q_gd (gb_of (by omega) (by omega)), q_gd (gb_of (by omega) (by omega)), nm_eq, n_toInt, n_toInt, show (38 * x2 + 32 + x1).toNatClampNeg = 38 * x2.toInt.toNat + (32 + x1.toInt.toNat) by rw [n_toInt]; omega]
    exact ⟨_, _, rfl, rfl, D, h⟩
  · exact absurd ha hb
  · exact absurd hb ha
  · rw [q_bd c, if_pos rfl, q_bd d, if_pos rfl]
    exact ⟨_, _, rfl, rfl, rfl, h⟩
/-- a picture's rows in use -/
theorem rows_p {σ s : gS} (h : GT σ s) {p : Int32} (p0 : 0 ≤ p.toInt) : Re (fX5_countRows_47 σ 10 p) (fX10_rowsOf s p (-1)) (fun a b => a = b) := by
  obtain ⟨b9, b8, b7, b6⟩ := gt_n h
  have wf := wf_gt h
  have z0' := z0
  have lm : (-1 : Int32).toInt = -1 := by decide
  have pm : ¬ p = -1 := fun y => by rw [y] at p0; omega
  have e3 : σ.1 3 ((3 : Int32).toNatClampNeg) = s.1 15 9 := (tr_n h.2.2.1).1
  have gz : gsz zC.1 0 0 10 = 60 := by decide
  unfold fX5_countRows_47 fX10_rowsOf
  rw [nm_eq, nm_eq, nm_eq, nm_eq]
  refine re_lpc (I := fun (n : Nat) (x y : Int32 × Int32) => n = ((s.1 15 9).toInt - y.2.toInt).toNat ∧ 0 ≤ y.2.toInt ∧ y.2.toInt ≤ (s.1 15 9).toInt ∧ x = y) (fun f g n x y hs hrec => ?_) K9 K9 (s.1 15 9).toInt.toNat (0, 0) (0, 0) ⟨by dsimp only; omega, by dsimp only; omega, by dsimp only; omega, rfl⟩ (by unfold K9; omega) (by unfold K9; omega)
  obtain ⟨c, r⟩ := y
  obtain ⟨hn, r0, r1, ex⟩ := hs
  subst ex
  dsimp only at hn r0 r1 ⊢
  unfold bX5_countRows_47_5 bX10_rowsOf_5 jX10_rowsOf_39
  simp only [nm_eq]
  rw [q_gd (by decide), e3, q_bd (m_rows s), gz]
  by_cases hk : s.1 15 9 ≤ r
  · rw [if_pos hk, if_pos hk]
    exact ⟨_, _, rfl, rfl, rfl⟩
  have hlt := q_gt hk
  have ei := i_inc (a := r) (c := 60) (by omega) (by omega) (by decide)
  have D := h.2.2.2.2.2.2.2.2.2.1 r.toInt.toNat (by omega)
  have R := h.2.2.1.2.2.2.2 r.toInt.toNat (by omega)
  obtain ⟨w1, w2, w3, r59⟩ := wf_row wf r0 hlt
  have go : ∀ c1 : Int32, Re (f (c1, r + 1)) (g (c1, r + 1)) (fun a b => a = b) := fun c1 => hrec ((s.1 15 9).toInt - (r + 1).toInt).toNat _ _ (by omega) ⟨rfl, by dsimp only; omega, by dsimp only; omega, rfl⟩
  rw [if_neg hk, if_neg hk, q_gd (gb_of r0 (by omega)), q_bd (c_usesK σ r0 (by omega)), D.1, q_gd (gb_of r0 (by omega)), n_toInt, R.1, if_neg pm, q_bd w1, if_pos trivial]
  by_cases u : s.1 26 r.toInt.toNat = 0
  · rw [if_pos u, if_neg one_ne, if_pos u]
    by_cases z : s.1 22 (60 + r.toInt.toNat) = p
    · rw [if_pos z, if_pos z]; exact go (c + 1)
    · rw [if_neg z, if_neg z]; exact go c
  · rw [if_neg u, if_pos rfl, if_neg u]
    by_cases z : s.1 22 (60 + r.toInt.toNat) = p
    · rw [if_pos z]; exact go c
    · rw [if_neg z]; exact go c
/-- a point's -/
theorem rows_q {σ s : gS} (h : GT σ s) {p : Int32} (p0 : 0 ≤ p.toInt) : Re (fX5_countRows_47 σ 11 p) (fX10_rowsOf s (-1) p) (fun a b => a = b) := by
  obtain ⟨b9, b8, b7, b6⟩ := gt_n h
  have wf := wf_gt h
  have z0' := z0
  have lm : (-1 : Int32).toInt = -1 := by decide
  have pm : ¬ p = -1 := fun y => by rw [y] at p0; omega
  have e3 : σ.1 3 ((3 : Int32).toNatClampNeg) = s.1 15 9 := (tr_n h.2.2.1).1
  have gz : gsz zC.1 0 0 11 = 60 := by decide
  unfold fX5_countRows_47 fX10_rowsOf
  rw [nm_eq, nm_eq, nm_eq, nm_eq]
  refine re_lpc (I := fun (n : Nat) (x y : Int32 × Int32) => n = ((s.1 15 9).toInt - y.2.toInt).toNat ∧ 0 ≤ y.2.toInt ∧ y.2.toInt ≤ (s.1 15 9).toInt ∧ x = y) (fun f g n x y hs hrec => ?_) K9 K9 (s.1 15 9).toInt.toNat (0, 0) (0, 0) ⟨by dsimp only; omega, by dsimp only; omega, by dsimp only; omega, rfl⟩ (by unfold K9; omega) (by unfold K9; omega)
  obtain ⟨c, r⟩ := y
  obtain ⟨hn, r0, r1, ex⟩ := hs
  subst ex
  dsimp only at hn r0 r1 ⊢
  unfold bX5_countRows_47_5 bX10_rowsOf_5 jX10_rowsOf_39
  simp only [nm_eq]
  rw [q_gd (by decide), e3, q_bd (m_rows s), gz]
  by_cases hk : s.1 15 9 ≤ r
  · rw [if_pos hk, if_pos hk]
    exact ⟨_, _, rfl, rfl, rfl⟩
  have hlt := q_gt hk
  have ei := i_inc (a := r) (c := 60) (by omega) (by omega) (by decide)
  have D := h.2.2.2.2.2.2.2.2.2.1 r.toInt.toNat (by omega)
  have R := h.2.2.1.2.2.2.2 r.toInt.toNat (by omega)
  obtain ⟨w1, w2, w3, r59⟩ := wf_row wf r0 hlt
  have go : ∀ c1 : Int32, Re (f (c1, r + 1)) (g (c1, r + 1)) (fun a b => a = b) := fun c1 => hrec ((s.1 15 9).toInt - (r + 1).toInt).toNat _ _ (by omega) ⟨rfl, by dsimp only; omega, by dsimp only; omega, rfl⟩
  rw [if_neg hk, if_neg hk, q_gd (gb_of r0 (by omega)), q_bd (c_usesK σ r0 (by omega)), D.1, q_gd (gb_of r0 (by omega)), n_toInt, R.2.1, if_pos trivial, if_neg pm, q_bd w2]
  by_cases u : s.1 26 r.toInt.toNat = 0
  · rw [if_pos u, if_neg one_ne, if_pos u]
    by_cases z : s.1 23 (60 + r.toInt.toNat) = p
    · rw [if_pos z, if_pos z]; exact go (c + 1)
    · rw [if_neg z, if_neg z]; exact go c
  · rw [if_neg u, if_pos rfl, if_neg u]
    by_cases z : s.1 23 (60 + r.toInt.toNat) = p
    · rw [if_pos z]; exact go c
    · rw [if_neg z]; exact go c
end P12ZR
