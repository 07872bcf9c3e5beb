/-! BY A SET; differ, alters -/
section P12ZL
theorem m_isPic {s : gS} (b : 0 ≤ (s.1 15 7).toInt ∧ (s.1 15 7).toInt ≤ 12) (p : Int32) : (fX10_isPicture s p = some 1 ∧ 0 ≤ p.toInt ∧ p.toInt < (s.1 15 7).toInt) ∨ (fX10_isPicture s p = some 0 ∧ ¬ (0 ≤ p.toInt ∧ p.toInt < (s.1 15 7).toInt)) := by
  have l1 : (1 : Int32).toInt = 1 := by decide
  have z0' := z0
  have e : (s.1 15 7 - 1).toInt = (s.1 15 7).toInt - 1 := by rw [isub_toInt] <;> omega
  unfold fX10_isPicture
  rw [q_bd (m_pictures s)]
  rcases in_32 s p 0 (s.1 15 7 - 1) with ⟨h, h1, h2⟩ | ⟨h, h1⟩
  · exact .inl ⟨(q_bd (show fX10_isIn s p.toInt64 0 (s.1 15 7 - 1).toInt64 = some 1 from h)).trans (by rw [nb1]), by omega, by omega⟩
  · exact .inr ⟨(q_bd (show fX10_isIn s p.toInt64 0 (s.1 15 7 - 1).toInt64 = some 0 from h)).trans (by rw [nb0]), by omega⟩
theorem m_isPt {s : gS} (b : 0 ≤ (s.1 15 8).toInt ∧ (s.1 15 8).toInt ≤ 20) (p : Int32) : (fX10_isPoint s p = some 1 ∧ 0 ≤ p.toInt ∧ p.toInt < (s.1 15 8).toInt) ∨ (fX10_isPoint s p = some 0 ∧ ¬ (0 ≤ p.toInt ∧ p.toInt < (s.1 15 8).toInt)) := by
  have l1 : (1 : Int32).toInt = 1 := by decide
  have z0' := z0
  have e : (s.1 15 8 - 1).toInt = (s.1 15 8).toInt - 1 := by rw [isub_toInt] <;> omega
  unfold fX10_isPoint
  rw [q_bd (m_points s)]
  rcases in_32 s p 0 (s.1 15 8 - 1) with ⟨h, h1, h2⟩ | ⟨h, h1⟩
  · exact .inl ⟨(q_bd (show fX10_isIn s p.toInt64 0 (s.1 15 8 - 1).toInt64 = some 1 from h)).trans (by rw [nb1]), by omega, by omega⟩
  · exact .inr ⟨(q_bd (show fX10_isIn s p.toInt64 0 (s.1 15 8 - 1).toInt64 = some 0 from h)).trans (by rw [nb0]), by omega⟩
theorem c_axis2 (σ : gS) (a : Int32) : (fX9_isAxis σ a = some 1 ∧ (a = 0 ∨ a = 1)) ∨ (fX9_isAxis σ a = some 0 ∧ ¬ (a = 0 ∨ a = 1)) := by
  unfold fX9_isAxis
  by_cases x : a = 0
  · exact .inl ⟨if_pos x, .inl x⟩
  · by_cases y : a = 1
    · exact .inl ⟨(if_neg x).trans (if_pos y), .inr y⟩
    · exact .inr ⟨(if_neg x).trans (if_neg y), fun z => z.elim x y⟩
theorem m_axis2 (σ : gS) (a : Int32) : (fX10_isIn σ a.toInt64 0 1 = some 1 ∧ (a = 0 ∨ a = 1)) ∨ (fX10_isIn σ a.toInt64 0 1 = some 0 ∧ ¬ (a = 0 ∨ a = 1)) := by
  have z0' := z0
  have l1 : (1 : Int32).toInt = 1 := by decide
  rcases in_32 σ a 0 1 with ⟨h, h1, h2⟩ | ⟨h, h1⟩
  · exact .inl ⟨h, ax_2 (by omega) (by omega)⟩
  · refine .inr ⟨h, fun z => h1 ?_⟩
    rcases z with rfl | rfl
    · omega
    · omega
set_option maxHeartbeats 1000000 in
theorem by_2 {σ s : gS} (jC : JC σ) (jM : JM s) (T : TRd σ s) (dr : ∀ r : Nat, (r : Int) < (s.1 15 9).toInt → σ.1 58 r = s.1 26 r ∧ (s.1 26 r = 0 ∨ s.1 26 r = 1)) (ms : ∀ r : Nat, (r : Int) < (s.1 15 9).toInt → MSd σ s r) {v p a : Int32} (hv : 0 ≤ v.toInt ∧ v.toInt ≤ 3) (p0 : 0 ≤ p.toInt) (p1 : p.toInt < (s.1 15 7).toInt) (ha : a = 0 ∨ a = 1) : ∃ (oc om : Int32 × gS), fX9_placeBySet σ v p a = some oc ∧ fX10_placeBy s v p a = some om ∧ oc.1 = om.1 ∧ (JC oc.2 ∧ Fr fr_fX9_placeBySet σ oc.2) ∧ (JM om.2 ∧ Fr fr_fX10_placeBy s om.2) ∧ (∀ i : Nat, i < 76 → om.2.1 28 i = s.1 28 i) ∧ (∀ i : Nat, i < 12 → om.2.1 27 i = s.1 27 i) ∧ om.2.1 0 36 = s.1 0 36 := by
  have b7 := (JM_n jM).2.2.1
  have a0 : 0 ≤ a.toInt := by rcases ha with rfl | rfl <;> decide
  have a1 : a.toInt ≤ 1 := by rcases ha with rfl | rfl <;> decide
  obtain ⟨t2, e2, u1, u2, u3, u4, u5, u6⟩ := m_puts s
  obtain ⟨t2', e2', j2, -⟩ := o_fX10_putsAside jM
  rw [e2] at e2'
  cases e2'
  obtain ⟨κ, hκ⟩ : ∃ κ, κ = gsI σ 47 1 v := ⟨_, rfl⟩
  obtain ⟨s3, hs3⟩ : ∃ s3, s3 = gsI t2 0 36 v := ⟨_, rfl⟩
  have jκ : JC κ := by rw [hκ]; exact JC_w jC (Int32.le_toInt _) (Int32.toInt_le _)
  have j3 : JM s3 := by rw [hs3]; exact JM_w j2 (Int32.le_toInt _) (Int32.toInt_le _)
  have kr : ∀ j, j ≠ 47 → κ.1 j = σ.1 j := fun j hj => by rw [hκ, gsI_row hj]
  have s3r : ∀ j, j ≠ 0 → j ≠ 37 → j ≠ 38 → s3.1 j = s.1 j := fun j h0 h1 h2 => by rw [hs3, gsI_row h0]; exact u1 j h0 h1 h2
  have T3 : TRd κ s3 := TR_k T (fun k hk => kr k (by omega)) (fun k k1 k2 => s3r k (by omega) (by omega) (by omega)) (by rw [hs3]; exact u3)
  have e15 := s3r 15 (by decide) (by decide) (by decide)
  obtain ⟨c1, m1, dc1, dm1, -, G1, F1, H1⟩ := start_gt jκ j3 T3 (by rw [hκ, hs3, gsI_at, gsI_at, if_pos rfl, if_pos rfl]) (by rw [hs3, gsI_at, if_pos rfl]; exact hv) (fun r hr => by
    rw [e15] at hr
    rw [kr 58 (by decide), s3r 26 (by decide) (by decide) (by decide)]
    exact dr r hr) (fun r hr => by
    rw [e15] at hr
    unfold MSd
    rw [kr 13 (by decide), kr 14 (by decide), s3r 24 (by decide) (by decide) (by decide)]
    exact ms r hr)
  obtain ⟨c2, m2, dc2, dm2, -, G2, F2, H2⟩ := settle_gt G1 (m := 200) (by decide) (by decide)
  obtain ⟨t5, e5, w1, w2, w3, w4, w5, w6⟩ := m_takes m2.2
  have q15 : m2.2.1 15 = s.1 15 := by rw [Fr_row H2 15 (by decide), Fr_row H1 15 (by decide), e15]
  have q37 : m2.2.1 37 = t2.1 37 := by rw [Fr_row H2 37 (by decide), Fr_row H1 37 (by decide), hs3, gsI_row (by decide)]
  have q38 : m2.2.1 38 = t2.1 38 := by rw [Fr_row H2 38 (by decide), Fr_row H1 38 (by decide), hs3, gsI_row (by decide)]
  have q52 : m2.2.1 0 52 = t2.1 0 52 := by rw [(H2 0 52 (by decide) (by decide)).1, (H1 0 52 (by decide) (by decide)).1, hs3, gsI_at, if_neg (by decide)]
  have pl := G2.2.2.2.2.2.2.1 a.toInt.toNat p.toInt.toNat (by omega) (by rw [q15]; omega)
  have ix := ix_38 (a := a) (x := p) a0 a1 rfl p0 (by omega)
  have ixn : (38 * a + p).toNatClampNeg = 38 * a.toInt.toNat + p.toInt.toNat := by rw [n_toInt]; omega
  have eC : fX9_placeBySet σ v p a = some (c2.2.1 (50 + a.toInt.toNat) p.toInt.toNat, c2.2) := by
    unfold fX9_placeBySet
    rw [nm_eq, ← hκ, q_bd2 dc1, q_bd2 dc2, q_gd (gb_of (by omega) (by omega)), q_gd (gb_of (by omega) (by omega)), nm_eq]
    rfl
  have eM : fX10_placeBy s v p a = some (m2.2.1 28 (38 * a.toInt.toNat + p.toInt.toNat), t5) := by
    unfold fX10_placeBy
    rw [q_bd e2, nm_eq, ← hs3, q_bd2 dm1, nm_eq, q_bd2 dm2, nm_eq, q_gd (gb_of (by omega) (by omega)), nm_eq, nm_eq, q_bd e5, ixn]
  obtain ⟨oc, eC2, jc2, fc2⟩ := o_fX9_placeBySet jC (p1 := v) (p2 := p) (p3 := a) p0 (by omega) a0 a1
  obtain ⟨om, eM2, jm2, fm2⟩ := o_fX10_placeBy jM (p1 := v) (p2 := p) (p3 := a) p0 (by omega) a0 a1
  rw [eC] at eC2
  rw [eM] at eM2
  cases eC2
  cases eM2
  refine ⟨_, _, eC, eM, pl, ⟨jc2, fc2⟩, ⟨jm2, fm2⟩, fun i hi => ?_, fun i hi => ?_, ?_⟩
  · show t5.1 28 i = _
    rw [w4 i hi, q37, u4 i hi]
  · show t5.1 27 i = _
    rw [w5 i hi, q38, u5 i hi]
  · show t5.1 0 36 = _
    rw [w6, q52, u6]
set_option maxHeartbeats 1000000 in
theorem a_28 {σC σM : gS} (h : IG σC σM) (x1 x2 : Int32) : ∃ (oc : Int32 × gS) (om : Int32 × gS), fX9_differ σC x1 x2 = some oc ∧ fX10_differ σM x1 x2 = some om ∧ oc.1 = om.1 ∧ IG oc.2 om.2 := by
  obtain ⟨oc, om, eC, eM, hI⟩ := g_28 h.1 x1 x2
  have G := gt_ig h
  have gn := gt_n G
  obtain ⟨b9, b8, b7, b6⟩ := gn
  have en := (IV_n h.1).2.2.1
  have eC' := eC
  have eM' := eM
  unfold fX9_differ at eC'
  unfold fX10_differ at eM'
  have no : (fX8_exists_2 σC 1 x1 = some 0 ∧ fX10_isPicture σM x1 = some 0) ∨ ((fX8_exists_2 σC 1 x1 = some 1 ∧ fX10_isPicture σM x1 = some 1) ∧ 0 ≤ x1.toInt ∧ x1.toInt < (σM.1 15 7).toInt) := by
    rcases ex_2 σC x1 (k := 1) (K := 1) (by decide) (by decide) with ⟨a, a1, a2⟩ | ⟨a, a1⟩ <;> rcases m_isPic b7 x1 with ⟨b, b1, b2⟩ | ⟨b, b1⟩
    · exact .inr ⟨⟨a, b⟩, b1, b2⟩
    · rw [en] at a2; omega
    · rw [en] at a1; omega
    · exact .inl ⟨a, b⟩
  rcases no with ⟨a, b⟩ | ⟨⟨a, b⟩, p0, p1⟩
  · rw [q_bd a, if_pos rfl] at eC'
    rw [q_bd b, if_pos rfl] at eM'
    cases eC'; cases eM'
    exact ⟨_, _, eC, eM, rfl, h⟩
  rw [q_bd a, if_neg one_ne] at eC'
  rw [q_bd b, if_neg one_ne] at eM'
  rcases c_axis2 σC x2 with ⟨c, ha⟩ | ⟨c, ha⟩ <;> rcases m_axis2 σM x2 with ⟨d, hb⟩ | ⟨d, hb⟩
  · obtain ⟨κ, eκ, jκ, k1, k2⟩ := k_aside h.1.1
    have T0 : TRd κ σM := TR_k G.2.2.1 (fun k hk => k1 k (by omega)) (fun _ _ _ => rfl) rfl
    obtain ⟨c1, m1, dc1, dm1, v1, ⟨jc1, Fc1⟩, ⟨jm1, Fm1⟩, r1, r2, r3⟩ := by_2 (v := 1) (p := x1) (a := x2) jκ G.2.1 T0 (fun r hr => by rw [k1 58 (by decide)]; exact h.2.2.2.2.2.2.2.1 r hr) (fun r hr => by
      unfold MSd
      rw [k1 13 (by decide), k1 14 (by decide)]
      exact h.2.2.2.2.2.2.2.2 r hr) (by decide) p0 p1 ha
    have q15 : m1.2.1 15 = σM.1 15 := Fr_row Fm1 15 (by decide)
    have cr1 : ∀ j, j < 47 ∨ j = 58 ∨ (59 ≤ j ∧ j ≤ 70) → c1.2.1 j = κ.1 j := fun j hj => Fr_row Fc1 j (fun q hq z => by
      have := (show ∀ q ∈ fr_fX9_placeBySet, ¬ (q.1 < 47 ∨ q.1 = 58 ∨ (59 ≤ q.1 ∧ q.1 ≤ 70)) by decide) q hq
      rw [z] at this
      exact this hj)
    have T1 : TRd c1.2 m1.2 := TR_eq T0 (fun k hk => cr1 k (by simp at hk; omega)) (UP_f UP_r Fm1 (by decide))
    obtain ⟨c2, m2, dc2, dm2, v2, ⟨jc2, Fc2⟩, ⟨jm2, Fm2⟩, r4, r5, r6⟩ := by_2 (v := 2) (p := x1) (a := x2) jc1 jm1 T1 (fun r hr => by
      rw [q15] at hr
      rw [cr1 58 (by decide), k1 58 (by decide), Fr_row Fm1 26 (by decide)]
      exact h.2.2.2.2.2.2.2.1 r hr) (fun r hr => by
      rw [q15] at hr
      unfold MSd
      rw [cr1 13 (by decide), k1 13 (by decide), cr1 14 (by decide), k1 14 (by decide), Fr_row Fm1 24 (by decide)]
      exact h.2.2.2.2.2.2.2.2 r hr) (by decide) p0 (by rw [q15]; exact p1) ha
    have cr2 : ∀ j, j < 47 ∨ j = 58 ∨ (59 ≤ j ∧ j ≤ 70) → c2.2.1 j = c1.2.1 j := fun j hj => Fr_row Fc2 j (fun q hq z => by
      have := (show ∀ q ∈ fr_fX9_placeBySet, ¬ (q.1 < 47 ∨ q.1 = 58 ∨ (59 ≤ q.1 ∧ q.1 ≤ 70)) by decide) q hq
      rw [z] at this
      exact this hj)
    obtain ⟨ω, eω, jω, o1, o2⟩ := k_back jc2
    rw [q_bd c, if_neg one_ne, q_bd eκ, q_bd2 dc1, nm_eq, q_bd2 dc2, nm_eq, q_bd eω] at eC'
    rw [q_bd d, if_neg one_ne, q_bd2 dm1, q_bd2 dm2] at eM'
    cases eC'
    cases eM'
    refine ⟨_, _, eC, eM, ?_, hI, ?_⟩
    · show c1.1 - c2.1 = m1.1 - m2.1
      rw [v1, v2]
    · have sa : SA 47 47 σC ω := SA_t k2 (fun j h1 h2 => (cr2 j (by omega)).trans (cr1 j (by omega))) o2
      refine GE_cell h.2 ⟨b9, b8, b7, b6⟩ sa (fun i _ => ⟨?_, ?_⟩) ?_ ?_ ?_ (fun i hi => ?_) (fun i hi => ?_) (fun i => ?_)
      · show ω.1 13 i = _
        rw [o1 13 (by decide), cr2 13 (by decide), cr1 13 (by decide), k1 13 (by decide)]
      · show ω.1 14 i = _
        rw [o1 14 (by decide), cr2 14 (by decide), cr1 14 (by decide), k1 14 (by decide)]
      · show m2.2.1 15 = _
        rw [Fr_row Fm2 15 (by decide), q15]
      · show m2.2.1 26 = _
        rw [Fr_row Fm2 26 (by decide), Fr_row Fm1 26 (by decide)]
      · show m2.2.1 0 36 = _
        rw [r6, r3]
      · show m2.2.1 27 i = _
        rw [r5 i hi, r2 i hi]
      · show m2.2.1 28 i = _
        rw [r4 i hi, r1 i hi]
      · show m2.2.1 24 i = _
        rw [Fr_row Fm2 24 (by decide), Fr_row Fm1 24 (by decide)]
  · exact absurd ha hb
  · exact absurd hb ha
  · rw [q_bd c, if_pos rfl] at eC'
    rw [q_bd d, if_pos rfl] at eM'
    cases eC'; cases eM'
    exact ⟨_, _, eC, eM, rfl, h⟩
end P12ZL
