/-! THE GEOMETRY KEPT: on, the two sides together -/
section P12ZP
set_option maxHeartbeats 1000000 in
theorem e_34 {σC σM : gS} (h : IG σC σM) : ∃ (oc : Int32 × gS) (om : Int32 × gS), fX9_on σC = some oc ∧ fX10_on σM = some om ∧ IG oc.2 om.2 := by
  obtain ⟨oc, om, eC, eM, -, hI⟩ := c_34 h.1
  refine ⟨oc, om, eC, eM, hI, ?_⟩
  obtain ⟨i1, i2, i3, i4, i5, i6, i7, i8⟩ := h.1
  obtain ⟨g1, g2, g3, g4, g5, g6, g7, g8⟩ := h.2
  have z0' := z0
  have l1 : (1 : Int32).toInt = 1 := by decide
  have l3 : (3 : Int32).toInt = 3 := by decide
  have t0 : 0 ≤ (σC.1 0 1).toInt ∧ (σC.1 0 1).toInt ≤ 1600 := i1 0 1
  unfold fX9_on at eC
  unfold fX10_on at eM
  rw [nm_eq, nm_eq] at eC
  rw [nm_eq, nm_eq, i5] at eM
  obtain ⟨sC, hsC⟩ : ∃ s, s = gsI σC 0 1 0 := ⟨_, rfl⟩
  obtain ⟨sM, hsM⟩ : ∃ s, s = gsI σM 0 1 0 := ⟨_, rfl⟩
  rw [← hsC] at eC
  rw [← hsM] at eM
  have jC : JC sC := by rw [hsC]; exact JC_w i1 (show (0 : Int) ≤ (0 : Int32).toInt by decide) (show (0 : Int32).toInt ≤ (1600 : Int) by decide)
  have jM : JM sM := by rw [hsM]; exact JM_w i2 (show (0 : Int) ≤ (0 : Int32).toInt by decide) (show (0 : Int32).toInt ≤ (1600 : Int) by decide)
  have hT : sM.1 1 = sC.1 1 := by rw [hsM, hsC, gsI_row (k := 0) (by decide), gsI_row (k := 0) (by decide)]; exact i4
  have hR : TRd sC sM := TR_eq i8 (fun k hk => by simp at hk; rw [hsC, gsI_row (by omega)]) (by rw [hsM]; exact UP_w UP_r (.inr (by decide)))
  have cr : ∀ k, k ≠ 0 → sC.1 k = σC.1 k := fun k hk => by rw [hsC, gsI_row hk]
  have mr : ∀ k, k ≠ 0 → sM.1 k = σM.1 k := fun k hk => by rw [hsM, gsI_row hk]
  have m36 : sM.1 0 36 = σM.1 0 36 := by rw [hsM, gsI_at, if_neg (by decide)]
  obtain ⟨b9, b8, b7, b6⟩ := JM_n jM
  have cck : ∃ ck, (σC.1 0 1).toInt = due sM → fX10_checked sM 1 (σC.1 0 1 - 1) = some ck := by
    by_cases z : (σC.1 0 1).toInt = due sM
    · have z' := z
      unfold due at z'
      have em : (σC.1 0 1 - 1).toInt = (σC.1 0 1).toInt - 1 := by rw [isub_toInt] <;> omega
      obtain ⟨ck, e, -⟩ := o_fX10_checked jM (p0 := 1) (p1 := σC.1 0 1 - 1) (by decide) (by decide) (by omega) (by omega) (.inl ⟨rfl, by omega⟩)
      exact ⟨ck, fun _ => e⟩
    · exact ⟨0, fun w => absurd w z⟩
  obtain ⟨ck, hck⟩ := cck
  obtain ⟨p, ep, jp, FC, -⟩ := o_fX0_read_71 jC (p1 := 1) (p2 := σC.1 0 1) (by decide) (by decide)
  have fr : ∀ k, k < 71 → p.2.1 k = sC.1 k := fun k hk => Fr_row FC k (fun q hq => by simp [fr_fX0_read_71] at hq; rcases hq with rfl | rfl | rfl | rfl | rfl | rfl | rfl | rfl | rfl | rfl <;> dsimp only <;> omega)
  rcases r_isTold jM (n := σC.1 0 1) t0.1 hck with ⟨a, a1⟩ | ⟨a, a1⟩ <;> rcases r_read jC jM hT hR (n := σC.1 0 1) t0.1 hck with ⟨τ, b, b1⟩ | ⟨τ, b, b1⟩
  · -- what is told stands
    rw [b] at ep
    cases ep
    dsimp only at fr jp
    rw [q_bd2 b] at eC
    dsimp only at eC
    rw [if_neg one_ne] at eC
    obtain ⟨κ, k1, jκ, kR, K1, K2, K3, K4, K5, K6⟩ := k_take jp
    rw [q_bd k1] at eC
    rw [q_bd a, if_neg one_ne, q_gd (by decide), nm_eq, nm_eq, nm_eq, nm_eq, show (Int32.toNatClampNeg 0) = 0 from rfl] at eM
    obtain ⟨s, hs⟩ : ∃ s, s = gsI sM 0 36 (sM.1 1 0) := ⟨_, rfl⟩
    rw [← hs] at eM
    have sr : ∀ k, k ≠ 0 → s.1 k = sM.1 k := fun k hk => by rw [hs, gsI_row hk]
    have s36 : s.1 0 36 = sM.1 1 0 := by rw [hs, gsI_at, if_pos rfl]
    obtain ⟨om', eM', hO⟩ := m_onTells (s := s) (by rw [sr 15 (by decide)]; exact ⟨b9, b8, b7, b6⟩)
    rw [eM'] at eM
    cases eM
    cases eC
    obtain ⟨hF, hA, hB, hD, hW⟩ := hO
    rw [sr 1 (by decide), sr 15 (by decide), mr 15 (by decide)] at hA hB hD hW
    have e2 := read_take b
    obtain ⟨τ', e2', -, x71, -, hk⟩ := r_take jC (by rw [← hT]; exact fun i => (jm_tape jM).2.2 i)
    rw [e2] at e2'
    cases e2'
    have q0 : sC.1 3 0 = sM.1 15 6 := hR.1 0 (by decide)
    have q1 : sC.1 3 1 = sM.1 15 7 := hR.1 1 (by decide)
    have q2 : sC.1 3 2 = sM.1 15 8 := hR.1 2 (by decide)
    have q3 : sC.1 3 3 = sM.1 15 9 := hR.1 3 (by decide)
    rw [q0, q1, q2, q3, ← hT] at hk
    rw [← hT] at x71
    rw [mr 15 (by decide)] at hk b9 b8 b7 b6
    obtain ⟨w1, w2, w3, w4, w5, w6, w7⟩ := b1
    have hb := fun i => (jm_tape jM).2.2 i
    rw [mr 15 (by decide)] at w4 w7
    obtain ⟨T, hTT⟩ : ∃ T, T = sM.1 1 := ⟨_, rfl⟩
    rw [← hTT] at hA hB hD hW hk w4 w7 hb x71 w3 s36
    have o15 : om.2.1 15 = σM.1 15 := by rw [hF.1 15 (by decide) (by decide) (by decide), sr 15 (by decide), mr 15 (by decide)]
    have o24 : om.2.1 24 = σM.1 24 := by rw [hF.1 24 (by decide) (by decide) (by decide), sr 24 (by decide), mr 24 (by decide)]
    have o0 : om.2.1 0 36 = T 0 := by rw [hF.1 0 (by decide) (by decide) (by decide)]; exact s36
    have k13 : κ.1 13 = σC.1 13 := by rw [kR 13 (by decide), fr 13 (by decide), cr 13 (by decide)]
    have k14 : κ.1 14 = σC.1 14 := by rw [kR 14 (by decide), fr 14 (by decide), cr 14 (by decide)]
    unfold PicOK at w4
    unfold RwOK at w7
    show GE κ om.2
    unfold GE MSd
    rw [o15, o24, o0, k13, k14]
    refine ⟨by rw [K1, x71], ⟨(hb 0).1, w3⟩, fun p hp => ?_, fun a p ha hp => ?_, fun a q ha hq => ?_, fun a s ha hs => ?_, fun r hr => ?_, g8⟩
    · rw [K2 p (by omega), (hk.1 p (by omega)).1, (hA p (by omega)).1]
      exact ⟨rfl, (hb _).1, (w4 p hp).1⟩
    · rcases a2_2 ha with rfl | rfl
      · rw [show 50 + 0 = 47 + 3 + 0 by omega, K3 0 p (by decide) (by omega), show 38 * 0 + p = p by omega, (hA p (by omega)).2.1]
        exact (hk.1 p (by omega)).2.1
      · rw [show 50 + 1 = 47 + 3 + 1 by omega, K3 1 p (by decide) (by omega), show 38 * 1 + p = 38 + p by omega, (hA p (by omega)).2.2]
        exact (hk.1 p (by omega)).2.2
    · rcases a2_2 ha with rfl | rfl
      · rw [show 53 + 0 = 47 + 6 + 0 by omega, K4 0 q (by decide) (by omega), show 38 * 0 + (12 + q) = 12 + q by omega, (hB q (by omega)).1]
        exact (hk.2.1 q (by omega)).1
      · rw [show 53 + 1 = 47 + 6 + 1 by omega, K4 1 q (by decide) (by omega), show 38 * 1 + (12 + q) = 38 + (12 + q) by omega, (hB q (by omega)).2]
        exact (hk.2.1 q (by omega)).2
    · rcases a2_2 ha with rfl | rfl
      · rw [show 56 + 0 = 47 + 9 + 0 by omega, K5 0 s (by decide) (by omega), show 38 * 0 + (32 + s) = 32 + s by omega, (hD s (by omega)).1]
        exact (hk.2.2.1 s (by omega)).1
      · rw [show 56 + 1 = 47 + 9 + 1 by omega, K5 1 s (by decide) (by omega), show 38 * 1 + (32 + s) = 38 + (32 + s) by omega, (hD s (by omega)).2]
        exact (hk.2.2.1 s (by omega)).2
    · have v := hk.2.2.2 r (by omega)
      have w := w7 r hr
      rw [show κ.1 58 r = κ.1 (47 + 11) r by rfl, K6 r (by omega), hW r (by omega)]
      rw [show τ.1 (71 + 11) r = τ.1 82 r by rfl, v]
      rcases ax_2 (hb _).1 w with y | y
      · rw [y, if_neg (by decide)]
        exact ⟨rfl, .inl rfl⟩
      · rw [y, if_pos rfl]
        exact ⟨rfl, .inr rfl⟩
  · exact absurd a1 b1
  · exact absurd b1 a1
  · rw [b] at ep
    cases ep
    dsimp only at fr
    rw [q_bd2 b] at eC
    dsimp only at eC
    rw [if_pos rfl] at eC
    rw [q_bd a, if_pos rfl] at eM
    cases eC
    cases eM
    show GE τ sM
    unfold GE MSd
    rw [m36, mr 15 (by decide), mr 24 (by decide), mr 26 (by decide), mr 27 (by decide), mr 28 (by decide), fr 13 (by decide), fr 14 (by decide), fr 47 (by decide), fr 48 (by decide), fr 58 (by decide), cr 13 (by decide), cr 14 (by decide), cr 47 (by decide), cr 48 (by decide), cr 58 (by decide)]
    refine ⟨g1, g2, g3, fun a p ha hp => ?_, fun a p ha hp => ?_, fun a p ha hp => ?_, g7, g8⟩
    · rw [fr _ (by omega), cr _ (by omega)]; exact g4 a p ha hp
    · rw [fr _ (by omega), cr _ (by omega)]; exact g5 a p ha hp
    · rw [fr _ (by omega), cr _ (by omega)]; exact g6 a p ha hp
end P12ZP
