/-! THE GEOMETRY KEPT: block, start, rounds; doubt, sum, drift -/
section P12ZB
/-- what the geometry's own steps keep -/
noncomputable def GT (σ s : gS) : Prop := JC σ ∧ JM s ∧ TRd σ s ∧ GE σ s
theorem gt_ig {σ s : gS} (h : IG σ s) : GT σ s := ⟨h.1.1, h.1.2.1, h.1.2.2.2.2.2.2.2, h.2⟩
theorem wf_gt {σ s : gS} (h : GT σ s) : WF s := by
  obtain ⟨jC, jM, T, g⟩ := h
  obtain ⟨b9, b8, b7, b6⟩ := JM_n jM
  refine ⟨⟨b9, b8, b7, b6⟩, fun r hr => ?_, fun p hp => ?_⟩
  · have R := T.2.2.2.2 r hr
    exact ⟨⟨(jM 22 _).1, R.2.2.1⟩, ⟨(jM 23 _).1, R.2.2.2.1⟩, R.2.2.2.2.2.1⟩
  · have Q := T.2.2.1 p hp
    exact ⟨⟨(jM 16 _).1, Q.2.2.2.1⟩, Q.2.2.2.2.2.1, (g.2.2.1 p hp).2⟩
theorem fx_gt {σ s : gS} (h : GT σ s) : ∀ q : Nat, (q : Int) < (s.1 15 8).toInt → (σ.1 16 q &&& σ.1 47 1 = 0 ↔ freeM s q) := fx_of h.2.2.1 (wf_gt h) h.2.2.2.1 h.2.2.2.2.1
theorem gt_n {σ s : gS} (h : GT σ s) : ((0 ≤ (s.1 15 9).toInt ∧ (s.1 15 9).toInt ≤ 60) ∧ (0 ≤ (s.1 15 8).toInt ∧ (s.1 15 8).toInt ≤ 20) ∧ (0 ≤ (s.1 15 7).toInt ∧ (s.1 15 7).toInt ≤ 12) ∧ 0 ≤ (s.1 15 6).toInt ∧ (s.1 15 6).toInt ≤ 6) := JM_n h.2.1
theorem settle_gt {σ s : gS} (h : GT σ s) {m : Int32} (m0 : 1 ≤ m.toInt) (m1 : m.toInt ≤ 500) : Re (fX1_settle σ m) (fX10_rests s m) (fun oc om => oc.1 = om.1 ∧ GT oc.2 om.2 ∧ Fr fr_fX1_settle σ oc.2 ∧ Fr fr_fX10_rests s om.2) := by
  have w := wf_gt h
  obtain ⟨jC, jM, T, g⟩ := h
  obtain ⟨oc, om, eC, eM, e, ⟨r1, r2, r3, r4, r5⟩, ⟨k1, k2⟩, f1, f2, f3⟩ := settle_2 T w (tn_ge g) (pb_ge g (a := 0) (by decide) (by decide)) (pb_ge g (a := 1) (by decide) (by decide)) (fx_of T w g.1 g.2.1) (by omega) m1
  obtain ⟨oc', eC', jC2, FC, -⟩ := o_fX1_settle jC (p1 := m) (by omega) m1
  obtain ⟨om', eM', jM2, FM, -⟩ := o_fX10_rests jM (p1 := m) m0 m1
  rw [eC] at eC'
  rw [eM] at eM'
  cases eC'
  cases eM'
  have q15 : om.2.1 15 = s.1 15 := f1 15 (by decide) (by decide)
  obtain ⟨g1, g2, g3, g4, g5, g6, g7, g8⟩ := g
  refine ⟨oc, om, eC, eM, e, ⟨jC2, jM2, r1, ?_, ?_, ?_, fun a p ha hp => ?_, fun a p ha hp => ?_, fun a p ha hp => ?_, fun r hr => ⟨r3.2.2.2.2 r hr, by rw [f1 26 (by decide) (by decide)]; rw [q15] at hr; exact (g7 r hr).2⟩, ?_⟩, FC, FM⟩
  · rw [k1 47 (by decide) (by decide) (by decide) (by decide) (by decide) (by decide) (by decide) (by decide), f2 36 (by decide)]
    exact g1
  · rw [f2 36 (by decide)]
    exact g2
  · rw [k1 48 (by decide) (by decide) (by decide) (by decide) (by decide) (by decide) (by decide) (by decide), f1 27 (by decide) (by decide), q15]
    exact g3
  · have ha2 : a = 0 ∨ a = 1 := by omega
    rcases ha2 with rfl | rfl
    · have := r3.1 p hp
      rw [n_0] at this
      exact this
    · have := r4.1 p hp
      rw [n_1] at this
      exact this
  · have ha2 : a = 0 ∨ a = 1 := by omega
    rcases ha2 with rfl | rfl
    · have := r3.2.1 p hp
      rw [n_0] at this
      exact this
    · have := r4.2.1 p hp
      rw [n_1] at this
      exact this
  · have ha2 : a = 0 ∨ a = 1 := by omega
    rcases ha2 with rfl | rfl
    · have := r3.2.2.1 p hp
      rw [n_0] at this
      exact this
    · have := r4.2.2.1 p hp
      rw [n_1] at this
      exact this
  · unfold MSd
    rw [k1 13 (by decide) (by decide) (by decide) (by decide) (by decide) (by decide) (by decide) (by decide), k1 14 (by decide) (by decide) (by decide) (by decide) (by decide) (by decide) (by decide) (by decide), f1 24 (by decide) (by decide), q15]
    exact g8
theorem start_gt {σ s : gS} (jC : JC σ) (jM : JM s) (T : TRd σ s) (e47 : σ.1 47 1 = s.1 0 36) (b36 : 0 ≤ (s.1 0 36).toInt ∧ (s.1 0 36).toInt ≤ 3) (dr : ∀ r : Nat, (r : Int) < (s.1 15 9).toInt → σ.1 58 r = s.1 26 r ∧ (s.1 26 r = 0 ∨ s.1 26 r = 1)) (ms : ∀ r : Nat, (r : Int) < (s.1 15 9).toInt → MSd σ s r) : Re (fX6_begin σ) (fX10_starts s) (fun oc om => oc.1 = om.1 ∧ GT oc.2 om.2 ∧ Fr fr_fX6_begin σ oc.2 ∧ Fr fr_fX10_starts s om.2) := by
  obtain ⟨oc, om, eC, eM, e, g⟩ := start_2 (JM_n jM) jM T e47 b36 dr ms
  obtain ⟨oc', eC', jC2, FC⟩ := o_fX6_begin jC
  obtain ⟨om', eM', jM2, FM⟩ := o_fX10_starts jM
  rw [eC] at eC'
  rw [eM] at eM'
  cases eC'
  cases eM'
  exact ⟨oc, om, eC, eM, e, ⟨jC2, jM2, TR_eq T (fun k hk => Fr_row FC k (fun q hq => by simp [fr_fX6_begin] at hq; simp at hk; rcases hq with rfl | rfl | rfl | rfl | rfl | rfl | rfl | rfl | rfl | rfl | rfl | rfl <;> dsimp only <;> omega)) (UP_f UP_r FM (by decide)), g⟩, FC, FM⟩
/-- start: A START on both sides -/
theorem a_10 {σC σM : gS} (h : IG σC σM) : ∃ (oc : Int32 × gS) (om : Int32 × gS), fX9_start σC = some oc ∧ fX10_start σM = some om ∧ oc.1 = om.1 ∧ IG oc.2 om.2 := by
  obtain ⟨oc, om, eC, eM, hI⟩ := g_10 h.1
  have G := gt_ig h
  obtain ⟨pc, pm, dC, dM, e, g, -⟩ := start_gt G.1 G.2.1 G.2.2.1 h.2.1 h.2.2.1 h.2.2.2.2.2.2.2.1 h.2.2.2.2.2.2.2.2
  have eC' := eC
  have eM' := eM
  unfold fX9_start at eC'
  unfold fX10_start at eM'
  rw [q_bd2 dC] at eC'
  rw [q_bd2 dM] at eM'
  cases eC'
  cases eM'
  exact ⟨_, _, eC, eM, e, hI, g.2.2.2⟩
theorem a_11 {σC σM : gS} (h : IG σC σM) (x1 : Int32) : ∃ (oc : Int32 × gS) (om : Int32 × gS), fX9_rounds σC x1 = some oc ∧ fX10_rounds σM x1 = some om ∧ oc.1 = om.1 ∧ IG oc.2 om.2 := by
  obtain ⟨oc, om, eC, eM, hI⟩ := g_11 h.1 x1
  have l1 : (1 : Int32).toInt = 1 := by decide
  have l500 : (500 : Int32).toInt = 500 := by decide
  have eC' := eC
  have eM' := eM
  unfold fX9_rounds at eC'
  unfold fX10_rounds at eM'
  rcases in_32 σM x1 1 500 with ⟨b, b1, b2⟩ | ⟨b, b1⟩
  · rw [q_bd (show fX10_isIn σM x1.toInt64 1 500 = some 1 from b), if_neg one_ne] at eM'
    rcases lt_or x1 1 with ⟨a, a'⟩ | ⟨a, a'⟩
    · omega
    obtain ⟨pc, pm, dC, dM, e, g, -⟩ := settle_gt (gt_ig h) (m := x1) (by omega) (by omega)
    rw [if_neg a, if_pos (q_le (by omega)), q_bd2 dC] at eC'
    rw [q_bd2 dM] at eM'
    cases eC'
    cases eM'
    exact ⟨_, _, eC, eM, e, hI, g.2.2.2⟩
  · rw [q_bd (show fX10_isIn σM x1.toInt64 1 500 = some 0 from b), if_pos rfl] at eM'
    cases eM'
    rcases lt_or x1 1 with ⟨a, a'⟩ | ⟨a, a'⟩
    · rw [if_pos a] at eC'
      cases eC'
      exact ⟨_, _, eC, eM, rfl, h⟩
    · rw [if_neg a, if_neg (q_nle (by omega))] at eC'
      cases eC'
      exact ⟨_, _, eC, eM, rfl, h⟩
/-- a block that is refused alters nothing of the geometry -/
theorem k_block_fail {σ : gS} (hI : JC σ) {o : Int32 × gS} (e : fX9_block σ = some o) (h1 : o.1 = -1) : ∀ k, 46 < k ∨ (0 < k ∧ k < 25) → o.2.1 k = σ.1 k := by
  intro k hk
  have t0 : 0 ≤ (σ.1 0 1).toInt ∧ (σ.1 0 1).toInt ≤ 1600 := hI 0 1
  obtain ⟨p, ep, -, FC, -⟩ := o_fX3_read hI (p1 := σ.1 0 1) t0.1 t0.2
  unfold fX9_block at e
  rw [q_bd2 ep, nm_eq, nm_eq, nm_eq, nm_eq] at e
  by_cases z : p.1 = -1
  · rw [if_pos z] at e
    cases e
    show (gsI (gsI (gsI p.2 0 1 0) 0 15 _) 0 16 _).1 k = _
    rw [gsI_row (by omega), gsI_row (by omega), gsI_row (by omega)]
    exact Fr_row FC k (fun q hq => by simp [fr_fX3_read] at hq; rcases hq with rfl | rfl | rfl | rfl | rfl | rfl | rfl | rfl | rfl | rfl | rfl | rfl | rfl | rfl | rfl | rfl | rfl | rfl | rfl | rfl | rfl | rfl | rfl | rfl | rfl | rfl | rfl | rfl | rfl <;> dsimp only <;> omega)
  · rw [if_neg z] at e
    obtain ⟨s1, -, e⟩ := bd_some e
    rw [nm_eq] at e
    obtain ⟨s2, -, e⟩ := bd_some e
    obtain ⟨r, s3, -, e⟩ := bd2_ex e
    cases e
    exact absurd h1 z
noncomputable def BF (σ s : gS) : Prop := (∀ k, 26 ≤ k → k ≤ 28 → s.1 k = σ.1 k) ∧ s.1 0 36 = σ.1 0 36
theorem bf_fr {L : List (Nat × Nat)} {σ s t : gS} (h : BF σ s) (F : Fr L s t) (hL : ∀ q ∈ L, q.1 < 26 ∧ q ≠ (0, 0) ∧ q ≠ (0, 37)) : BF σ t := ⟨fun k h1 h2 => (Fr_row F k (fun q hq z => by have := (hL q hq).1; omega)).trans (h.1 k h1 h2), ((F 0 36 (fun z => (hL _ z).2.1 rfl) (fun z => (hL _ z).2.2 rfl)).1).trans h.2⟩
theorem m_block_fail {σ : gS} (hI : JM σ) {o : Int32 × gS} (e : fX10_block σ = some o) (h1 : o.1 = -1) : BF σ o.2 := by
  have b81 : ∀ (s : gS) (o : Int32 × gS), JM s → BF σ s → jX10_block_81 s = some o → o.1 = -1 → BF σ o.2 := fun s o jS hB eo ho => by
    unfold jX10_block_81 at eo
    rw [nm_eq, nm_eq] at eo
    obtain ⟨κ, hκ⟩ : ∃ κ, κ = gsI (gsI s 0 7 (s.1 0 5)) 0 8 ((gsI s 0 7 (s.1 0 5)).1 0 6) := ⟨_, rfl⟩
    rw [← hκ] at eo
    have jκ : JM κ := by rw [hκ]; exact JM_w (JM_w jS (Int32.le_toInt _) (Int32.toInt_le _)) (Int32.le_toInt _) (Int32.toInt_le _)
    have Bκ : BF σ κ := by
      refine ⟨fun k h1 h2 => ?_, ?_⟩
      · rw [hκ, gsI_row (by omega), gsI_row (by omega)]
        exact hB.1 k h1 h2
      · rw [hκ]
        exact hB.2
    by_cases z : κ.1 0 5 = 0
    · rw [if_pos z] at eo
      obtain ⟨ω, eω, eo⟩ := bd_some eo
      obtain ⟨ω', eω', jω, -⟩ := o_fX10_stands jκ
      rw [eω] at eω'
      cases eω'
      cases eo
      have l : 0 ≤ (ω.1 0 34).toInt := (jω 0 34).1
      have l2 : (ω.1 0 34).toInt = -1 := (congrArg Int32.toInt ho).trans (by decide)
      omega
    · rw [if_neg z] at eo
      cases eo
      exact Bκ
  unfold fX10_block at e
  rw [nm_eq, nm_eq, nm_eq, nm_eq, nm_eq, nm_eq, nm_eq, nm_eq] at e
  obtain ⟨t7, ht7⟩ : ∃ t, t = gsI (gsI (gsI (gsI (gsI (gsI (gsI σ 0 3 (σ.1 0 1)) 0 1 0) 0 2 0) 0 4 (-1)) 0 5 0) 0 6 (-1)) 0 34 0 := ⟨_, rfl⟩
  have k7 : JM t7 := by
    rw [ht7]
    have h01 : 0 ≤ (σ.1 0 1).toInt ∧ (σ.1 0 1).toInt ≤ 1600 := hI 0 1
    exact JM_w (JM_w (JM_w (JM_w (JM_w (JM_w (JM_w hI (show 0 ≤ _ from h01.1) (show _ ≤ 1600 from h01.2)) (show (0 : Int) ≤ (0 : Int32).toInt by decide) (show (0 : Int32).toInt ≤ (1600 : Int) by decide)) (show (0 : Int) ≤ (0 : Int32).toInt by decide) (show (0 : Int32).toInt ≤ (1600 : Int) by decide)) (Int32.le_toInt _) (Int32.toInt_le _)) (Int32.le_toInt _) (Int32.toInt_le _)) (Int32.le_toInt _) (Int32.toInt_le _)) (show (0 : Int) ≤ (0 : Int32).toInt by decide) (show (0 : Int32).toInt ≤ (120 : Int) by decide)
  have B7 : BF σ t7 := by
    refine ⟨fun k h1 h2 => ?_, ?_⟩
    · rw [ht7, gsI_row (by omega), gsI_row (by omega), gsI_row (by omega), gsI_row (by omega), gsI_row (by omega), gsI_row (by omega), gsI_row (by omega)]
    · rw [ht7]
      rfl
  change lpc (S := Int32 × gS) K9 (fun rec s => bX10_block_40 (gsI (gsI (gsI (gsI (gsI (gsI (gsI σ 0 3 (σ.1 0 1)) 0 1 0) 0 2 0) 0 4 (-1)) 0 5 0) 0 6 (-1)) 0 34 0) (fun a1 σ1 => rec (a1, σ1)) s.1 s.2) (0, gsI (gsI (gsI (gsI (gsI (gsI (gsI σ 0 3 (σ.1 0 1)) 0 1 0) 0 2 0) 0 4 (-1)) 0 5 0) 0 6 (-1)) 0 34 0) = some o at e
  rw [← ht7] at e
  refine lpc_part (I := fun s : Int32 × gS => JM s.2 ∧ BF σ s.2) (P := fun o : Int32 × gS => o.1 = -1 → BF σ o.2) (fun rec s hs hrec o ho => ?_) K9 _ o ⟨k7, B7⟩ e h1
  obtain ⟨a, s⟩ := s
  obtain ⟨jS, hB⟩ := hs
  dsimp only at ho jS hB
  unfold bX10_block_40 at ho
  by_cases z : 6 ≤ a
  · rw [if_pos z] at ho
    refine lpc_part (I := fun s : gS => JM s ∧ BF σ s) (P := fun o : Int32 × gS => o.1 = -1 → BF σ o.2) (fun rec s hs hrec o ho => ?_) K9 _ o ⟨jS, hB⟩ ho
    obtain ⟨jS, hB⟩ := hs
    try dsimp only at ho
    unfold bX10_block_59 at ho
    by_cases y : s.1 0 5 = 0
    · rw [if_pos y] at ho
      obtain ⟨p, ep, jp, Fp, -⟩ := o_fX10_look jS
      rw [q_bd2 ep] at ho
      have Bp := bf_fr hB Fp (by decide)
      by_cases x : p.1 = -1
      · rw [if_pos x] at ho
        exact b81 _ _ jp Bp ho
      · rw [if_neg x] at ho
        obtain ⟨q, eq, jq, Fq, -⟩ := o_fX10_blockTold jp
        rw [q_bd eq] at ho
        exact hrec _ _ ⟨jq, bf_fr Bp Fq (by decide)⟩ ho
    · rw [if_neg y] at ho
      exact b81 _ _ jS hB ho
  · rw [if_neg z] at ho
    obtain ⟨hg, ho⟩ := gd_some ho
    have hg' := gb_iff.mp hg
    have k15 : ∀ i : Nat, i < 12 → (kbM 15 i).1 ≤ (0 : Int32).toInt ∧ (0 : Int32).toInt ≤ (kbM 15 i).2 := by decide
    have ki := k15 a.toNatClampNeg (by rw [n_toInt]; omega)
    rw [nm_eq, nm_eq] at ho
    refine hrec (a + 1, _) _ ⟨JM_w jS ?_ ?_, ?_⟩ ho
    · exact ki.1
    · exact ki.2
    · refine ⟨fun k h1 h2 => ?_, ?_⟩
      · show (gsI s 15 _ 0).1 k = _
        rw [gsI_row (by omega)]
        exact hB.1 k h1 h2
      · show (gsI s 15 _ 0).1 0 36 = _
        rw [gsI_row (by decide)]
        exact hB.2
end P12ZB
