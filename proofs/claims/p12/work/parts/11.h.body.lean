/-! THE TWO READERS, 8: statements' bodies -/
section PH
theorem gd_t {β : Type} {E : Option β} : gd true E = E := rfl
theorem gsI_row {σ : gS} {k i a : Nat} {x : Int32} (h : a ≠ k) : (gsI σ k i x).1 a = σ.1 a := funext fun j => by rw [gsI_1, if_neg (fun z => h z.1)]
theorem gsI_at {σ : gS} {k i j : Nat} {x : Int32} : (gsI σ k i x).1 k j = if j = i then x else σ.1 k j := by
  rw [gsI_1]
  by_cases h : j = i
  · rw [if_pos ⟨rfl, h⟩, if_pos h]
  · rw [if_neg (fun z => h z.2), if_neg h]
theorem PSt_mv {σC σM τC τM : gS} (h : PSt σC σM) (jC : JC τC) (jM : JM τM) (a : τC.1 46 = σC.1 46) (b : τC.1 1 = σC.1 1) (c : ∀ k, k < 14 → τM.1 k = σM.1 k) : PSt τC τM := by
  obtain ⟨p1, p2, p3, p4, p5, ⟨x, hx, hy⟩, p7, p8, p9, p10, p11, p12⟩ := h
  refine ⟨jC, jM, ?_, ?_, ?_, ⟨x, ?_, ?_⟩, ?_, ?_, ?_, ?_, ?_, ?_⟩
  · rw [c 1 (by decide), b]; exact p3
  · rw [c 0 (by decide), a]; exact p4
  · rw [c 0 (by decide), a]; exact p5
  · rw [a, b]; exact hx
  · rw [c 0 (by decide), a, b]; exact hy
  · rw [a]; exact p7
  · rw [c 0 (by decide)]; exact p8
  · intro q hq i hi
    rw [c q.1 (by simp at hq; rcases hq with rfl | rfl | rfl | rfl | rfl | rfl | rfl | rfl | rfl | rfl | rfl | rfl <;> decide)]
    exact p9 q hq i hi
  · rw [a]; exact p10
  · rw [a]; exact p11
  · rw [c 0 (by decide)]; exact p12
noncomputable def FSx (σC σM : gS) : Prop := JC σC ∧ σM.1 0 5 ≠ 0 ∧ σM.1 0 5 = σC.1 46 2 ∧ σM.1 0 6 = σC.1 46 3
theorem FSt_x {σC σM : gS} (h : FSt σC σM) : FSx σC σM := ⟨h.1, h.2.2⟩
/-- what comes of a statement's body -/
noncomputable def BO (σM : gS) (r : Int32) (τC τM : gS) : Prop := UP σM τM ∧ ((r = 1 ∧ PSt τC τM ∧ DS τC τM) ∨ (r = 0 ∧ FSx τC τM))
noncomputable def NMX (K : Nat) (σC σM τC τM : gS) : Prop := ∃ c m, NR c m ∧ (∀ i, τC.1 25 i = if i = K then σC.1 25 K + 1 else σC.1 25 i) ∧ (∀ i, τC.1 (27 + K) i = if i = (σM.1 15 K).toInt.toNat then c else σC.1 (27 + K) i) ∧ (∀ k, k ≠ 25 → k ≠ 27 + K → k ≠ 46 → τC.1 k = σC.1 k) ∧ (∀ i, τM.1 15 i = if i = K then σM.1 15 K + 1 else σM.1 15 i) ∧ (∀ i, τM.2 14 i = if i = 20 * K + (σM.1 15 K).toInt.toNat then m else σM.2 14 i) ∧ ∀ k, k ≠ 0 → k ≠ 14 → k ≠ 15 → τM.1 k = σM.1 k
theorem p_nm {σC σM : gS} (hP : PSt σC σM) (hD : DS σC σM) {k : Int32} {K : Nat} (hk : k.toInt = K) (hK : K ≤ 2) (hpre : (K = 0 ∧ (σM.1 15 0).toInt ≤ 5) ∨ (K = 1 ∧ (σM.1 15 1).toInt ≤ 11) ∨ (K = 2 ∧ (σM.1 15 2).toInt ≤ 19)) (hfull : ∀ τ : gS, τ.1 25 = σC.1 25 → fX8_isFull_24 τ k = some 0) : Re (fX3_readNamed σC k) (fX10_newName σM k) (fun a b => UP σM b.2 ∧ ((a.1 = 1 ∧ PSt a.2 b.2 ∧ b.1 = σM.1 15 K ∧ NMX K σC σM a.2 b.2) ∨ (a.1 = 0 ∧ FSt a.2 b.2))) := by
  have hn : (σM.1 15 K).toInt ≤ 19 := by rcases hpre with ⟨rfl, h⟩ | ⟨rfl, h⟩ | ⟨rfl, h⟩ <;> omega
  have hn0 : 0 ≤ (σM.1 15 K).toInt := by
    have := jm_many hP.2.1
    rcases hpre with ⟨rfl, h⟩ | ⟨rfl, h⟩ | ⟨rfl, h⟩
    · exact this.1.1
    · exact this.2.1.1
    · exact this.2.2.1.1
  have hk2 : 0 ≤ k.toInt ∧ k.toInt ≤ 2 := by omega
  obtain ⟨d1, d2, d3, d4⟩ := hD
  obtain ⟨⟨r, τC⟩, ⟨x, τM⟩, e1, e2, F1, F2, hU, h⟩ := p_new hP hk hK hn hpre (d3 0 (by decide)) (d3 1 (by decide)) (d3 2 (by decide))
  unfold fX3_readNamed
  rw [e1, e2, bd2_so]
  dsimp only at F1 F2 hU h
  rcases h with ⟨rfl, hQ, hx, m, hN, h15, h14⟩ | ⟨rfl, hF⟩
  · refine re_fl one_ne ?_
    have c25 : τC.1 25 = σC.1 25 := Fr_row F1 25 (by decide)
    have ec : σC.1 25 K = σM.1 15 K := (d3 K hK).1
    have en := a_named (σ := τC) hk hK (τC.1 46 9) (hfull τC c25) (by rw [c25, ec]; exact hn0) (by rw [c25, ec]; exact hn)
    have jC := o_fX8_addNamed_24 hQ.1 (p1 := k) (p2 := τC.1 46 9) hk2.1 hk2.2
    rw [en] at jC
    have jC := (ok_some.mp jC).1
    rw [en, bd_so]
    refine ⟨_, _, rfl, rfl, hU, .inl ⟨rfl, PSt_mv hQ jC hQ.2.1 ?_ ?_ (fun _ _ => rfl), hx, τC.1 46 9, m, hN, fun i => ?_, fun i => ?_, fun k' h1 h2 h3 => ?_, h15, h14, fun k' h1 h2 h3 => ?_⟩⟩
    · exact (gsI_row (by decide)).trans (gsI_row (by omega))
    · exact (gsI_row (by decide)).trans (gsI_row (by omega))
    · show (gsI _ 25 K _).1 25 i = _
      rw [gsI_at, gsI_row (by omega), c25]
    · show (gsI (gsI τC (27 + K) _ _) 25 K _).1 (27 + K) i = _
      rw [gsI_row (by omega), gsI_at, c25, ec, Fr_row F1 (27 + K) (fun q hq => by simp [fr_fX3_readName] at hq; rcases hq with rfl | rfl | rfl | rfl | rfl | rfl | rfl | rfl <;> dsimp only <;> omega)]
    · show (gsI (gsI τC (27 + K) _ _) 25 K _).1 k' = _
      rw [gsI_row h1, gsI_row h2]
      exact Fr_row F1 k' (fun q hq => by simp [fr_fX3_readName] at hq; rcases hq with rfl | rfl | rfl | rfl | rfl | rfl | rfl | rfl <;> exact fun z => h3 z.symm)
    · exact Fr_row F2 k' (fun q hq => by simp [fr_fX10_newName] at hq; rcases hq with rfl | rfl | rfl | rfl | rfl | rfl | rfl <;> dsimp only <;> omega)
  · exact re_tl rfl ⟨_, _, rfl, rfl, hU, .inr ⟨rfl, hF⟩⟩
theorem DS_strip {σC σM τC τM : gS} (hI : JM σM) (hD : DS σC σM) (hn : (σM.1 15 0).toInt ≤ 5) (h : NMX 0 σC σM τC τM) : DS τC τM := by
  obtain ⟨c, m, hN, c25, cn, co, m15, m14, mo⟩ := h
  obtain ⟨d1, d2, d3, d4, d5, d6, d7, d8⟩ := hD
  have b := jm_many hI
  have e1 := i_inc (a := σM.1 15 0) (c := 19) (by omega) (by omega) (by decide)
  have n0 : τM.1 15 0 = σM.1 15 0 + 1 := m15 0
  have n1 : τM.1 15 1 = σM.1 15 1 := m15 1
  have n2 : τM.1 15 2 = σM.1 15 2 := m15 2
  have n3 : τM.1 15 3 = σM.1 15 3 := m15 3
  have n4 : τM.1 15 4 = σM.1 15 4 := m15 4
  refine ⟨fun k hk => ?_, by rw [n4]; exact d2, DN_add hI (by decide) d3 (by omega) hN c25 cn (fun k h1 h2 => co _ (by omega) (by omega) (by omega)) m15 m14, fun p hp => ?_, fun q hq => ?_, fun r hr => ?_, fun p hp h2 => ?_, fun q hq h2 => ?_⟩
  · rw [c25, m15]
    by_cases e : k = 0
    · rw [if_pos e, if_pos e, d1 0 (by decide)]
    · rw [if_neg e, if_neg e, d1 k hk]
  · rw [n1] at hp
    obtain ⟨a1, a2, a3, a4, a5⟩ := d4 p hp
    unfold PD
    rw [co 30 (by decide) (by decide) (by decide), co 31 (by decide) (by decide) (by decide), co 42 (by decide) (by decide) (by decide), co 44 (by decide) (by decide) (by decide), co 45 (by decide) (by decide) (by decide), mo 19 (by decide) (by decide) (by decide), mo 16 (by decide) (by decide) (by decide), mo 17 (by decide) (by decide) (by decide), mo 18 (by decide) (by decide) (by decide), n0, e1]
    exact ⟨a1, a2, a3, by omega, a5⟩
  · rw [n2] at hq
    unfold QD
    rw [co 38 (by decide) (by decide) (by decide), co 40 (by decide) (by decide) (by decide), co 41 (by decide) (by decide) (by decide), mo 20 (by decide) (by decide) (by decide), mo 21 (by decide) (by decide) (by decide)]
    exact d5 q hq
  · rw [n3] at hr
    unfold RD
    rw [co 32 (by decide) (by decide) (by decide), co 33 (by decide) (by decide) (by decide), co 35 (by decide) (by decide) (by decide), co 36 (by decide) (by decide) (by decide), co 37 (by decide) (by decide) (by decide), mo 24 (by decide) (by decide) (by decide), mo 25 (by decide) (by decide) (by decide), mo 22 (by decide) (by decide) (by decide), mo 23 (by decide) (by decide) (by decide), n1, n2]
    exact d6 r hr
  · rw [n1] at hp
    rw [co 42 (by decide) (by decide) (by decide)]
    exact d7 p hp h2
  · rw [n2] at hq
    rw [co 38 (by decide) (by decide) (by decide)]
    exact d8 q hq h2
theorem p_strip {σC σM : gS} (hP : PSt σC σM) (hD : DS σC σM) (hn : (σM.1 15 0).toInt ≤ 5) : Re (fX3_readNamed σC 0) (fX10_newName σM 0) (fun a b => BO σM a.1 a.2 b.2) := by
  refine (p_nm hP hD (K := 0) (by decide) (by decide) (.inl ⟨rfl, hn⟩) (fun τ e => ?_)).mono (fun a b h => ⟨h.1, ?_⟩)
  · rcases c_full0 τ with ⟨z, -⟩ | ⟨-, z⟩
    · exact z
    · rw [e, hD.1 0 (by decide)] at z
      omega
  · rcases h.2 with ⟨h1, h2, -, h3⟩ | ⟨h1, h2⟩
    · exact .inl ⟨h1, h2, DS_strip hP.2.1 hD hn h3⟩
    · exact .inr ⟨h1, FSt_x h2⟩
theorem p_point {σC σM : gS} (hP : PSt σC σM) (hD : DS σC σM) (hn : (σM.1 15 2).toInt ≤ 19) (x : Int32) : Re (fX3_readNamed σC 2) (fX10_pointTold σM x) (fun a b => BO σM a.1 a.2 b) := by
  have hf : fX10_isFull σM 2 20 x = some (0, σM) := by
    rcases m_full hP.2.2.2.2.2.2.2.1 (k := 2) (K := 2) (by decide) (by decide) 20 x with ⟨-, z⟩ | ⟨z, -⟩
    · have l : (20 : Int32).toInt = 20 := by decide
      rw [z] at hn
      omega
    · exact z
  unfold fX10_pointTold
  rw [q_bd2 hf]
  dsimp only
  rw [if_pos rfl]
  obtain ⟨⟨r, τC⟩, ⟨y, τM⟩, e1, e2, hU, h⟩ := p_nm hP hD (k := 2) (K := 2) (by decide) (by decide) (.inr (.inr ⟨rfl, hn⟩)) (fun τ e => by
    rcases c_full2 τ with ⟨z, -⟩ | ⟨-, z⟩
    · exact z
    · rw [e, hD.1 2 (by decide)] at z
      omega)
  rw [e1, e2, bd2_so]
  dsimp only at hU h
  have b := jm_many hP.2.1
  rcases h with ⟨rfl, hQ, rfl, hX⟩ | ⟨rfl, hF⟩
  · refine re_tr hQ.2.2.2.2.2.2.2.1 (re_gr (gb_of (by omega) (by omega)) ?_)
    rw [nm_eq]
    have en : (σM.1 15 2).toNatClampNeg = (σM.1 15 2).toInt.toNat := rfl
    rw [en]
    have jM : JM (gsI τM 20 (σM.1 15 2).toInt.toNat 0) := JM_w hQ.2.1 (Int32.le_toInt _) (Int32.toInt_le _)
    refine ⟨_, _, rfl, rfl, UP_w hU (.inl (by show _ < 20; omega)), .inl ⟨rfl, PSt_mv hQ hQ.1 jM rfl rfl (fun k hk => gsI_row (by omega)), ?_⟩⟩
    obtain ⟨c, m, hN, c25, cn, co, m15, m14, mo⟩ := hX
    obtain ⟨d1, d2, d3, d4, d5, d6, d7, d8⟩ := hD
    have e1 := i_inc (a := σM.1 15 2) (c := 19) (by omega) (by omega) (by decide)
    have q15 : (gsI τM 20 (σM.1 15 2).toInt.toNat 0).1 15 = τM.1 15 := gsI_row (by decide)
    have n0 : τM.1 15 0 = σM.1 15 0 := m15 0
    have n1 : τM.1 15 1 = σM.1 15 1 := m15 1
    have n2 : τM.1 15 2 = σM.1 15 2 + 1 := m15 2
    have n3 : τM.1 15 3 = σM.1 15 3 := m15 3
    have n4 : τM.1 15 4 = σM.1 15 4 := m15 4
    have m20 : ∀ j, (gsI τM 20 (σM.1 15 2).toInt.toNat 0).1 20 j = if j = (σM.1 15 2).toInt.toNat then 0 else σM.1 20 j := fun j => by rw [gsI_at, mo 20 (by decide) (by decide) (by decide)]
    have mo' : ∀ k, k ≠ 0 → k ≠ 14 → k ≠ 15 → k ≠ 20 → (gsI τM 20 (σM.1 15 2).toInt.toNat 0).1 k = σM.1 k := fun k h1 h2 h3 h4 => (gsI_row h4).trans (mo k h1 h2 h3)
    refine ⟨fun k hk => ?_, by rw [q15, n4]; exact d2, DN_add hP.2.1 (by decide) d3 hn hN c25 cn (fun k h1 h2 => co _ (by omega) (by omega) (by omega)) (fun i => by rw [q15]; exact m15 i) m14, fun p hp => ?_, fun q hq => ?_, fun r hr => ?_, fun p hp h2 => ?_, fun q hq h2 => ?_⟩
    · rw [q15, c25, m15]
      by_cases e : k = 2
      · rw [if_pos e, if_pos e, d1 2 (by decide)]
      · rw [if_neg e, if_neg e, d1 k hk]
    · rw [q15, n1] at hp
      unfold PD
      rw [q15, co 30 (by decide) (by decide) (by decide), co 31 (by decide) (by decide) (by decide), co 42 (by decide) (by decide) (by decide), co 44 (by decide) (by decide) (by decide), co 45 (by decide) (by decide) (by decide), mo' 19 (by decide) (by decide) (by decide) (by decide), mo' 16 (by decide) (by decide) (by decide) (by decide), mo' 17 (by decide) (by decide) (by decide) (by decide), mo' 18 (by decide) (by decide) (by decide) (by decide), n0]
      exact d4 p hp
    · rw [q15, n2, e1] at hq
      unfold QD
      rw [m20, co 38 (by decide) (by decide) (by decide), co 40 (by decide) (by decide) (by decide), co 41 (by decide) (by decide) (by decide), mo' 21 (by decide) (by decide) (by decide) (by decide)]
      by_cases e : q = (σM.1 15 2).toInt.toNat
      · rw [if_pos e]
        exact ⟨d8 q (by omega) (by omega), by decide, by decide, fun z => absurd rfl z⟩
      · rw [if_neg e]
        exact d5 q (by omega)
    · rw [q15, n3] at hr
      obtain ⟨a1, a2, a3, a4, a5⟩ := d6 r hr
      unfold RD
      rw [q15, co 32 (by decide) (by decide) (by decide), co 33 (by decide) (by decide) (by decide), co 35 (by decide) (by decide) (by decide), co 36 (by decide) (by decide) (by decide), co 37 (by decide) (by decide) (by decide), mo' 24 (by decide) (by decide) (by decide) (by decide), mo' 25 (by decide) (by decide) (by decide) (by decide), mo' 22 (by decide) (by decide) (by decide) (by decide), mo' 23 (by decide) (by decide) (by decide) (by decide), n1, n2, e1]
      exact ⟨a1, a2, a3, by omega, a5⟩
    · rw [q15, n1] at hp
      rw [co 42 (by decide) (by decide) (by decide)]
      exact d7 p hp h2
    · rw [q15, n2, e1] at hq
      rw [co 38 (by decide) (by decide) (by decide)]
      exact d8 q (by omega) h2
  · refine re_fr hF.2.2.1 ?_
    exact ⟨_, _, rfl, rfl, hU, .inr ⟨rfl, FSt_x hF⟩⟩
/-! a picture -/
theorem p_picture {σC σM : gS} (hP : PSt σC σM) (hD : DS σC σM) (hn : (σM.1 15 1).toInt ≤ 11) (x : Int32) : Re (fX3_readPicture σC) (fX10_pictureTold σM x) (fun a b => BO σM a.1 a.2 b) := by
  have hf : fX10_isFull σM 1 12 x = some (0, σM) := by
    rcases m_full hP.2.2.2.2.2.2.2.1 (k := 1) (K := 1) (by decide) (by decide) 12 x with ⟨-, z⟩ | ⟨z, -⟩
    · have l : (12 : Int32).toInt = 12 := by decide
      rw [z] at hn
      omega
    · exact z
  have b := jm_many hP.2.1
  have hD' := hD
  obtain ⟨d1, d2, d3, d4, d5, d6, d7, d8⟩ := hD
  unfold fX10_pictureTold fX3_readPicture
  rw [q_bd2 hf]
  dsimp only
  rw [if_pos rfl]
  obtain ⟨⟨r, s1⟩, ⟨y, t1⟩, e1, e2, F1, G1, hU, h⟩ := p_new hP (k := 1) (K := 1) (by decide) (by decide) (by omega) (.inr (.inl ⟨rfl, hn⟩)) (d3 0 (by decide)) (d3 1 (by decide)) (d3 2 (by decide))
  rw [e1, e2, bd2_so, bd2_so]
  dsimp only at F1 G1 hU h
  have tail : ∀ {s t : gS} {z : Int32}, FSt s t → UP σM t → Ok (bd (fX10_asks t 4) fun σ10 => bd2 (fX10_oneOf σ10 0) fun r12 σ13 => nm (r12 : Int32) fun x14 => bd (fX10_asks σ13 5) fun σ16 => bd2 (fX10_takes σ16 6) fun r18 σ19 => (if r18 = 0 then bd2 (fX10_number σ19 0 3) fun r22 σ23 => jX10_pictureTold_61 σ23 z x14 r22 else jX10_pictureTold_61 σ19 z x14 4)) (fun b => BO σM 0 s b) := by
    intro s t z hF hu
    have hb := hF.2.2.1
    obtain ⟨w, ew⟩ := e_oneOf hF.2.1 hb (k := 0) (by decide) (by decide)
    rw [e_asks hb, bd_so, ew, bd2_so, nm_eq, e_asks hb, bd_so, e_takes hb, bd2_so, if_pos rfl, e_number hb, bd2_so]
    unfold jX10_pictureTold_61
    rw [nm_eq, if_neg hb]
    exact ok_some.mpr ⟨hu, .inr ⟨rfl, FSt_x hF⟩⟩
  rcases h with ⟨rfl, hQ, rfl, m, hN, m15, m14⟩ | ⟨rfl, hF⟩
  · refine re_fl one_ne ?_
    rw [nm_eq, nm_eq]
    have c25 : s1.1 25 = σC.1 25 := Fr_row F1 25 (by decide)
    have n0 : t1.1 15 0 = σM.1 15 0 := m15 0
    have n1 : t1.1 15 1 = σM.1 15 1 + 1 := m15 1
    have n2 : t1.1 15 2 = σM.1 15 2 := m15 2
    have n3 : t1.1 15 3 = σM.1 15 3 := m15 3
    have n4 : t1.1 15 4 = σM.1 15 4 := m15 4
    refine re_21 (p_word6 hQ) (fun a s2 t2 h2 => ?_)
    dsimp only at h2
    obtain ⟨F2, G2, ⟨rfl, hQ2⟩ | ⟨rfl, hF2⟩⟩ := h2
    · refine re_fl one_ne ?_
      have DN0 : DN 0 s2 t2 := by
        obtain ⟨z1, z2⟩ := d3 0 (by decide)
        have q15 : t2.1 15 = t1.1 15 := Fr_row G2 15 (by decide)
        have q14 : t2.2 14 = t1.2 14 := Fr_row2 G2 14 (by decide)
        refine ⟨?_, fun i hi => ?_⟩
        · rw [Fr_row F2 25 (by decide), c25, q15, n0]; exact z1
        · rw [q15, n0] at hi
          show NR (s2.1 27 i) (t2.2 14 (20 * 0 + i))
          rw [Fr_row F2 27 (by decide), Fr_row F1 27 (by decide), q14, m14, if_neg (by omega)]
          exact z2 i hi
      refine re_22 (p_old hQ2 (k := 0) (K := 0) (by decide) (by decide) DN0) (fun a s3 y3 t3 h3 => ?_)
      dsimp only at h3
      have U2 : UP σM t2 := UP_f hU G2 (by decide)
      obtain ⟨F3, G3, ⟨rfl, hQ3, h10, h21, hy0, hy1⟩ | ⟨rfl, hF3⟩⟩ := h3
      · refine re_fl one_ne ?_
        rw [nm_eq]
        refine re_21 (p_word7 hQ3) (fun a s4 t4 h4 => ?_)
        dsimp only at h4
        have U3 : UP σM t3 := UP_f U2 G3 (by decide)
        obtain ⟨F4, G4, ⟨rfl, hQ4⟩ | ⟨rfl, hF4⟩⟩ := h4
        · refine re_fl one_ne ?_
          rw [TURN_as (H := fun v t => jX10_pictureTold_61 t (σM.1 15 1) y3 v)]
          refine re_22 (p_turn hQ4) (fun a s5 v t5 h5 => ?_)
          dsimp only at h5
          have U4 : UP σM t4 := UP_f U3 G4 (by decide)
          obtain ⟨F5, G5, ⟨rfl, hQ5, h11, hv0, hv1⟩ | ⟨rfl, hF5⟩⟩ := h5
          · have U5 : UP σM t5 := UP_f U4 G5 (by decide)
            refine re_fl one_ne ?_
            have f10 : s5.1 46 10 = y3 := (((F5 46 10 (by decide) (by decide)).1).trans ((F4 46 10 (by decide) (by decide)).1)).trans h10
            have cC : ∀ k, k ≠ 46 → s5.1 k = σC.1 k := fun k hk => by
              rw [Fr_row F5 k (fun q hq => by simp [fr_fX3_readTurn] at hq; rcases hq with rfl | rfl | rfl | rfl | rfl | rfl | rfl <;> exact fun z => hk z.symm), Fr_row F4 k (fun q hq => by simp [fr_fX3_readWord_K7] at hq; rcases hq with rfl | rfl | rfl | rfl | rfl | rfl <;> exact fun z => hk z.symm), Fr_row F3 k (fun q hq => by simp [fr_fX3_readName] at hq; rcases hq with rfl | rfl | rfl | rfl | rfl | rfl | rfl | rfl <;> exact fun z => hk z.symm), Fr_row F2 k (fun q hq => by simp [fr_fX3_readWord_K6] at hq; rcases hq with rfl | rfl | rfl | rfl | rfl | rfl <;> exact fun z => hk z.symm), Fr_row F1 k (fun q hq => by simp [fr_fX3_readName] at hq; rcases hq with rfl | rfl | rfl | rfl | rfl | rfl | rfl | rfl <;> exact fun z => hk z.symm)]
            have cM : ∀ k, k ≠ 0 → t5.1 k = t1.1 k := fun k hk => by
              rw [Fr_row G5 k (fun q hq => by simp [fr_TURN] at hq; rcases hq with rfl | rfl | rfl | rfl <;> exact fun z => hk z.symm), Fr_row G4 k (fun q hq => by simp [fr_fX10_asks] at hq; rcases hq with rfl | rfl | rfl | rfl <;> exact fun z => hk z.symm), Fr_row G3 k (fun q hq => by simp [fr_fX10_oneOf] at hq; rcases hq with rfl | rfl | rfl | rfl | rfl <;> exact fun z => hk z.symm), Fr_row G2 k (fun q hq => by simp [fr_fX10_asks] at hq; rcases hq with rfl | rfl | rfl | rfl <;> exact fun z => hk z.symm)]
            have cM2 : t5.2 14 = t1.2 14 := by
              rw [Fr_row2 G5 14 (by decide), Fr_row2 G4 14 (by decide), Fr_row2 G3 14 (by decide), Fr_row2 G2 14 (by decide)]
            have cM1 : ∀ k, k ≠ 0 → k ≠ 14 → k ≠ 15 → t5.1 k = σM.1 k := fun k h1 h2 h3 => (cM k h1).trans (Fr_row G1 k (fun q hq => by simp [fr_fX10_newName] at hq; rcases hq with rfl | rfl | rfl | rfl | rfl | rfl | rfl <;> dsimp only <;> omega))
            have ec : σC.1 25 1 = σM.1 15 1 := d1 1 (by decide)
            have g12 := gb_of (i := σM.1 15 1) (n := 12) (by omega) (by omega)
            have g24 := gb_of (i := σM.1 15 1) (n := 24) (by omega) (by omega)
            have full : ∀ τ : gS, τ.1 25 = σC.1 25 → fX8_isFull_24 τ 1 = some 0 := fun τ e => by
              rcases c_full1 τ with ⟨z, -⟩ | ⟨-, z⟩
              · exact z
              · rw [e, ec] at z
                omega
            obtain ⟨n, hnn⟩ : ∃ n, n = (σM.1 15 1).toInt.toNat := ⟨_, rfl⟩
            -- the class's side
            obtain ⟨A, hA⟩ : ∃ A, A = gsI (gsI s5 30 n (s5.1 46 10)) 31 n (s5.1 46 11) := ⟨_, rfl⟩
            have A25 : A.1 25 = σC.1 25 := by rw [hA, gsI_row (by decide), gsI_row (by decide)]; exact cC 25 (by decide)
            have en := a_named (σ := A) (k := 1) (K := 1) (by decide) (by decide) (s1.1 46 9) (full A A25) (by rw [A25, ec]; exact b.2.1.1) (by rw [A25, ec]; omega)
            have eA : fX8_addPicture_24 s5 (s1.1 46 9) (s5.1 46 10) (s5.1 46 11) = some (gsI (gsI A (27 + 1) (A.1 25 1).toInt.toNat (s1.1 46 9)) 25 1 (A.1 25 1 + 1)) := by
              have x1 : s5.1 25 ((1 : Int32).toNatClampNeg) = σM.1 15 1 := by
                show s5.1 25 1 = _
                rw [cC 25 (by decide), ec]
              have x2 : (gsI s5 30 (σM.1 15 1).toNatClampNeg (s5.1 46 10)).1 25 ((1 : Int32).toNatClampNeg) = σM.1 15 1 := by
                rw [gsI_row (by decide)]; exact x1
              unfold fX8_addPicture_24
              rw [q_bd (full s5 (cC 25 (by decide))), if_pos rfl, q_gd (by decide), nm_eq, x1, q_gd g12, nm_eq, q_gd (by decide), nm_eq, x2, q_gd g12, nm_eq]
              have hA2 : gsI (gsI s5 30 (σM.1 15 1).toNatClampNeg (s5.1 46 10)) 31 (σM.1 15 1).toNatClampNeg (s5.1 46 11) = A := by rw [hA, hnn]; rfl
              rw [hA2, en, bd_so]
            have y0 : y3.toInt < (σM.1 15 0).toInt := by
              have e9 : t2.1 15 0 = σM.1 15 0 := by rw [Fr_row G2 15 (by decide), n0]
              rw [e9] at hy1
              exact hy1
            have y5 : y3.toInt ≤ 5 := by omega
            have jC := o_fX8_addPicture_24 hQ5.1 (p1 := s1.1 46 9) (p2 := s5.1 46 10) (p3 := s5.1 46 11) (by rw [f10]; exact hy0) (by rw [f10]; exact y5)
            rw [eA] at jC
            have jC := (ok_some.mp jC).1
            rw [eA, bd_so]
            obtain ⟨B, hB⟩ : ∃ B, B = gsI (gsI A (27 + 1) (A.1 25 1).toInt.toNat (s1.1 46 9)) 25 1 (A.1 25 1 + 1) := ⟨_, rfl⟩
            rw [← hB] at jC ⊢
            have en1 : (A.1 25 1).toInt.toNat = n := by rw [A25, ec, hnn]
            rw [en1] at hB
            have B25 : ∀ i, B.1 25 i = if i = 1 then σC.1 25 1 + 1 else σC.1 25 i := fun i => by rw [hB, gsI_at, gsI_row (by decide), A25]
            have B28 : ∀ i, B.1 (27 + 1) i = if i = n then s1.1 46 9 else σC.1 (27 + 1) i := fun i => by rw [hB, gsI_row (by decide), gsI_at, hA, gsI_row (by decide), gsI_row (by decide), cC 28 (by decide)]
            have B30 : ∀ i, B.1 30 i = if i = n then y3 else σC.1 30 i := fun i => by rw [hB, gsI_row (by decide), gsI_row (by decide), hA, gsI_row (by decide), gsI_at, f10, cC 30 (by decide)]
            have B31 : ∀ i, B.1 31 i = if i = n then v else σC.1 31 i := fun i => by rw [hB, gsI_row (by decide), gsI_row (by decide), hA, gsI_at, gsI_row (by decide), h11, cC 31 (by decide)]
            have Bo : ∀ k, k ≠ 25 → k ≠ 28 → k ≠ 30 → k ≠ 31 → B.1 k = s5.1 k := fun k k1 k2 k3 k4 => by rw [hB, gsI_row k1, gsI_row k2, hA, gsI_row k4, gsI_row k3]
            -- the reference's side
            unfold jX10_pictureTold_61
            rw [nm_eq]
            refine re_tr hQ5.2.2.2.2.2.2.2.1 (re_gr g24 ?_)
            rw [nm_eq]
            refine re_gr g24 ?_
            rw [nm_eq]
            refine re_gr g24 ?_
            rw [nm_eq]
            obtain ⟨E, hE⟩ : ∃ E, E = gsI (gsI (gsI t5 16 n y3) 17 n v) 18 n 0 := ⟨_, rfl⟩
            have hE2 : gsI (gsI (gsI t5 16 (σM.1 15 1).toNatClampNeg y3) 17 (σM.1 15 1).toNatClampNeg v) 18 (σM.1 15 1).toNatClampNeg 0 = E := by rw [hE, hnn]; rfl
            rw [hE2]
            have jM : JM E := by rw [hE]; exact JM_w (JM_w (JM_w hQ5.2.1 (show 0 ≤ _ from hy0) (show _ ≤ 5 from y5)) (Int32.le_toInt _) (Int32.toInt_le _)) (show (0 : Int) ≤ (0 : Int32).toInt by decide) (show (0 : Int32).toInt ≤ (9999 : Int) by decide)
            have E16 : ∀ i, E.1 16 i = if i = n then y3 else σM.1 16 i := fun i => by rw [hE, gsI_row (by decide), gsI_row (by decide), gsI_at, cM1 16 (by decide) (by decide) (by decide)]
            have E17 : ∀ i, E.1 17 i = if i = n then v else σM.1 17 i := fun i => by rw [hE, gsI_row (by decide), gsI_at, gsI_row (by decide), cM1 17 (by decide) (by decide) (by decide)]
            have E18 : ∀ i, E.1 18 i = if i = n then 0 else σM.1 18 i := fun i => by rw [hE, gsI_at, gsI_row (by decide), gsI_row (by decide), cM1 18 (by decide) (by decide) (by decide)]
            have Eo : ∀ k, k ≠ 16 → k ≠ 17 → k ≠ 18 → E.1 k = t5.1 k := fun k k1 k2 k3 => by rw [hE, gsI_row k3, gsI_row k2, gsI_row k1]
            have E15 : E.1 15 = t1.1 15 := (Eo 15 (by decide) (by decide) (by decide)).trans (cM 15 (by decide))
            have E14 : E.2 14 = t1.2 14 := by rw [hE]; exact cM2
            have nl : n < 12 := by omega
            refine ⟨_, _, rfl, rfl, ?_, .inl ⟨rfl, PSt_mv hQ5 jC jM (Bo 46 (by decide) (by decide) (by decide) (by decide)) (Bo 1 (by decide) (by decide) (by decide) (by decide)) (fun k hk => Eo k (by omega) (by omega) (by omega)), ?_⟩⟩
            · rw [hE]
              exact UP_w (UP_w (UP_w U5 (.inl nl)) (.inl nl)) (.inl nl)
            have i1 := i_inc (a := σM.1 15 1) (c := 19) (by omega) (by omega) (by decide)
            have Bc : ∀ k, k ≠ 25 → k ≠ 28 → k ≠ 30 → k ≠ 31 → k ≠ 46 → B.1 k = σC.1 k := fun k k1 k2 k3 k4 k5 => (Bo k k1 k2 k3 k4).trans (cC k k5)
            have Ec : ∀ k, k ≠ 0 → k ≠ 14 → k ≠ 15 → k ≠ 16 → k ≠ 17 → k ≠ 18 → E.1 k = σM.1 k := fun k k1 k2 k3 k4 k5 k6 => (Eo k k4 k5 k6).trans (cM1 k k1 k2 k3)
            refine ⟨fun k hk => ?_, by rw [E15, n4]; exact d2, DN_add hP.2.1 (by decide) d3 (by omega) hN B25 (fun i => by rw [B28, hnn]) (fun k h1 h2 => Bc _ (by omega) (by omega) (by omega) (by omega) (by omega)) (fun i => by rw [E15]; exact m15 i) (fun i => by rw [E14]; exact m14 i), fun p hp => ?_, fun q hq => ?_, fun r hr => ?_, fun p hp h2 => ?_, fun q hq h2 => ?_⟩
            · rw [B25, E15, m15]
              by_cases e : k = 1
              · rw [if_pos e, if_pos e, ec]
              · rw [if_neg e, if_neg e, d1 k hk]
            · rw [E15, n1, i1] at hp
              unfold PD
              rw [B30, B31, Bc 42 (by decide) (by decide) (by decide) (by decide) (by decide), Bc 44 (by decide) (by decide) (by decide) (by decide) (by decide), Bc 45 (by decide) (by decide) (by decide) (by decide) (by decide), Ec 19 (by decide) (by decide) (by decide) (by decide) (by decide) (by decide), E16, E17, E18, E15, n0]
              by_cases e : p = n
              · rw [if_pos e, if_pos e, if_pos e, if_pos e, if_pos e]
                exact ⟨rfl, rfl, d7 p (by omega) (by omega), y0, ⟨hv0, hv1⟩, by decide, fun z => absurd rfl z⟩
              · rw [if_neg e, if_neg e, if_neg e, if_neg e, if_neg e]
                exact d4 p (by omega)
            · rw [E15, n2] at hq
              unfold QD
              rw [Bc 38 (by decide) (by decide) (by decide) (by decide) (by decide), Bc 40 (by decide) (by decide) (by decide) (by decide) (by decide), Bc 41 (by decide) (by decide) (by decide) (by decide) (by decide), Ec 20 (by decide) (by decide) (by decide) (by decide) (by decide) (by decide), Ec 21 (by decide) (by decide) (by decide) (by decide) (by decide) (by decide)]
              exact d5 q hq
            · rw [E15, n3] at hr
              obtain ⟨a1, a2, a3, a4⟩ := d6 r hr
              unfold RD
              rw [Bc 32 (by decide) (by decide) (by decide) (by decide) (by decide), Bc 33 (by decide) (by decide) (by decide) (by decide) (by decide), Bc 35 (by decide) (by decide) (by decide) (by decide) (by decide), Bc 36 (by decide) (by decide) (by decide) (by decide) (by decide), Bc 37 (by decide) (by decide) (by decide) (by decide) (by decide), Ec 24 (by decide) (by decide) (by decide) (by decide) (by decide) (by decide), Ec 25 (by decide) (by decide) (by decide) (by decide) (by decide) (by decide), Ec 22 (by decide) (by decide) (by decide) (by decide) (by decide) (by decide), Ec 23 (by decide) (by decide) (by decide) (by decide) (by decide) (by decide), E15, n1, n2, i1]
              exact ⟨a1, a2, by omega, a4⟩
            · rw [E15, n1, i1] at hp
              rw [Bc 42 (by decide) (by decide) (by decide) (by decide) (by decide)]
              exact d7 p (by omega) h2
            · rw [E15, n2] at hq
              rw [Bc 38 (by decide) (by decide) (by decide) (by decide) (by decide)]
              exact d8 q hq h2
          · refine re_tl rfl (re_so ?_)
            unfold jX10_pictureTold_61
            rw [nm_eq, if_neg hF5.2.2.1]
            exact ok_some.mpr ⟨UP_f U4 G5 (by decide), .inr ⟨rfl, FSt_x hF5⟩⟩
        · refine re_tl rfl (re_so ?_)
          have hb := hF4.2.2.1
          rw [e_takes hb, bd2_so, if_pos rfl, e_number hb, bd2_so]
          unfold jX10_pictureTold_61
          rw [nm_eq, if_neg hb]
          exact ok_some.mpr ⟨UP_f U3 G4 (by decide), .inr ⟨rfl, FSt_x hF4⟩⟩
      · refine re_tl rfl (re_so ?_)
        have hb := hF3.2.2.1
        rw [nm_eq, e_asks hb, bd_so, e_takes hb, bd2_so, if_pos rfl, e_number hb, bd2_so]
        unfold jX10_pictureTold_61
        rw [nm_eq, if_neg hb]
        exact ok_some.mpr ⟨UP_f U2 G3 (by decide), .inr ⟨rfl, FSt_x hF3⟩⟩
    · refine re_tl rfl (re_so ?_)
      have hb := hF2.2.2.1
      obtain ⟨w, ew⟩ := e_oneOf hF2.2.1 hb (k := 0) (by decide) (by decide)
      rw [ew, bd2_so, nm_eq, e_asks hb, bd_so, e_takes hb, bd2_so, if_pos rfl, e_number hb, bd2_so]
      unfold jX10_pictureTold_61
      rw [nm_eq, if_neg hb]
      exact ok_some.mpr ⟨UP_f hU G2 (by decide), .inr ⟨rfl, FSt_x hF2⟩⟩
  · refine re_tl rfl (re_so ?_)
    rw [nm_eq]
    exact tail hF hU
end PH
