/-! THE TWO READERS, 11: a statement -/
section PK
theorem HW_iff {T : Nat → Int32} {n le a x : Int} {W V : Nat → Int32} {L : Nat} (hL : 0 < L) (hW : ∀ i, i < L → W i = V i) (hx : Wh (RG 97 122) T n a x) (n2 : a ≠ le) : HW T n le a W L ↔ WD T a x V L := by
  by_cases n1 : a = x
  · constructor
    · rintro ⟨e, h1, h2, -⟩
      exact absurd (n1.trans (Wh_uniq hx h1)) h2
    · rintro ⟨h1, -⟩
      omega
  · exact HW_of hW hx n1 n2
theorem PSt_34 {σC σM : gS} {x : Int32} (h : PSt σC σM) (hx : 0 ≤ x.toInt ∧ x.toInt ≤ 120) : PSt σC (gsI σM 0 34 x) := by
  obtain ⟨p1, p2, p3, p4, p5, p6, p7, p8, p9, p10, p11, p12⟩ := h
  exact ⟨p1, JM_w p2 (show 0 ≤ _ from hx.1) (show _ ≤ 120 from hx.2), p3, p4, p5, p6, p7, p8, WM_fr (Fr_w (L := [(0, 35)]) Fr_r (by decide)) (by decide) p9, p10, p11, p12⟩
/-- what comes of a statement -/
noncomputable def ST (σM : gS) (m r : Int32) (τC τM : gS) : Prop := UP σM τM ∧ ((r = 1 ∧ PSt τC τM ∧ DS τC τM ∧ τM.1 0 34 = m + 1 ∧ (τC.1 46 8).toInt < (τC.1 46 5).toInt) ∨ (r = 0 ∧ FSx τC τM))
theorem p_cont {σM τC τM : gS} {m r : Int32} (h : BO σM r τC τM) (hm : τM.1 0 34 = m) (h0 : 0 ≤ m.toInt) (h1 : m.toInt ≤ 119) : Re (jX3_readStatement_142 τC r) (jX10_blockTold_147 τM) (fun a b => ST σM m a.1 a.2 b) := by
  unfold jX3_readStatement_142 jX10_blockTold_147
  obtain ⟨hU, ⟨rfl, hP, hD⟩ | ⟨rfl, hF⟩⟩ := h
  · refine re_fl one_ne (re_21 (p_semi hP) (fun a s t g => ?_))
    dsimp only at g
    obtain ⟨F1, G1, g⟩ := g
    rw [nm_eq]
    have U2 : UP σM (gsI t 0 34 (t.1 0 34 + 1)) := UP_w (UP_f hU G1 (by decide)) (.inr (by decide))
    have t34 : t.1 0 34 = m := ((G1 0 34 (by decide) (by decide)).1).trans hm
    rcases g with ⟨rfl, hQ, hl⟩ | ⟨rfl, hF⟩
    · refine re_fl one_ne ⟨_, _, rfl, rfl, U2, .inl ⟨rfl, PSt_34 hQ ?_, DS_fr hD F1 (by decide) (Fr_w (L := [(0, 3), (0, 6), (0, 7), (0, 35)]) (Fr_c Fr_r G1 (by decide)) (by decide)) (by decide), ?_, hl⟩⟩
      · rw [t34]
        have := i_inc (a := m) (c := 119) (by omega) h1 (by decide)
        exact ⟨by omega, by omega⟩
      · show t.1 0 34 + 1 = _
        rw [t34]
    · exact re_tl rfl ⟨_, _, rfl, rfl, U2, .inr ⟨rfl, hF.1, hF.2.2.1, hF.2.2.2.1, hF.2.2.2.2⟩⟩
  · refine re_tl rfl ?_
    rw [e_asksSign hF.2.1, bd_so, nm_eq]
    exact ⟨_, _, rfl, rfl, UP_w hU (.inr (by decide)), .inr ⟨rfl, hF⟩⟩
theorem tk_pass {σC σM σ2 κ : gS} (hP : PSt σC σM) (hD : DS σC σM) (hm : MKP 97 122 σC σ2) (hκ : κ = gsI (gsI σ2 46 5 (σ2.1 46 7)) 46 8 ((gsI σ2 46 5 (σ2.1 46 7)).1 46 7)) {L : Nat} (hL : L ≤ 7) (he : (σ2.1 46 7).toInt = (σM.1 0 2).toInt + L) : PSt κ (tkM σM L) ∧ DS κ (tkM σM L) ∧ UP σM (tkM σM L) := by
  obtain ⟨p1, p2, p3, p4, p5, p6, p7, p8, p9, p10, p11, p12⟩ := hP
  obtain ⟨m1, m2, m3, m4, m5⟩ := hm
  have b7 := (jc_tape m1).2.2.2
  have bM := (jm_tape p2).2.1
  have lL : (Int32.ofNat L).toInt = L := iofNat_toInt (by omega)
  have ea : (σM.1 0 2 + Int32.ofNat L).toInt = (σM.1 0 2).toInt + L := by rw [iadd_toInt] <;> omega
  have e2 : σM.1 0 2 + Int32.ofNat L = σ2.1 46 7 := Int32.toInt_inj.mp (ea.trans he.symm)
  have hx : JM (gsI σM 0 2 (σM.1 0 2 + Int32.ofNat L)) := JM_w p2 (show 0 ≤ _ by omega) (show _ ≤ 1600 by omega)
  have jM : JM (tkM σM L) := JM_w hx (Int32.le_toInt _) (Int32.toInt_le _)
  have jC : JC κ := by rw [hκ]; exact JC_w (JC_w m1 (show 0 ≤ _ from b7.1) (show _ ≤ 1600 from b7.2)) (Int32.le_toInt _) (Int32.toInt_le _)
  have k5 : κ.1 46 5 = σ2.1 46 7 := by rw [hκ]; rfl
  have k8 : κ.1 46 8 = σ2.1 46 7 := by rw [hκ]; rfl
  have ko : ∀ i, i ≠ 5 → i ≠ 8 → κ.1 46 i = σ2.1 46 i := fun i a1 a2 => by rw [hκ, gsI_1, if_neg (fun z => a2 z.2), gsI_1, if_neg (fun z => a1 z.2)]
  have k1 : κ.1 1 = σC.1 1 := by rw [hκ, gsI_row (by decide), gsI_row (by decide)]; exact Fr_row m2 1 (by decide)
  have k4 : κ.1 46 4 = σC.1 46 4 := (ko 4 (by decide) (by decide)).trans ((m2 46 4 (by decide) (by decide)).1)
  have t2 : (tkM σM L).1 0 2 = σ2.1 46 7 := by rw [← e2]; rfl
  have t4 : (tkM σM L).1 0 4 = σ2.1 46 7 := by rw [← e2]; rfl
  have F : Fr [(0, 3), (0, 5)] σM (tkM σM L) := Fr_w (Fr_w Fr_r (by decide)) (by decide)
  obtain ⟨b, hb⟩ := Wh_ex BL (σC.1 1) (σC.1 46 4).toInt _ (σ2.1 46 7).toInt rfl
  refine ⟨⟨jC, jM, ?_, ?_, ?_, ⟨b, ?_, ?_⟩, ?_, ?_, WM_fr F (by decide) p9, ?_, ?_, ?_⟩, ?_, ?_⟩
  · rw [k1]; exact p3
  · rw [k4]; exact p4
  · rw [t4, k8]
  · rw [k1, k4, k5]; exact hb
  · rw [k1, k4, t2]; exact hb
  · rw [k5, k8]; exact Int.le_refl _
  · exact p8
  · exact (ko 2 (by decide) (by decide)).trans (((m2 46 2 (by decide) (by decide)).1).trans p10)
  · exact (ko 3 (by decide) (by decide)).trans (((m2 46 3 (by decide) (by decide)).1).trans p11)
  · exact p12
  · refine DS_eq hD (fun k h1 h2 => ?_) (fun k h1 h2 => Fr_row F k (fun q hq => by simp at hq; rcases hq with rfl | rfl <;> dsimp only <;> omega)) (Fr_row2 F 14 (by decide))
    rw [hκ, gsI_row (by omega), gsI_row (by omega)]
    exact Fr_row m2 k (fun q hq => by simp [fr_fX3_markRun] at hq; rcases hq with rfl | rfl | rfl <;> dsimp only <;> omega)
  · exact UP_f UP_r F (by decide)
theorem ST_up {σ τ : gS} {m r : Int32} {a b : gS} (hU : UP σ τ) (h : ST τ m r a b) : ST σ m r a b := ⟨UP_t hU h.1, h.2⟩
/-- full -/
theorem st_full {σC σM σ2 : gS} {m x : Int32} {L : Nat} (hm : JC σ2) (hx : σ2.1 46 6 = x) (hb : σM.1 0 5 = 0) : ST σM m 0 (fC σ2 4 (σ2.1 46 6)) (gsI (fM (tkM σM L) 4 x) 0 34 ((fM (tkM σM L) 4 x).1 0 34 + 1)) := by
  refine ⟨UP_w (UP_w (UP_w (UP_w (UP_w UP_r (.inr (by decide))) (.inr (by decide))) (.inr (by decide))) (.inr (by decide))) (.inr (by decide)), .inr ⟨rfl, JC_f hm, ?_, ?_, ?_⟩⟩
  · show (4 : Int32) ≠ 0
    decide
  · rfl
  · exact hx.symm
set_option maxHeartbeats 1000000 in
theorem p_stmt {σC σM : gS} {m : Int32} (hP : PSt σC σM) (hD : DS σC σM) (hm : σM.1 0 34 = m) (hm0 : 0 ≤ m.toInt) (hm1 : m.toInt ≤ 120) (hat : σM.1 0 2 = σC.1 46 5) (hbl : (σC.1 46 5).toInt < (σC.1 46 4).toInt → ¬ BL (σC.1 1 (σC.1 46 5).toInt.toNat)) (hle : (σC.1 46 8).toInt < (σC.1 46 5).toInt) : Re (fX3_readStatement σC m) (fX10_blockTold σM) (fun a b => ST σM m a.1 a.2 b) := by
  have hP' := hP
  obtain ⟨p1, p2, p3, p4, p5, -, p7, p8, p9, p10, p11, p12⟩ := hP'
  obtain ⟨σ2, e2, hM⟩ := r_mark p1 97 122
  have hM' := hM
  obtain ⟨m1, m2, m3, m4, m5⟩ := hM'
  have sb := jm_many p2
  have lr : (120 : Int32).toInt = 120 := by decide
  have e5 : (σ2.1 46 5).toInt = (σC.1 46 5).toInt := Wh_uniq m3 (Wh_self hbl)
  have e6 : σ2.1 46 6 = σM.1 0 2 := by rw [m4, hat]; exact Int32.toInt_inj.mp e5
  have u1 : σ2.1 1 = σC.1 1 := Fr_row m2 1 (by decide)
  have c25 : σ2.1 25 = σC.1 25 := Fr_row m2 25 (by decide)
  have n2 : (σC.1 46 5).toInt ≠ (σC.1 46 8).toInt := by omega
  rw [e5] at m5
  unfold fX3_readStatement fX10_blockTold
  refine re_el e2 ?_
  rw [nm_eq]
  have badC : ∀ k : Int32, (bd2 (fX3_fail σ2 k (σ2.1 46 6)) fun r s => some (vp_nar .boolean r, s)) = some (0, fC σ2 k (σ2.1 46 6)) := fun k => by
    rw [r_failC, bd2_so, nb0]
  by_cases h120 : m = 120
  · refine re_fl (fun z => ?_) (re_tr (hm.trans h120) ?_)
    · have := Int32.lt_iff_toInt_lt.mp z
      rw [h120] at this
      omega
    · rw [badC, r_fail 4 _ p8, bd_so]
      refine ⟨_, _, rfl, rfl, UP_w (UP_w UP_r (.inr (by decide))) (.inr (by decide)), .inr ⟨rfl, JC_f m1, ?_, rfl, ?_⟩⟩
      · show (4 : Int32) ≠ 0
        decide
      · exact e6.symm
  have hm119 : m.toInt ≤ 119 := by
    have : m.toInt ≠ (120 : Int32).toInt := fun z => h120 (Int32.toInt_inj.mp z)
    omega
  refine re_tl (Int32.lt_iff_toInt_lt.mpr (by omega)) (re_fr (fun z => h120 (hm.symm.trans z)) ?_)
  have bls : (σM.1 0 2).toInt < (σM.1 0 3).toInt → ¬ BL (σM.1 1 (σM.1 0 2).toInt.toNat) := by rw [hat, p3, p4]; exact hbl
  have tk : ∀ {p j L : Nat}, p ≠ 0 → gis zM.1 0 1 p = true → gsz zM.1 0 1 p = L → L ≤ 7 → 0 < L → (∀ i : Nat, i < L → σM.1 p i = bytC j i) → (fX10_takes σM p = some (1, tkM σM L) ∧ WD (σC.1 1) (σC.1 46 5).toInt (σ2.1 46 7).toInt (bytC j) L) ∨ (fX10_takes σM p = some (0, σM) ∧ ¬ WD (σC.1 1) (σC.1 46 5).toInt (σ2.1 46 7).toInt (bytC j) L) := by
    intro p j L hp hg hz hL hL0 hW
    have t := r_takes0 p2 hp hg hz hL p8 bls
    rw [hat, p3, p4, p5, HW_iff hL0 hW m5 n2] at t
    exact t
  have wd : ∀ {r : Option Int32} {W : Nat → Int32} {L : Nat}, (r = some 1 ∧ WD (σ2.1 1) (σ2.1 46 6).toInt (σ2.1 46 7).toInt W L) ∨ (r = some 0 ∧ ¬ WD (σ2.1 1) (σ2.1 46 6).toInt (σ2.1 46 7).toInt W L) → (r = some 1 ∧ WD (σC.1 1) (σC.1 46 5).toInt (σ2.1 46 7).toInt W L) ∨ (r = some 0 ∧ ¬ WD (σC.1 1) (σC.1 46 5).toInt (σ2.1 46 7).toInt W L) := by
    intro r W L h
    rw [m4, e5, u1] at h
    exact h
  obtain ⟨κ, hκ⟩ : ∃ κ, κ = gsI (gsI σ2 46 5 (σ2.1 46 7)) 46 8 ((gsI σ2 46 5 (σ2.1 46 7)).1 46 7) := ⟨_, rfl⟩
  have pass : fX3_passRun σ2 = some κ := by
    unfold fX3_passRun
    rw [nm_eq, nm_eq, hκ]
  have ep : ∀ {L : Nat} {W : Nat → Int32}, WD (σC.1 1) (σC.1 46 5).toInt (σ2.1 46 7).toInt W L → (σ2.1 46 7).toInt = (σM.1 0 2).toInt + L := fun h => by
    have := h.1
    rw [hat]
    omega
  have t34 : ∀ L, (tkM σM L).1 0 34 = m := fun L => hm
  have t15 : ∀ L, (tkM σM L).1 15 = σM.1 15 := fun L => (gsI_row (by decide)).trans (gsI_row (by decide))
  rcases wd (r_word0 m1) with ⟨h0, w0⟩ | ⟨h0, w0⟩
  · have hk : fX3_kindOfWord σ2 = some 0 := by unfold fX3_kindOfWord; rw [q_bd h0, if_neg one_ne]
    have tP := tk_pass hP hD hM hκ (L := 5) (by decide) (ep w0)
    rw [q_bd hk, nm_eq]
    refine re_fl (by decide) ?_
    rcases tk (p := 2) (j := 0) (L := 5) (by decide) (by decide) (by decide) (by decide) (by decide) (p9 (2, 0) (by decide)) with ⟨g0, -⟩ | ⟨-, z⟩
    · rw [g0, bd2_so, if_neg one_ne]
      rcases m_full (σ := tkM σM 5) p8 (k := 0) (K := 0) (by decide) (by decide) 6 (σM.1 0 2) with ⟨f1, f2⟩ | ⟨f1, f2⟩
      · have l : (6 : Int32).toInt = 6 := by decide
        have f3 : (σM.1 15 0).toInt = 6 := by rw [← t15 5, f2]; exact l
        rcases c_full0 σ2 with ⟨-, z⟩ | ⟨z, -⟩
        · rw [c25, hD.1 0 (by decide)] at z
          omega
        rw [q_bd z]
        refine re_fl one_ne ?_
        rw [badC]
        rw [f1, bd2_so, if_neg one_ne]
        unfold jX10_blockTold_147
        rw [e_asksSign (show ¬ (4 : Int32) = 0 by decide), bd_so, nm_eq]
        exact ⟨_, _, rfl, rfl, st_full (σC := σC) (x := σM.1 0 2) m1 e6 p8⟩
      · have l : (6 : Int32).toInt = 6 := by decide
        have f3 : (σM.1 15 0).toInt ≠ 6 := fun z => f2 (q_of 6 (by rw [t15, l]; exact z))
        have d2 := hD.2.1
        have f4 : (σM.1 15 0).toInt ≤ 5 := by omega
        have z : fX8_isFull_24 σ2 0 = some 0 := by
          rcases c_full0 σ2 with ⟨z, -⟩ | ⟨-, z⟩
          · exact z
          · rw [c25, hD.1 0 (by decide)] at z
            omega
        rw [q_bd z]
        refine re_tl rfl ?_
        rw [pass, bd_so]
        rw [f1, bd2_so, if_pos rfl]
        refine re_fl (by decide) (re_fl (by decide) (re_fl (by decide) (re_fl (by decide) (re_fl (by decide) ?_))))
        refine re_22 ((p_strip tP.1 tP.2.1 (by rw [t15]; exact f4)).r ((o_fX10_newName tP.1.2.1 (p1 := 0) (by decide) (by decide) (fun _ => .inl ⟨by decide, (by rw [t15]; exact f4)⟩)).mono (fun o h => h.2.1))) (fun a s1 y t1 h => ?_)
        dsimp only at h
        rw [nm_eq]
        exact (p_cont h.2 (((h.1 0 34 (by decide) (by decide)).1).trans (t34 _)) hm0 hm119).mono (fun a b h => ST_up tP.2.2 h)
    · exact absurd w0 z
  have g0 : fX10_takes σM 2 = some (0, σM) := by
    rcases tk (p := 2) (j := 0) (L := 5) (by decide) (by decide) (by decide) (by decide) (by decide) (p9 (2, 0) (by decide)) with ⟨-, z⟩ | ⟨z, -⟩
    · exact absurd z w0
    · exact z
  rcases wd (r_word1 m1) with ⟨h1, w1⟩ | ⟨h1, w1⟩
  · have hk : fX3_kindOfWord σ2 = some 1 := by unfold fX3_kindOfWord; rw [q_bd h0, if_pos rfl, q_bd h1, if_neg one_ne]
    have tP := tk_pass hP hD hM hκ (L := 7) (by decide) (ep w1)
    rw [q_bd hk, nm_eq]
    refine re_fl (by decide) ?_
    rw [g0, bd2_so, if_pos rfl]
    rcases tk (p := 3) (j := 1) (L := 7) (by decide) (by decide) (by decide) (by decide) (by decide) (p9 (3, 1) (by decide)) with ⟨g1, -⟩ | ⟨-, z⟩
    · rw [g1, bd2_so, if_neg one_ne]
      rcases m_full (σ := tkM σM 7) p8 (k := 1) (K := 1) (by decide) (by decide) 12 (σM.1 0 2) with ⟨f1, f2⟩ | ⟨f1, f2⟩
      · have l : (12 : Int32).toInt = 12 := by decide
        have f3 : (σM.1 15 1).toInt = 12 := by rw [← t15 7, f2]; exact l
        rcases c_full1 σ2 with ⟨-, z⟩ | ⟨z, -⟩
        · rw [c25, hD.1 1 (by decide)] at z
          omega
        rw [q_bd z]
        refine re_fl one_ne ?_
        rw [badC]
        have et : fX10_pictureTold (tkM σM 7) (σM.1 0 2) = some (fM (tkM σM 7) 4 (σM.1 0 2)) := by
          unfold fX10_pictureTold
          rw [f1, bd2_so, if_neg one_ne]
        rw [et, bd_so]
        unfold jX10_blockTold_147
        rw [e_asksSign (show ¬ (4 : Int32) = 0 by decide), bd_so, nm_eq]
        exact ⟨_, _, rfl, rfl, st_full (σC := σC) (x := σM.1 0 2) m1 e6 p8⟩
      · have l : (12 : Int32).toInt = 12 := by decide
        have f3 : (σM.1 15 1).toInt ≠ 12 := fun z => f2 (q_of 12 (by rw [t15, l]; exact z))
        have d2 := hD.2.1
        have f4 : (σM.1 15 1).toInt ≤ 11 := by omega
        have z : fX8_isFull_24 σ2 1 = some 0 := by
          rcases c_full1 σ2 with ⟨z, -⟩ | ⟨-, z⟩
          · exact z
          · rw [c25, hD.1 1 (by decide)] at z
            omega
        rw [q_bd z]
        refine re_tl rfl ?_
        rw [pass, bd_so]
        refine re_tl rfl ?_
        refine re_21 ((p_picture tP.1 tP.2.1 (by rw [t15]; exact f4) (σM.1 0 2)).r ((o_fX10_pictureTold tP.1.2.1 (p1 := σM.1 0 2)).mono (fun o h => h.2))) (fun a s1 t1 h => ?_)
        dsimp only at h
        rw [nm_eq]
        exact (p_cont h.2 (((h.1 0 34 (by decide) (by decide)).1).trans (t34 _)) hm0 hm119).mono (fun a b h => ST_up tP.2.2 h)
    · exact absurd w1 z
  have g1 : fX10_takes σM 3 = some (0, σM) := by
    rcases tk (p := 3) (j := 1) (L := 7) (by decide) (by decide) (by decide) (by decide) (by decide) (p9 (3, 1) (by decide)) with ⟨-, z⟩ | ⟨z, -⟩
    · exact absurd z w1
    · exact z
  rcases wd (r_word2 m1) with ⟨h2, w2⟩ | ⟨h2, w2⟩
  · have hk : fX3_kindOfWord σ2 = some 2 := by unfold fX3_kindOfWord; rw [q_bd h0, if_pos rfl, q_bd h1, if_pos rfl, q_bd h2, if_neg one_ne]
    have tP := tk_pass hP hD hM hκ (L := 5) (by decide) (ep w2)
    rw [q_bd hk, nm_eq]
    refine re_fl (by decide) ?_
    rw [g0, bd2_so, if_pos rfl]
    rw [g1, bd2_so, if_pos rfl]
    rcases tk (p := 7) (j := 2) (L := 5) (by decide) (by decide) (by decide) (by decide) (by decide) (p9 (7, 2) (by decide)) with ⟨g2, -⟩ | ⟨-, z⟩
    · rw [g2, bd2_so, if_neg one_ne]
      rcases m_full (σ := tkM σM 5) p8 (k := 2) (K := 2) (by decide) (by decide) 20 (σM.1 0 2) with ⟨f1, f2⟩ | ⟨f1, f2⟩
      · have l : (20 : Int32).toInt = 20 := by decide
        have f3 : (σM.1 15 2).toInt = 20 := by rw [← t15 5, f2]; exact l
        rcases c_full2 σ2 with ⟨-, z⟩ | ⟨z, -⟩
        · rw [c25, hD.1 2 (by decide)] at z
          omega
        rw [q_bd z]
        refine re_fl one_ne ?_
        rw [badC]
        have et : fX10_pointTold (tkM σM 5) (σM.1 0 2) = some (fM (tkM σM 5) 4 (σM.1 0 2)) := by
          unfold fX10_pointTold
          rw [f1, bd2_so, if_neg one_ne]
        rw [et, bd_so]
        unfold jX10_blockTold_147
        rw [e_asksSign (show ¬ (4 : Int32) = 0 by decide), bd_so, nm_eq]
        exact ⟨_, _, rfl, rfl, st_full (σC := σC) (x := σM.1 0 2) m1 e6 p8⟩
      · have l : (20 : Int32).toInt = 20 := by decide
        have f3 : (σM.1 15 2).toInt ≠ 20 := fun z => f2 (q_of 20 (by rw [t15, l]; exact z))
        have d2 := hD.2.1
        have f4 : (σM.1 15 2).toInt ≤ 19 := by omega
        have z : fX8_isFull_24 σ2 2 = some 0 := by
          rcases c_full2 σ2 with ⟨z, -⟩ | ⟨-, z⟩
          · exact z
          · rw [c25, hD.1 2 (by decide)] at z
            omega
        rw [q_bd z]
        refine re_tl rfl ?_
        rw [pass, bd_so]
        refine re_fl (by decide) (re_tl rfl ?_)
        refine re_21 ((p_point tP.1 tP.2.1 (by rw [t15]; exact f4) (σM.1 0 2)).r ((o_fX10_pointTold tP.1.2.1 (p1 := σM.1 0 2)).mono (fun o h => h.2))) (fun a s1 t1 h => ?_)
        dsimp only at h
        rw [nm_eq]
        exact (p_cont h.2 (((h.1 0 34 (by decide) (by decide)).1).trans (t34 _)) hm0 hm119).mono (fun a b h => ST_up tP.2.2 h)
    · exact absurd w2 z
  have g2 : fX10_takes σM 7 = some (0, σM) := by
    rcases tk (p := 7) (j := 2) (L := 5) (by decide) (by decide) (by decide) (by decide) (by decide) (p9 (7, 2) (by decide)) with ⟨-, z⟩ | ⟨z, -⟩
    · exact absurd z w2
    · exact z
  rcases wd (r_word3 m1) with ⟨h3, w3⟩ | ⟨h3, w3⟩
  · have hk : fX3_kindOfWord σ2 = some 3 := by unfold fX3_kindOfWord; rw [q_bd h0, if_pos rfl, q_bd h1, if_pos rfl, q_bd h2, if_pos rfl, q_bd h3, if_neg one_ne]
    have tP := tk_pass hP hD hM hκ (L := 3) (by decide) (ep w3)
    rw [q_bd hk, nm_eq]
    refine re_fl (by decide) ?_
    rw [g0, bd2_so, if_pos rfl]
    rw [g1, bd2_so, if_pos rfl]
    rw [g2, bd2_so, if_pos rfl]
    rcases tk (p := 8) (j := 3) (L := 3) (by decide) (by decide) (by decide) (by decide) (by decide) (p9 (8, 3) (by decide)) with ⟨g3, -⟩ | ⟨-, z⟩
    · rw [g3, bd2_so, if_neg one_ne]
      rcases m_full (σ := tkM σM 3) p8 (k := 3) (K := 3) (by decide) (by decide) 60 (σM.1 0 2) with ⟨f1, f2⟩ | ⟨f1, f2⟩
      · have l : (60 : Int32).toInt = 60 := by decide
        have f3 : (σM.1 15 3).toInt = 60 := by rw [← t15 3, f2]; exact l
        rcases c_full3 σ2 with ⟨-, z⟩ | ⟨z, -⟩
        · rw [c25, hD.1 3 (by decide)] at z
          omega
        rw [q_bd z]
        refine re_fl one_ne ?_
        rw [badC]
        have et : fX10_rowTold (tkM σM 3) (σM.1 0 2) = some (fM (tkM σM 3) 4 (σM.1 0 2)) := by
          unfold fX10_rowTold
          rw [f1, bd2_so, if_neg one_ne]
        rw [et, bd_so]
        unfold jX10_blockTold_147
        rw [e_asksSign (show ¬ (4 : Int32) = 0 by decide), bd_so, nm_eq]
        exact ⟨_, _, rfl, rfl, st_full (σC := σC) (x := σM.1 0 2) m1 e6 p8⟩
      · have l : (60 : Int32).toInt = 60 := by decide
        have f3 : (σM.1 15 3).toInt ≠ 60 := fun z => f2 (q_of 60 (by rw [t15, l]; exact z))
        have d2 := hD.2.1
        have f4 : (σM.1 15 3).toInt ≤ 59 := by omega
        have z : fX8_isFull_24 σ2 3 = some 0 := by
          rcases c_full3 σ2 with ⟨z, -⟩ | ⟨-, z⟩
          · exact z
          · rw [c25, hD.1 3 (by decide)] at z
            omega
        rw [q_bd z]
        refine re_tl rfl ?_
        rw [pass, bd_so]
        refine re_fl (by decide) (re_fl (by decide) (re_tl rfl ?_))
        refine re_21 ((p_row tP.1 tP.2.1 (by rw [t15]; exact f4) (σM.1 0 2)).r ((o_fX10_rowTold tP.1.2.1 (p1 := σM.1 0 2)).mono (fun o h => h.2))) (fun a s1 t1 h => ?_)
        dsimp only at h
        rw [nm_eq]
        exact (p_cont h.2 (((h.1 0 34 (by decide) (by decide)).1).trans (t34 _)) hm0 hm119).mono (fun a b h => ST_up tP.2.2 h)
    · exact absurd w3 z
  have g3 : fX10_takes σM 8 = some (0, σM) := by
    rcases tk (p := 8) (j := 3) (L := 3) (by decide) (by decide) (by decide) (by decide) (by decide) (p9 (8, 3) (by decide)) with ⟨-, z⟩ | ⟨z, -⟩
    · exact absurd z w3
    · exact z
  rcases wd (r_word4 m1) with ⟨h4, w4⟩ | ⟨h4, w4⟩
  · have hk : fX3_kindOfWord σ2 = some 4 := by unfold fX3_kindOfWord; rw [q_bd h0, if_pos rfl, q_bd h1, if_pos rfl, q_bd h2, if_pos rfl, q_bd h3, if_pos rfl, q_bd h4, if_neg one_ne]
    have tP := tk_pass hP hD hM hκ (L := 7) (by decide) (ep w4)
    rw [q_bd hk, nm_eq]
    refine re_fl (by decide) ?_
    rw [g0, bd2_so, if_pos rfl]
    rw [g1, bd2_so, if_pos rfl]
    rw [g2, bd2_so, if_pos rfl]
    rw [g3, bd2_so, if_pos rfl]
    rcases tk (p := 11) (j := 4) (L := 7) (by decide) (by decide) (by decide) (by decide) (by decide) (p9 (11, 4) (by decide)) with ⟨g4, -⟩ | ⟨-, z⟩
    · rw [g4, bd2_so, if_neg one_ne]
      rcases m_full (σ := tkM σM 7) p8 (k := 4) (K := 4) (by decide) (by decide) 10 (σM.1 0 2) with ⟨f1, f2⟩ | ⟨f1, f2⟩
      · have l : (10 : Int32).toInt = 10 := by decide
        have f3 : (σM.1 15 4).toInt = 10 := by rw [← t15 7, f2]; exact l
        rcases c_full4 σ2 with ⟨-, z⟩ | ⟨z, -⟩
        · rw [c25, hD.1 4 (by decide)] at z
          omega
        rw [q_bd z]
        refine re_fl one_ne ?_
        rw [badC]
        have et : fX10_controlTold (tkM σM 7) (σM.1 0 2) = some (fM (tkM σM 7) 4 (σM.1 0 2)) := by
          unfold fX10_controlTold
          rw [f1, bd2_so, if_neg one_ne]
        rw [et, bd_so]
        unfold jX10_blockTold_147
        rw [e_asksSign (show ¬ (4 : Int32) = 0 by decide), bd_so, nm_eq]
        exact ⟨_, _, rfl, rfl, st_full (σC := σC) (x := σM.1 0 2) m1 e6 p8⟩
      · have l : (10 : Int32).toInt = 10 := by decide
        have f3 : (σM.1 15 4).toInt ≠ 10 := fun z => f2 (q_of 10 (by rw [t15, l]; exact z))
        have d2 := hD.2.1
        have f4 : (σM.1 15 4).toInt ≤ 9 := by omega
        have z : fX8_isFull_24 σ2 4 = some 0 := by
          rcases c_full4 σ2 with ⟨z, -⟩ | ⟨-, z⟩
          · exact z
          · rw [c25, hD.1 4 (by decide)] at z
            omega
        rw [q_bd z]
        refine re_tl rfl ?_
        rw [pass, bd_so]
        refine re_fl (by decide) (re_fl (by decide) (re_fl (by decide) (re_tl rfl ?_)))
        refine re_21 ((p_control tP.1 tP.2.1 (by rw [t15]; exact f4) (σM.1 0 2)).r ((o_fX10_controlTold tP.1.2.1 (p1 := σM.1 0 2)).mono (fun o h => h.2))) (fun a s1 t1 h => ?_)
        dsimp only at h
        rw [nm_eq]
        exact (p_cont h.2 (((h.1 0 34 (by decide) (by decide)).1).trans (t34 _)) hm0 hm119).mono (fun a b h => ST_up tP.2.2 h)
    · exact absurd w4 z
  have g4 : fX10_takes σM 11 = some (0, σM) := by
    rcases tk (p := 11) (j := 4) (L := 7) (by decide) (by decide) (by decide) (by decide) (by decide) (p9 (11, 4) (by decide)) with ⟨-, z⟩ | ⟨z, -⟩
    · exact absurd z w4
    · exact z
  rcases wd (r_word5 m1) with ⟨h5, w5⟩ | ⟨h5, w5⟩
  · have hk : fX3_kindOfWord σ2 = some 5 := by unfold fX3_kindOfWord; rw [q_bd h0, if_pos rfl, q_bd h1, if_pos rfl, q_bd h2, if_pos rfl, q_bd h3, if_pos rfl, q_bd h4, if_pos rfl, q_bd h5, if_neg one_ne]
    have tP := tk_pass hP hD hM hκ (L := 6) (by decide) (ep w5)
    rw [q_bd hk, nm_eq]
    refine re_fl (by decide) ?_
    rw [g0, bd2_so, if_pos rfl]
    rw [g1, bd2_so, if_pos rfl]
    rw [g2, bd2_so, if_pos rfl]
    rw [g3, bd2_so, if_pos rfl]
    rw [g4, bd2_so, if_pos rfl]
    rcases tk (p := 13) (j := 5) (L := 6) (by decide) (by decide) (by decide) (by decide) (by decide) (p9 (13, 5) (by decide)) with ⟨g5, -⟩ | ⟨-, z⟩
    · have ea : fX10_asks σM 13 = some (tkM σM 6) := by
        unfold fX10_asks
        rw [if_pos p8, g5, bd2_so, if_neg one_ne]
      have tb : (tkM σM 6).1 0 5 = 0 := p8
      rw [ea, bd_so, if_pos tb, q_bd (c_full5 σ2)]
      refine re_tl rfl ?_
      rw [pass, bd_so]
      refine re_fl (by decide) (re_fl (by decide) (re_fl (by decide) (re_fl (by decide) (re_tl rfl ?_))))
      refine re_21 ((p_centre tP.1 tP.2.1).r ((o_fX10_centreTold tP.1.2.1).mono (fun o h => h.2))) (fun a s1 t1 h => ?_)
      dsimp only at h
      rw [nm_eq]
      exact (p_cont h.2 (((h.1 0 34 (by decide) (by decide)).1).trans (t34 _)) hm0 hm119).mono (fun a b h => ST_up tP.2.2 h)
    · exact absurd w5 z
  have g5 : fX10_takes σM 13 = some (0, σM) := by
    rcases tk (p := 13) (j := 5) (L := 6) (by decide) (by decide) (by decide) (by decide) (by decide) (p9 (13, 5) (by decide)) with ⟨-, z⟩ | ⟨z, -⟩
    · exact absurd z w5
    · exact z
  have hk : fX3_kindOfWord σ2 = some (-1) := by unfold fX3_kindOfWord; rw [q_bd h0, if_pos rfl, q_bd h1, if_pos rfl, q_bd h2, if_pos rfl, q_bd h3, if_pos rfl, q_bd h4, if_pos rfl, q_bd h5, if_pos rfl]
  have ea : fX10_asks σM 13 = some (fM σM 1 (σM.1 0 2)) := by
    unfold fX10_asks
    rw [if_pos p8, g5, bd2_so, if_pos rfl, r_fail 1 _ p8, bd_so]
  have tb : ¬ (fM σM 1 (σM.1 0 2)).1 0 5 = 0 := show ¬ (1 : Int32) = 0 by decide
  rw [q_bd hk, nm_eq, g0, bd2_so, if_pos rfl, g1, bd2_so, if_pos rfl, g2, bd2_so, if_pos rfl, g3, bd2_so, if_pos rfl, g4, bd2_so, if_pos rfl, ea, bd_so, if_neg tb]
  refine re_tr rfl ?_
  rw [badC]
  unfold jX10_blockTold_147
  rw [e_asksSign tb, bd_so, nm_eq]
  exact ⟨_, _, rfl, rfl, UP_w (UP_w (UP_w UP_r (.inr (by decide))) (.inr (by decide))) (.inr (by decide)), .inr ⟨rfl, JC_f m1, tb, rfl, e6.symm⟩⟩
end PK
