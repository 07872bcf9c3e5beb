/-! THE TWO READERS, 9: rows, control, centres -/
section PI
theorem bd_as2 {α β γ : Type} {f : Option α} {E : α → Option (β × gS)} {G : β → gS → Option γ} : bd2 (bd f E) G = bd f (fun a => bd2 (E a) G) := by
  cases f <;> rfl
noncomputable def AT2 (g h : gS → Int32 → gS) (σ : gS) : Option ((Int32 × Int32) × gS) := bd (fX10_asks σ 9) fun s => bd2 (fX10_number s 0 9999) fun x t => bd2 (fX10_number (g t x) 0 9999) fun y u => some ((x, y), h u y)
theorem AT2_as {σ : gS} {g h : gS → Int32 → gS} {γ : Type} {H : Int32 → Int32 → gS → Option γ} : (bd (fX10_asks σ 9) fun s => bd2 (fX10_number s 0 9999) fun x t => bd2 (fX10_number (g t x) 0 9999) fun y u => H x y (h u y)) = bd2 (AT2 g h σ) (fun xy u => H xy.1 xy.2 u) := by
  unfold AT2
  rw [bd_as2]
  congr 1
  funext s
  rw [bd2_as]
  congr 1
  funext x t
  rw [bd2_as]
  rfl
noncomputable def NOP (g : gS → Int32 → gS) : Prop := ∀ t x, (∀ k, k ≠ 24 → (g t x).1 k = t.1 k) ∧ (g t x).2 = t.2 ∧ UP t (g t x) ∧ (JM t → JM (g t x))
theorem NOP_id : NOP (fun t _ => t) := fun _ _ => ⟨fun _ _ => rfl, rfl, UP_r, id⟩
theorem PSt_v {σC σM : gS} {i : Nat} {x : Int32} (hi : i = 12 ∨ i = 13) (h : PSt σC σM) : PSt (gsI σC 46 i x) σM := by
  obtain ⟨p1, p2, p3, p4, p5, p6, p7, p8, p9, p10, p11, p12⟩ := h
  have e : ∀ j, j ≠ 12 → j ≠ 13 → (gsI σC 46 i x).1 46 j = σC.1 46 j := fun j h1 h2 => by rw [gsI_at, if_neg (by omega)]
  have t1 : (gsI σC 46 i x).1 1 = σC.1 1 := gsI_row (by decide)
  have jC : JC (gsI σC 46 i x) := by
    rcases hi with rfl | rfl
    · exact JC_w p1 (Int32.le_toInt _) (Int32.toInt_le _)
    · exact JC_w p1 (Int32.le_toInt _) (Int32.toInt_le _)
  unfold PSt
  rw [t1, e 4 (by decide) (by decide), e 8 (by decide) (by decide), e 5 (by decide) (by decide), e 2 (by decide) (by decide), e 3 (by decide) (by decide)]
  exact ⟨jC, p2, p3, p4, p5, p6, p7, p8, p9, p10, p11, p12⟩
theorem p_at {σC σM : gS} (hP : PSt σC σM) {g h : gS → Int32 → gS} (hg : NOP g) (hh : NOP h) : Re (fX3_readAt σC) (AT2 g h σM) (fun a b => (∀ k, k ≠ 0 → k ≠ 24 → b.2.1 k = σM.1 k) ∧ b.2.2 14 = σM.2 14 ∧ UP σM b.2 ∧ ((a.1 = 1 ∧ PSt a.2 b.2 ∧ a.2.1 46 12 = b.1.1 ∧ a.2.1 46 13 = b.1.2 ∧ (0 ≤ b.1.1.toInt ∧ b.1.1.toInt ≤ 9999) ∧ (0 ≤ b.1.2.toInt ∧ b.1.2.toInt ≤ 9999) ∧ ∃ t4 t2 : gS, t4.1 24 = (g t2 b.1.1).1 24 ∧ t2.1 24 = σM.1 24 ∧ b.2 = h t4 b.1.2) ∨ (a.1 = 0 ∧ FSx a.2 b.2))) := by
  have lr : ∀ {L : List (Nat × Nat)} {s t : gS}, Fr L s t → (∀ q ∈ L, q.1 = 0) → (∀ k, k ≠ 0 → k ≠ 24 → t.1 k = s.1 k) ∧ t.2 14 = s.2 14 ∧ UP s t := fun F hL => ⟨fun k h1 _ => Fr_row F k (fun q hq => by rw [hL q hq]; exact fun z => h1 z.symm), Fr_row2 F 14 (fun q hq => by rw [hL q hq]; decide), UP_f UP_r F (fun q hq => by rw [hL q hq]; omega)⟩
  have lg : ∀ {g : gS → Int32 → gS}, NOP g → ∀ t x, (∀ k, k ≠ 0 → k ≠ 24 → (g t x).1 k = t.1 k) ∧ (g t x).2 14 = t.2 14 ∧ UP t (g t x) := fun hg t x => ⟨fun k _ h2 => (hg t x).1 k h2, by rw [(hg t x).2.1], (hg t x).2.2.1⟩
  have tr : ∀ {s t u : gS}, ((∀ k, k ≠ 0 → k ≠ 24 → t.1 k = s.1 k) ∧ t.2 14 = s.2 14 ∧ UP s t) → ((∀ k, k ≠ 0 → k ≠ 24 → u.1 k = t.1 k) ∧ u.2 14 = t.2 14 ∧ UP t u) → (∀ k, k ≠ 0 → k ≠ 24 → u.1 k = s.1 k) ∧ u.2 14 = s.2 14 ∧ UP s u := fun h1 h2 => ⟨fun k a b => (h2.1 k a b).trans (h1.1 k a b), h2.2.1.trans h1.2.1, UP_t h1.2.2 h2.2.2⟩
  have fg : ∀ (g : gS → Int32 → gS), NOP g → ∀ (s t : gS) (x : Int32), FSx s t → FSx s (g t x) := fun g hg s t x hF => by
    obtain ⟨f1, f2, f3, f4⟩ := hF
    have e := (hg t x).1 0 (by decide)
    unfold FSx
    rw [e]
    exact ⟨f1, f2, f3, f4⟩
  unfold fX3_readAt AT2
  refine re_21 (p_word9 hP) (fun a s1 t1 h1 => ?_)
  dsimp only at h1
  obtain ⟨F1, G1, ⟨rfl, hQ1⟩ | ⟨rfl, hF1⟩⟩ := h1
  · refine re_fl one_ne (re_22 (p_number hQ1 0 9999) (fun a s2 x t2 h2 => ?_))
    dsimp only at h2
    have R1 := lr G1 (by decide)
    obtain ⟨F2, G2, ⟨rfl, hQ2, hx, hx0, hx1⟩ | ⟨rfl, hF2⟩⟩ := h2
    · refine re_fl one_ne ?_
      rw [nm_eq]
      have R2 := tr R1 (lr G2 (by decide))
      have R3 := tr R2 (lg hg t2 x)
      have hQ3 : PSt (gsI s2 46 12 (s2.1 46 11)) (g t2 x) := PSt_mv (PSt_v (.inl rfl) hQ2) (PSt_v (.inl rfl) hQ2).1 ((hg t2 x).2.2.2 hQ2.2.1) rfl rfl (fun k hk => (hg t2 x).1 k (by omega))
      refine re_22 (p_number hQ3 0 9999) (fun a s4 y t4 h4 => ?_)
      dsimp only at h4
      obtain ⟨F4, G4, ⟨rfl, hQ4, hy, hy0, hy1⟩ | ⟨rfl, hF4⟩⟩ := h4
      · refine re_fl one_ne ?_
        rw [nm_eq]
        have R4 := tr (tr R3 (lr G4 (by decide))) (lg hh t4 y)
        have l0 := z0
        have l9 : (9999 : Int32).toInt = 9999 := by decide
        refine ⟨_, _, rfl, rfl, R4.1, R4.2.1, R4.2.2, .inl ⟨rfl, PSt_mv (PSt_v (.inr rfl) hQ4) (PSt_v (.inr rfl) hQ4).1 ((hh t4 y).2.2.2 hQ4.2.1) rfl rfl (fun k hk => (hh t4 y).1 k (by omega)), ?_, ?_, ⟨by show 0 ≤ x.toInt; omega, by show x.toInt ≤ 9999; omega⟩, ⟨by show 0 ≤ y.toInt; omega, by show y.toInt ≤ 9999; omega⟩, t4, t2, Fr_row G4 24 (by decide), (Fr_row G2 24 (by decide)).trans (Fr_row G1 24 (by decide)), rfl⟩⟩
        · show s4.1 46 12 = x
          rw [(F4 46 12 (by decide) (by decide)).1]
          exact hx
        · exact hy
      · have R4 := tr (tr R3 (lr G4 (by decide))) (lg hh t4 y)
        exact re_tl rfl ⟨_, _, rfl, rfl, R4.1, R4.2.1, R4.2.2, .inr ⟨rfl, fg h hh _ _ _ (FSt_x hF4)⟩⟩
    · have hb : ¬ (g t2 x).1 0 5 = 0 := by rw [(hg t2 x).1 0 (by decide)]; exact hF2.2.2.1
      have R4 := tr (tr (tr R1 (lr G2 (by decide))) (lg hg t2 x)) (lg hh (g t2 x) 0)
      rw [e_number hb, bd2_so]
      exact re_tl rfl ⟨_, _, rfl, rfl, R4.1, R4.2.1, R4.2.2, .inr ⟨rfl, fg h hh _ _ _ (fg g hg _ _ _ (FSt_x hF2))⟩⟩
  · have hb0 : ¬ t1.1 0 5 = 0 := hF1.2.2.1
    have hb : ¬ (g t1 0).1 0 5 = 0 := by rw [(hg t1 0).1 0 (by decide)]; exact hF1.2.2.1
    have R4 := tr (tr (lr G1 (by decide)) (lg hg t1 0)) (lg hh (g t1 0) 0)
    rw [e_number hb0, bd2_so, e_number hb, bd2_so]
    exact re_tl rfl ⟨_, _, rfl, rfl, R4.1, R4.2.1, R4.2.2, .inr ⟨rfl, fg h hh _ _ _ (fg g hg _ _ _ (FSt_x hF1))⟩⟩
/-- the cells of the class's reader alone have changed -/
theorem cRo {L : List (Nat × Nat)} {s t : gS} (F : Fr L s t) (hL : ∀ q ∈ L, q.1 = 46) {k : Nat} (hk : k ≠ 46) : t.1 k = s.1 k := Fr_row F k (fun q hq => by rw [hL q hq]; exact fun z => hk z.symm)
theorem mRo {L : List (Nat × Nat)} {s t : gS} (F : Fr L s t) (hL : ∀ q ∈ L, q.1 = 0) {k : Nat} (hk : k ≠ 0) : t.1 k = s.1 k := Fr_row F k (fun q hq => by rw [hL q hq]; exact fun z => hk z.symm)
/-! control -/
theorem p_control {σC σM : gS} (hP : PSt σC σM) (hD : DS σC σM) (hn : (σM.1 15 4).toInt ≤ 9) (x : Int32) : Re (fX3_readControl σC) (fX10_controlTold σM x) (fun a b => BO σM a.1 a.2 b) := by
  have hf : fX10_isFull σM 4 10 x = some (0, σM) := by
    rcases m_full hP.2.2.2.2.2.2.2.1 (k := 4) (K := 4) (by decide) (by decide) 10 x with ⟨-, z⟩ | ⟨z, -⟩
    · have l : (10 : Int32).toInt = 10 := by decide
      rw [z] at hn
      omega
    · exact z
  have b := jm_many hP.2.1
  obtain ⟨d1, d2, d3, d4, d5, d6, d7, d8⟩ := hD
  unfold fX10_controlTold fX3_readControl
  rw [q_bd2 hf]
  dsimp only
  rw [if_pos rfl]
  have tail : ∀ {s t : gS} {z : Int32}, FSx s t → UP σM t → Ok (jX10_controlTold_43 t z) (fun b => BO σM 0 s b) := by
    intro s t z hF hu
    have hb := hF.2.1
    unfold jX10_controlTold_43
    rw [e_asks hb, bd_so, e_number hb, bd2_so, nm_eq, e_number hb, bd2_so, nm_eq, e_asks hb, bd_so, e_number hb, bd2_so, nm_eq, if_neg hb]
    exact ok_some.mpr ⟨hu, .inr ⟨rfl, hF⟩⟩
  refine re_22 (p_old hP (k := 2) (K := 2) (by decide) (by decide) (d3 2 (by decide))) (fun a s1 q t1 h1 => ?_)
  dsimp only at h1
  rw [nm_eq]
  obtain ⟨F1, G1, ⟨rfl, hQ1, h10, h21, q0, q1⟩ | ⟨rfl, hF1⟩⟩ := h1
  · have U1 : UP σM t1 := UP_f UP_r G1 (by decide)
    have Q := d5 q.toInt.toNat (by omega)
    obtain ⟨Q1, Q2, Q3, Q4⟩ := Q
    have g20 := gb_of (i := q) (n := 20) (by omega) (by omega)
    have g40 := gb_of (i := q) (n := 40) (by omega) (by omega)
    refine re_fl one_ne (re_tr hQ1.2.2.2.2.2.2.2.1 (re_gl (by rw [h10]; exact g20) (re_gr g40 ?_)))
    rw [nm_eq, h10, n_toInt, cRo F1 (by decide) (show 38 ≠ 46 by decide), mRo G1 (by decide) (show 20 ≠ 0 by decide), Q1]
    by_cases hc : σM.1 20 q.toInt.toNat = 0
    · refine re_tl hc (re_tr hc ?_)
      unfold jX10_controlTold_43
      have as := AT2_as (σ := t1) (g := fun t _ => t) (h := fun u _ => u) (H := fun x y u => bd (fX10_asks u 12) fun σ21 => bd2 (fX10_number σ21 1 2) fun r23 σ24 => nm (r23 : Int32) fun x25 => (if (σ24.1 0 5) = 0 then gd (gb (2 * q) 80) <| nm (gsI σ24 21 (2 * q).toNatClampNeg x) fun σ27 => gd (gb ((2 * q) + 1) 80) <| nm (gsI σ27 21 ((2 * q) + 1).toNatClampNeg y) fun σ28 => gd (gb q 40) <| nm (gsI σ28 20 q.toNatClampNeg x25) fun σ29 => gd (gb 4 12) <| nm (σ29.1 15 ((4 : Int32).toNatClampNeg)) fun v30 => gd (gb 4 12) <| nm (gsI σ29 15 ((4 : Int32).toNatClampNeg) (v30 + 1)) fun σ31 => some σ31 else some σ24))
      show Re _ (bd (fX10_asks t1 9) fun s => bd2 (fX10_number s 0 9999) fun x t => bd2 (fX10_number t 0 9999) fun y u => bd (fX10_asks u 12) fun σ21 => bd2 (fX10_number σ21 1 2) fun r23 σ24 => nm (r23 : Int32) fun x25 => (if (σ24.1 0 5) = 0 then gd (gb (2 * q) 80) <| nm (gsI σ24 21 (2 * q).toNatClampNeg x) fun σ27 => gd (gb ((2 * q) + 1) 80) <| nm (gsI σ27 21 ((2 * q) + 1).toNatClampNeg y) fun σ28 => gd (gb q 40) <| nm (gsI σ28 20 q.toNatClampNeg x25) fun σ29 => gd (gb 4 12) <| nm (σ29.1 15 ((4 : Int32).toNatClampNeg)) fun v30 => gd (gb 4 12) <| nm (gsI σ29 15 ((4 : Int32).toNatClampNeg) (v30 + 1)) fun σ31 => some σ31 else some σ24)) _
      rw [as]
      refine re_22 ((p_at hQ1 NOP_id NOP_id).l (o_fX3_readAt hQ1.1)) (fun a s2 xy t2 h2 => ?_)
      obtain ⟨xx, yy⟩ := xy
      dsimp only at h2 ⊢
      obtain ⟨⟨-, F2, -⟩, R1, R2, R3, ⟨rfl, hQ2, h12, h13, hx, hy, t9, t8, y1, y2, y3⟩ | ⟨rfl, hF2⟩⟩ := h2
      · refine re_fl one_ne (re_21 (p_word11 hQ2) (fun a s3 t3 h3 => ?_))
        dsimp only at h3
        have U2 := UP_t U1 R3
        obtain ⟨F3, G3, ⟨rfl, hQ3⟩ | ⟨rfl, hF3⟩⟩ := h3
        · refine re_fl one_ne (re_22 (p_number hQ3 1 2) (fun a s4 w t4 h4 => ?_))
          dsimp only at h4
          have U3 : UP σM t3 := UP_f U2 G3 (by decide)
          rw [nm_eq]
          obtain ⟨F4, G4, ⟨rfl, hQ4, h11, w0, w1⟩ | ⟨rfl, hF4⟩⟩ := h4
          · have U4 : UP σM t4 := UP_f U3 G4 (by decide)
            have f10 : s4.1 46 10 = q := (((F4 46 10 (by decide) (by decide)).1).trans (((F3 46 10 (by decide) (by decide)).1).trans ((F2 46 10 (by decide) (by decide)).1))).trans h10
            have f12 : s4.1 46 12 = xx := (((F4 46 12 (by decide) (by decide)).1).trans ((F3 46 12 (by decide) (by decide)).1)).trans h12
            have f13 : s4.1 46 13 = yy := (((F4 46 13 (by decide) (by decide)).1).trans ((F3 46 13 (by decide) (by decide)).1)).trans h13
            have cC : ∀ k, k ≠ 46 → s4.1 k = σC.1 k := fun k hk => by rw [cRo F4 (by decide) hk, cRo F3 (by decide) hk, cRo F2 (by decide) hk, cRo F1 (by decide) hk]
            have cM : ∀ k, k ≠ 0 → k ≠ 24 → t4.1 k = σM.1 k := fun k h1 h2 => by rw [mRo G4 (by decide) h1, mRo G3 (by decide) h1, R1 k h1 h2, mRo G1 (by decide) h1]
            have cM24 : t4.1 24 = σM.1 24 := by rw [mRo G4 (by decide) (by decide), mRo G3 (by decide) (by decide)]; exact (congrArg (fun s : gS => s.1 24) y3).trans (y1.trans (y2.trans (mRo G1 (by decide) (by decide))))
            have cM2 : t4.2 14 = σM.2 14 := by rw [Fr_row2 G4 14 (by decide), Fr_row2 G3 14 (by decide), R2, Fr_row2 G1 14 (by decide)]
            obtain ⟨n, hnn⟩ : ∃ n, n = q.toInt.toNat := ⟨_, rfl⟩
            rw [← hnn] at Q1 Q2 Q3 Q4
            obtain ⟨B, hB⟩ : ∃ B, B = gsI (gsI (gsI (gsI s4 38 n w) 40 n xx) 41 n yy) 25 4 (σC.1 25 4 + 1) := ⟨_, rfl⟩
            have eA : fX8_addControl_24 s4 q xx yy w = some B := by
              unfold fX8_addControl_24
              rw [q_gd g20, nm_eq, q_gd (by decide), q_gd g20, nm_eq, q_gd (by decide), q_gd g20, nm_eq, q_gd (by decide), nm_eq, q_gd (by decide), nm_eq]
              have e25 : (gsI (gsI (gsI s4 38 q.toNatClampNeg w) 40 q.toNatClampNeg xx) 41 q.toNatClampNeg yy).1 25 ((4 : Int32).toNatClampNeg) = σC.1 25 4 := by
                rw [gsI_row (by decide), gsI_row (by decide), gsI_row (by decide), cC 25 (by decide)]
                rfl
              rw [e25, hB, hnn]
              rfl
            have jC := o_fX8_addControl_24 hQ4.1 (p1 := q) (p2 := xx) (p3 := yy) (p4 := w) (by omega) (by omega)
            rw [eA] at jC
            have jC := (ok_some.mp jC).1
            refine re_fl one_ne ?_
            rw [f10, f12, f13, h11, eA, bd_so]
            have l2 : (2 : Int32).toInt = 2 := by decide
            have l1 : (1 : Int32).toInt = 1 := by decide
            have m2 : (2 * q).toInt = 2 * q.toInt := imulc (by decide) (by omega) (by omega)
            have m21 : (2 * q + 1).toInt = 2 * q.toInt + 1 := by rw [iadd_toInt] <;> omega
            have k2 : (2 * q).toNatClampNeg = 2 * n := by rw [n_toInt]; omega
            have k21 : (2 * q + 1).toNatClampNeg = 2 * n + 1 := by rw [n_toInt]; omega
            have kq : q.toNatClampNeg = n := by rw [n_toInt]; omega
            refine re_tr hQ4.2.2.2.2.2.2.2.1 (re_gr (gb_of (by omega) (by omega)) ?_)
            rw [nm_eq]
            refine re_gr (gb_of (by omega) (by omega)) ?_
            rw [nm_eq]
            refine re_gr g40 ?_
            rw [nm_eq]
            refine re_gr (by decide) ?_
            rw [nm_eq]
            refine re_gr (by decide) ?_
            rw [nm_eq, k2, k21, kq]
            have e15 : (gsI (gsI (gsI t4 21 (2 * n) xx) 21 (2 * n + 1) yy) 20 n w).1 15 ((4 : Int32).toNatClampNeg) = σM.1 15 4 := by
              rw [gsI_row (by decide), gsI_row (by decide), gsI_row (by decide), cM 15 (by decide) (by decide)]
              rfl
            rw [e15]
            obtain ⟨E, hE⟩ : ∃ E, E = gsI (gsI (gsI (gsI t4 21 (2 * n) xx) 21 (2 * n + 1) yy) 20 n w) 15 4 (σM.1 15 4 + 1) := ⟨_, rfl⟩
            have hE2 : gsI (gsI (gsI (gsI t4 21 (2 * n) xx) 21 (2 * n + 1) yy) 20 n w) 15 ((4 : Int32).toNatClampNeg) (σM.1 15 4 + 1) = E := by rw [hE]; rfl
            rw [hE2]
            have jM : JM E := by rw [hE]; exact JM_w (JM_w (JM_w (JM_w hQ4.2.1 (Int32.le_toInt _) (Int32.toInt_le _)) (Int32.le_toInt _) (Int32.toInt_le _)) (Int32.le_toInt _) (Int32.toInt_le _)) (Int32.le_toInt _) (Int32.toInt_le _)
            have Bo : ∀ k, k ≠ 25 → k ≠ 38 → k ≠ 40 → k ≠ 41 → B.1 k = s4.1 k := fun k k1 k2 k3 k4 => by rw [hB, gsI_row k1, gsI_row k4, gsI_row k3, gsI_row k2]
            have Bc : ∀ k, k ≠ 25 → k ≠ 38 → k ≠ 40 → k ≠ 41 → k ≠ 46 → B.1 k = σC.1 k := fun k k1 k2 k3 k4 k5 => (Bo k k1 k2 k3 k4).trans (cC k k5)
            have Eo : ∀ k, k ≠ 15 → k ≠ 20 → k ≠ 21 → E.1 k = t4.1 k := fun k k1 k2 k3 => by rw [hE, gsI_row k1, gsI_row k2, gsI_row k3, gsI_row k3]
            have Ec : ∀ k, k ≠ 0 → k ≠ 15 → k ≠ 20 → k ≠ 21 → k ≠ 24 → E.1 k = σM.1 k := fun k k0 k1 k2 k3 k4 => (Eo k k1 k2 k3).trans (cM k k0 k4)
            have Ec24 : E.1 24 = σM.1 24 := (Eo 24 (by decide) (by decide) (by decide)).trans cM24
            have E15 : ∀ i, E.1 15 i = if i = 4 then σM.1 15 4 + 1 else σM.1 15 i := fun i => by rw [hE, gsI_at, gsI_row (by decide), gsI_row (by decide), gsI_row (by decide), cM 15 (by decide) (by decide)]
            have B25 : ∀ i, B.1 25 i = if i = 4 then σC.1 25 4 + 1 else σC.1 25 i := fun i => by rw [hB, gsI_at, gsI_row (by decide), gsI_row (by decide), gsI_row (by decide), cC 25 (by decide)]
            have B38 : ∀ i, B.1 38 i = if i = n then w else σC.1 38 i := fun i => by rw [hB, gsI_row (by decide), gsI_row (by decide), gsI_row (by decide), gsI_at, cC 38 (by decide)]
            have B40 : ∀ i, B.1 40 i = if i = n then xx else σC.1 40 i := fun i => by rw [hB, gsI_row (by decide), gsI_row (by decide), gsI_at, gsI_row (by decide), cC 40 (by decide)]
            have B41 : ∀ i, B.1 41 i = if i = n then yy else σC.1 41 i := fun i => by rw [hB, gsI_row (by decide), gsI_at, gsI_row (by decide), gsI_row (by decide), cC 41 (by decide)]
            have E20 : ∀ i, E.1 20 i = if i = n then w else σM.1 20 i := fun i => by rw [hE, gsI_row (by decide), gsI_at, gsI_row (by decide), gsI_row (by decide), cM 20 (by decide) (by decide)]
            have E21 : ∀ i, E.1 21 i = if i = 2 * n + 1 then yy else if i = 2 * n then xx else σM.1 21 i := fun i => by rw [hE, gsI_row (by decide), gsI_row (by decide), gsI_at, gsI_at, cM 21 (by decide) (by decide)]
            have E14 : E.2 14 = σM.2 14 := by rw [hE]; exact cM2
            have n0 : E.1 15 0 = σM.1 15 0 := E15 0
            have n1 : E.1 15 1 = σM.1 15 1 := E15 1
            have n2 : E.1 15 2 = σM.1 15 2 := E15 2
            have n3 : E.1 15 3 = σM.1 15 3 := E15 3
            have n4 : E.1 15 4 = σM.1 15 4 + 1 := E15 4
            have i1 := i_inc (a := σM.1 15 4) (c := 9) (by omega) hn (by decide)
            have nl : n < 20 := by omega
            refine ⟨_, _, rfl, rfl, ?_, .inl ⟨rfl, PSt_mv hQ4 jC jM (Bo 46 (by decide) (by decide) (by decide) (by decide)) (Bo 1 (by decide) (by decide) (by decide) (by decide)) (fun k hk => Eo k (by omega) (by omega) (by omega)), ?_⟩⟩
            · rw [hE]
              exact UP_w (UP_w (UP_w (UP_w U4 (.inl (by show 2 * n < 40; omega))) (.inl (by show 2 * n + 1 < 40; omega))) (.inl nl)) (.inl (by decide))
            refine ⟨fun k hk => ?_, by rw [n4, i1]; omega, fun K hK => ?_, fun p hp => ?_, fun p hp => ?_, fun r hr => ?_, fun p hp h2 => ?_, fun p hp h2 => ?_⟩
            · rw [B25, E15]
              by_cases e : k = 4
              · rw [if_pos e, if_pos e, d1 4 (by decide)]
              · rw [if_neg e, if_neg e, d1 k hk]
            · obtain ⟨z1, z2⟩ := d3 K hK
              refine ⟨by rw [B25, E15, if_neg (by omega), if_neg (by omega), z1], fun i hi => ?_⟩
              rw [E15, if_neg (by omega)] at hi
              rw [E14, Bc (27 + K) (by omega) (by omega) (by omega) (by omega) (by omega)]
              exact z2 i hi
            · rw [n1] at hp
              unfold PD
              rw [Bc 44 (by decide) (by decide) (by decide) (by decide) (by decide), Bc 45 (by decide) (by decide) (by decide) (by decide) (by decide), Ec 19 (by decide) (by decide) (by decide) (by decide) (by decide), Bc 30 (by decide) (by decide) (by decide) (by decide) (by decide), Bc 31 (by decide) (by decide) (by decide) (by decide) (by decide), Bc 42 (by decide) (by decide) (by decide) (by decide) (by decide), Ec 16 (by decide) (by decide) (by decide) (by decide) (by decide), Ec 17 (by decide) (by decide) (by decide) (by decide) (by decide), Ec 18 (by decide) (by decide) (by decide) (by decide) (by decide), n0]
              exact d4 p hp
            · rw [n2] at hp
              unfold QD
              rw [B38, B40, B41, E20, E21, E21]
              by_cases e : p = n
              · rw [if_pos e, if_pos e, if_pos e, if_pos e, if_neg (by omega), if_pos (by omega), if_pos (by omega)]
                exact ⟨rfl, by omega, by omega, fun _ => ⟨rfl, rfl, hx, hy⟩⟩
              · rw [if_neg e, if_neg e, if_neg e, if_neg e, if_neg (by omega), if_neg (by omega), if_neg (by omega), if_neg (by omega)]
                exact d5 p hp
            · rw [n3] at hr
              unfold RD
              rw [Bc 35 (by decide) (by decide) (by decide) (by decide) (by decide), Bc 36 (by decide) (by decide) (by decide) (by decide) (by decide), Bc 37 (by decide) (by decide) (by decide) (by decide) (by decide), Ec24, Ec 25 (by decide) (by decide) (by decide) (by decide) (by decide), Bc 32 (by decide) (by decide) (by decide) (by decide) (by decide), Bc 33 (by decide) (by decide) (by decide) (by decide) (by decide), Ec 22 (by decide) (by decide) (by decide) (by decide) (by decide), Ec 23 (by decide) (by decide) (by decide) (by decide) (by decide), n1, n2]
              exact d6 r hr
            · rw [n1] at hp
              rw [Bc 42 (by decide) (by decide) (by decide) (by decide) (by decide)]
              exact d7 p hp h2
            · rw [n2] at hp
              rw [B38, if_neg (by omega)]
              exact d8 p hp h2
          · refine re_tl rfl (re_so ?_)
            rw [if_neg hF4.2.2.1]
            exact ok_some.mpr ⟨UP_f U3 G4 (by decide), .inr ⟨rfl, FSt_x hF4⟩⟩
        · refine re_tl rfl (re_so ?_)
          rw [e_number hF3.2.2.1, bd2_so, nm_eq, if_neg hF3.2.2.1]
          exact ok_some.mpr ⟨UP_f U2 G3 (by decide), .inr ⟨rfl, FSt_x hF3⟩⟩
      · refine re_tl rfl (re_so ?_)
        have hb := hF2.2.1
        rw [e_asks hb, bd_so, e_number hb, bd2_so, nm_eq, if_neg hb]
        exact ok_some.mpr ⟨UP_t U1 R3, .inr ⟨rfl, hF2⟩⟩
    · refine re_fl hc (re_fr hc ?_)
      rw [r_failC, bd2_so, nb0, r_fail 3 _ hQ1.2.2.2.2.2.2.2.1, bd_so]
      exact re_so (tail ⟨JC_f hQ1.1, by show (3 : Int32) ≠ 0; decide, rfl, h21⟩ (UP_w (UP_w U1 (.inr (by decide))) (.inr (by decide))))
  · refine re_tl rfl (re_so ?_)
    rw [nm_eq, if_neg hF1.2.2.1]
    exact tail (FSt_x hF1) (UP_f UP_r G1 (by decide))
end PI
