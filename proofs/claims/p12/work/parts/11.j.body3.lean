/-! THE TWO READERS, 10: centres, rows -/
section PJ
theorem p_centre {σC σM : gS} (hP : PSt σC σM) (hD : DS σC σM) : Re (fX3_readCentre σC) (fX10_centreTold σM) (fun a b => BO σM a.1 a.2 b) := by
  have b := jm_many hP.2.1
  obtain ⟨d1, d2, d3, d4, d5, d6, d7, d8⟩ := hD
  unfold fX10_centreTold fX3_readCentre
  have tail : ∀ {s t : gS} {z : Int32}, FSx s t → UP σM t → Ok (jX10_centreTold_31 t z) (fun b => BO σM 0 s b) := by
    intro s t z hF hu
    have hb := hF.2.1
    unfold jX10_centreTold_31
    rw [e_asks hb, bd_so, e_number hb, bd2_so, nm_eq, e_number hb, bd2_so, nm_eq, e_asks hb, bd_so, e_number hb, bd2_so, nm_eq, if_neg hb]
    exact ok_some.mpr ⟨hu, .inr ⟨rfl, hF⟩⟩
  refine re_22 (p_old hP (k := 1) (K := 1) (by decide) (by decide) (d3 1 (by decide))) (fun a s1 q t1 h1 => ?_)
  dsimp only at h1
  rw [nm_eq]
  obtain ⟨F1, G1, ⟨rfl, hQ1, h10, h21, q0, q1⟩ | ⟨rfl, hF1⟩⟩ := h1
  · have U1 : UP σM t1 := UP_f UP_r G1 (by decide)
    have Q := d4 q.toInt.toNat (by omega)
    obtain ⟨Q2, Q3, Q1, Q4⟩ := Q
    have g20 := gb_of (i := q) (n := 12) (by omega) (by omega)
    have g40 := gb_of (i := q) (n := 24) (by omega) (by omega)
    refine re_fl one_ne (re_tr hQ1.2.2.2.2.2.2.2.1 (re_gl (by rw [h10]; exact g20) (re_gr g40 ?_)))
    rw [nm_eq, h10, n_toInt, cRo F1 (by decide) (show 42 ≠ 46 by decide), mRo G1 (by decide) (show 18 ≠ 0 by decide), Q1]
    by_cases hc : σM.1 18 q.toInt.toNat = 0
    · refine re_tl hc (re_tr hc ?_)
      unfold jX10_centreTold_31
      have as := AT2_as (σ := t1) (g := fun t _ => t) (h := fun u _ => u) (H := fun x y u => bd (fX10_asks u 10) fun σ21 => bd2 (fX10_number σ21 1 9) fun r23 σ24 => nm (r23 : Int32) fun x25 => (if (σ24.1 0 5) = 0 then gd (gb (2 * q) 48) <| nm (gsI σ24 19 (2 * q).toNatClampNeg x) fun σ27 => gd (gb ((2 * q) + 1) 48) <| nm (gsI σ27 19 ((2 * q) + 1).toNatClampNeg y) fun σ28 => gd (gb q 24) <| nm (gsI σ28 18 q.toNatClampNeg x25) fun σ29 => gd (gb 5 12) <| nm (σ29.1 15 ((5 : Int32).toNatClampNeg)) fun v30 => gd (gb 5 12) <| nm (gsI σ29 15 ((5 : Int32).toNatClampNeg) (v30 + 1)) fun σ31 => some σ31 else some σ24))
      show Re _ (bd (fX10_asks t1 9) fun s => bd2 (fX10_number s 0 9999) fun x t => bd2 (fX10_number t 0 9999) fun y u => bd (fX10_asks u 10) fun σ21 => bd2 (fX10_number σ21 1 9) fun r23 σ24 => nm (r23 : Int32) fun x25 => (if (σ24.1 0 5) = 0 then gd (gb (2 * q) 48) <| nm (gsI σ24 19 (2 * q).toNatClampNeg x) fun σ27 => gd (gb ((2 * q) + 1) 48) <| nm (gsI σ27 19 ((2 * q) + 1).toNatClampNeg y) fun σ28 => gd (gb q 24) <| nm (gsI σ28 18 q.toNatClampNeg x25) fun σ29 => gd (gb 5 12) <| nm (σ29.1 15 ((5 : Int32).toNatClampNeg)) fun v30 => gd (gb 5 12) <| nm (gsI σ29 15 ((5 : Int32).toNatClampNeg) (v30 + 1)) fun σ31 => some σ31 else some σ24)) _
      rw [as]
      refine re_22 ((p_at hQ1 NOP_id NOP_id).l (o_fX3_readAt hQ1.1)) (fun a s2 xy t2 h2 => ?_)
      obtain ⟨xx, yy⟩ := xy
      dsimp only at h2 ⊢
      obtain ⟨⟨-, F2, -⟩, R1, R2, R3, ⟨rfl, hQ2, h12, h13, hx, hy, t9, t8, y1, y2, y3⟩ | ⟨rfl, hF2⟩⟩ := h2
      · refine re_fl one_ne (re_21 (p_word10 hQ2) (fun a s3 t3 h3 => ?_))
        dsimp only at h3
        have U2 := UP_t U1 R3
        obtain ⟨F3, G3, ⟨rfl, hQ3⟩ | ⟨rfl, hF3⟩⟩ := h3
        · refine re_fl one_ne (re_22 (p_number hQ3 1 9) (fun a s4 w t4 h4 => ?_))
          dsimp only at h4
          have U3 : UP σM t3 := UP_f U2 G3 (by decide)
          rw [nm_eq]
          obtain ⟨F4, G4, ⟨rfl, hQ4, h11, w0, w1⟩ | ⟨rfl, hF4⟩⟩ := h4
          · have U4 : UP σM t4 := UP_f U3 G4 (by decide)
            have f10 : s4.1 46 10 = q := (((F4 46 10 (by decide) (by decide)).1).trans (((F3 46 10 (by decide) (by decide)).1).trans ((F2 46 10 (by decide) (by decide)).1))).trans h10
            have f12 : s4.1 46 12 = xx := (((F4 46 12 (by decide) (by decide)).1).trans ((F3 46 12 (by decide) (by decide)).1)).trans h12
            have f13 : s4.1 46 13 = yy := (((F4 46 13 (by decide) (by decide)).1).trans ((F3 46 13 (by decide) (by decide)).1)).trans h13
            have cC : ∀ k, k ≠ 46 → s4.1 k = σC.1 k := fun k hk => by rw [cRo F4 (by decide) hk, cRo F3 (by decide) hk, cRo F2 (by decide) hk, cRo F1 (by decide) hk]
            have cM : ∀ k, k ≠ 0 → k ≠ 24 → t4.1 k = σM.1 k := fun k h1 h2 => by rw [mRo G4 (by decide) h1, mRo G3 (by decide) h1, R1 k h1 h2, mRo G1 (by decide) h1]
            have cM24 : t4.1 24 = σM.1 24 := by rw [mRo G4 (by decide) (by decide), mRo G3 (by decide) (by decide)]; exact (congrArg (fun s : gS => s.1 24) y3).trans (y1.trans (y2.trans (mRo G1 (by decide) (by decide))))
            have cM2 : t4.2 14 = σM.2 14 := by rw [Fr_row2 G4 14 (by decide), Fr_row2 G3 14 (by decide), R2, Fr_row2 G1 14 (by decide)]
            obtain ⟨n, hnn⟩ : ∃ n, n = q.toInt.toNat := ⟨_, rfl⟩
            rw [← hnn] at Q1 Q2 Q3 Q4
            obtain ⟨B, hB⟩ : ∃ B, B = gsI (gsI (gsI (gsI s4 42 n w) 44 n xx) 45 n yy) 25 5 (σC.1 25 5 + 1) := ⟨_, rfl⟩
            have eA : fX8_addCentre_24 s4 q xx yy w = some B := by
              unfold fX8_addCentre_24
              rw [q_gd g20, nm_eq, q_gd (by decide), q_gd g20, nm_eq, q_gd (by decide), q_gd g20, nm_eq, q_gd (by decide), nm_eq, q_gd (by decide), nm_eq]
              have e25 : (gsI (gsI (gsI s4 42 q.toNatClampNeg w) 44 q.toNatClampNeg xx) 45 q.toNatClampNeg yy).1 25 ((5 : Int32).toNatClampNeg) = σC.1 25 5 := by
                rw [gsI_row (by decide), gsI_row (by decide), gsI_row (by decide), cC 25 (by decide)]
                rfl
              rw [e25, hB, hnn]
              rfl
            have jC := o_fX8_addCentre_24 hQ4.1 (p1 := q) (p2 := xx) (p3 := yy) (p4 := w) (by omega) (by omega)
            rw [eA] at jC
            have jC := (ok_some.mp jC).1
            refine re_fl one_ne ?_
            rw [f10, f12, f13, h11, eA, bd_so]
            have l9 : (9 : Int32).toInt = 9 := by decide
            have l1 : (1 : Int32).toInt = 1 := by decide
            have m2 : (2 * q).toInt = 2 * q.toInt := imulc (by decide) (by omega) (by omega)
            have m21 : (2 * q + 1).toInt = 2 * q.toInt + 1 := by rw [iadd_toInt] <;> omega
            have k2 : (2 * q).toNatClampNeg = 2 * n := by rw [n_toInt]; omega
            have k21 : (2 * q + 1).toNatClampNeg = 2 * n + 1 := by rw [n_toInt]; omega
            have kq : q.toNatClampNeg = n := by rw [n_toInt]; omega
            refine re_tr hQ4.2.2.2.2.2.2.2.1 (re_gr (gb_of (by omega) (by omega)) ?_)
            rw [nm_eq]
            refine re_gr (gb_of (by omega) (by omega)) ?_
            rw [nm_eq]
            refine re_gr g40 ?_
            rw [nm_eq]
            refine re_gr (by decide) ?_
            rw [nm_eq]
            refine re_gr (by decide) ?_
            rw [nm_eq, k2, k21, kq]
            have e15 : (gsI (gsI (gsI t4 19 (2 * n) xx) 19 (2 * n + 1) yy) 18 n w).1 15 ((5 : Int32).toNatClampNeg) = σM.1 15 5 := by
              rw [gsI_row (by decide), gsI_row (by decide), gsI_row (by decide), cM 15 (by decide) (by decide)]
              rfl
            rw [e15]
            obtain ⟨E, hE⟩ : ∃ E, E = gsI (gsI (gsI (gsI t4 19 (2 * n) xx) 19 (2 * n + 1) yy) 18 n w) 15 5 (σM.1 15 5 + 1) := ⟨_, rfl⟩
            have hE2 : gsI (gsI (gsI (gsI t4 19 (2 * n) xx) 19 (2 * n + 1) yy) 18 n w) 15 ((5 : Int32).toNatClampNeg) (σM.1 15 5 + 1) = E := by rw [hE]; rfl
            rw [hE2]
            have jM : JM E := by rw [hE]; exact JM_w (JM_w (JM_w (JM_w hQ4.2.1 (Int32.le_toInt _) (Int32.toInt_le _)) (Int32.le_toInt _) (Int32.toInt_le _)) (show 0 ≤ w.toInt by omega) (show w.toInt ≤ 9999 by omega)) (Int32.le_toInt _) (Int32.toInt_le _)
            have Bo : ∀ k, k ≠ 25 → k ≠ 42 → k ≠ 44 → k ≠ 45 → B.1 k = s4.1 k := fun k k1 k2 k3 k4 => by rw [hB, gsI_row k1, gsI_row k4, gsI_row k3, gsI_row k2]
            have Bc : ∀ k, k ≠ 25 → k ≠ 42 → k ≠ 44 → k ≠ 45 → k ≠ 46 → B.1 k = σC.1 k := fun k k1 k2 k3 k4 k5 => (Bo k k1 k2 k3 k4).trans (cC k k5)
            have Eo : ∀ k, k ≠ 15 → k ≠ 18 → k ≠ 19 → E.1 k = t4.1 k := fun k k1 k2 k3 => by rw [hE, gsI_row k1, gsI_row k2, gsI_row k3, gsI_row k3]
            have Ec : ∀ k, k ≠ 0 → k ≠ 15 → k ≠ 18 → k ≠ 19 → k ≠ 24 → E.1 k = σM.1 k := fun k k0 k1 k2 k3 k4 => (Eo k k1 k2 k3).trans (cM k k0 k4)
            have Ec24 : E.1 24 = σM.1 24 := (Eo 24 (by decide) (by decide) (by decide)).trans cM24
            have E15 : ∀ i, E.1 15 i = if i = 5 then σM.1 15 5 + 1 else σM.1 15 i := fun i => by rw [hE, gsI_at, gsI_row (by decide), gsI_row (by decide), gsI_row (by decide), cM 15 (by decide) (by decide)]
            have B25 : ∀ i, B.1 25 i = if i = 5 then σC.1 25 5 + 1 else σC.1 25 i := fun i => by rw [hB, gsI_at, gsI_row (by decide), gsI_row (by decide), gsI_row (by decide), cC 25 (by decide)]
            have B42 : ∀ i, B.1 42 i = if i = n then w else σC.1 42 i := fun i => by rw [hB, gsI_row (by decide), gsI_row (by decide), gsI_row (by decide), gsI_at, cC 42 (by decide)]
            have E18 : ∀ i, E.1 18 i = if i = n then w else σM.1 18 i := fun i => by rw [hE, gsI_row (by decide), gsI_at, gsI_row (by decide), gsI_row (by decide), cM 18 (by decide) (by decide)]
            have B44 : ∀ i, B.1 44 i = if i = n then xx else σC.1 44 i := fun i => by rw [hB, gsI_row (by decide), gsI_row (by decide), gsI_at, gsI_row (by decide), cC 44 (by decide)]
            have B45 : ∀ i, B.1 45 i = if i = n then yy else σC.1 45 i := fun i => by rw [hB, gsI_row (by decide), gsI_at, gsI_row (by decide), gsI_row (by decide), cC 45 (by decide)]
            have E19 : ∀ i, E.1 19 i = if i = 2 * n + 1 then yy else if i = 2 * n then xx else σM.1 19 i := fun i => by rw [hE, gsI_row (by decide), gsI_row (by decide), gsI_at, gsI_at, cM 19 (by decide) (by decide)]
            have E14 : E.2 14 = σM.2 14 := by rw [hE]; exact cM2
            have n0 : E.1 15 0 = σM.1 15 0 := E15 0
            have n1 : E.1 15 1 = σM.1 15 1 := E15 1
            have n2 : E.1 15 2 = σM.1 15 2 := E15 2
            have n3 : E.1 15 3 = σM.1 15 3 := E15 3
            have n4 : E.1 15 4 = σM.1 15 4 := E15 4
            have nl : n < 12 := by omega
            refine ⟨_, _, rfl, rfl, ?_, .inl ⟨rfl, PSt_mv hQ4 jC jM (Bo 46 (by decide) (by decide) (by decide) (by decide)) (Bo 1 (by decide) (by decide) (by decide) (by decide)) (fun k hk => Eo k (by omega) (by omega) (by omega)), ?_⟩⟩
            · rw [hE]
              exact UP_w (UP_w (UP_w (UP_w U4 (.inl (by show 2 * n < 24; omega))) (.inl (by show 2 * n + 1 < 24; omega))) (.inl nl)) (.inl (by decide))
            refine ⟨fun k hk => ?_, by rw [n4]; exact d2, fun K hK => ?_, fun p hp => ?_, fun p hp => ?_, fun r hr => ?_, fun p hp h2 => ?_, fun p hp h2 => ?_⟩
            · rw [B25, E15]
              by_cases e : k = 5
              · rw [if_pos e, if_pos e, d1 5 (by decide)]
              · rw [if_neg e, if_neg e, d1 k hk]
            · obtain ⟨z1, z2⟩ := d3 K hK
              refine ⟨by rw [B25, E15, if_neg (by omega), if_neg (by omega), z1], fun i hi => ?_⟩
              rw [E15, if_neg (by omega)] at hi
              rw [E14, Bc (27 + K) (by omega) (by omega) (by omega) (by omega) (by omega)]
              exact z2 i hi
            · rw [n1] at hp
              unfold PD
              rw [Bc 30 (by decide) (by decide) (by decide) (by decide) (by decide), Bc 31 (by decide) (by decide) (by decide) (by decide) (by decide), B42, B44, B45, Ec 16 (by decide) (by decide) (by decide) (by decide) (by decide), Ec 17 (by decide) (by decide) (by decide) (by decide) (by decide), E18, E19, E19, n0]
              obtain ⟨a1, a2, a3, a4⟩ := d4 p hp
              by_cases e : p = n
              · rw [if_pos e, if_pos e, if_pos e, if_pos e]
                exact ⟨a1, a2, rfl, a4.1, a4.2.1, by omega, fun _ => ⟨by rw [if_neg (by omega), if_pos (by omega)], by rw [if_pos (by omega)]⟩⟩
              · rw [if_neg e, if_neg e, if_neg e, if_neg e]
                exact ⟨a1, a2, a3, a4.1, a4.2.1, a4.2.2.1, fun z => ⟨by rw [if_neg (by omega), if_neg (by omega)]; exact (a4.2.2.2 z).1, by rw [if_neg (by omega), if_neg (by omega)]; exact (a4.2.2.2 z).2⟩⟩
            · rw [n2] at hp
              unfold QD
              rw [Bc 38 (by decide) (by decide) (by decide) (by decide) (by decide), Bc 40 (by decide) (by decide) (by decide) (by decide) (by decide), Bc 41 (by decide) (by decide) (by decide) (by decide) (by decide), Ec 20 (by decide) (by decide) (by decide) (by decide) (by decide), Ec 21 (by decide) (by decide) (by decide) (by decide) (by decide)]
              exact d5 p hp
            · rw [n3] at hr
              unfold RD
              rw [Bc 35 (by decide) (by decide) (by decide) (by decide) (by decide), Bc 36 (by decide) (by decide) (by decide) (by decide) (by decide), Bc 37 (by decide) (by decide) (by decide) (by decide) (by decide), Ec24, Ec 25 (by decide) (by decide) (by decide) (by decide) (by decide), Bc 32 (by decide) (by decide) (by decide) (by decide) (by decide), Bc 33 (by decide) (by decide) (by decide) (by decide) (by decide), Ec 22 (by decide) (by decide) (by decide) (by decide) (by decide), Ec 23 (by decide) (by decide) (by decide) (by decide) (by decide), n1, n2]
              exact d6 r hr
            · rw [n1] at hp
              rw [B42, if_neg (by omega)]
              exact d7 p hp h2
            · rw [n2] at hp
              rw [Bc 38 (by decide) (by decide) (by decide) (by decide) (by decide)]
              exact d8 p hp h2
          · refine re_tl rfl (re_so ?_)
            rw [if_neg hF4.2.2.1]
            exact ok_some.mpr ⟨UP_f U3 G4 (by decide), .inr ⟨rfl, FSt_x hF4⟩⟩
        · refine re_tl rfl (re_so ?_)
          rw [e_number hF3.2.2.1, bd2_so, nm_eq, if_neg hF3.2.2.1]
          exact ok_some.mpr ⟨UP_f U2 G3 (by decide), .inr ⟨rfl, FSt_x hF3⟩⟩
      · refine re_tl rfl (re_so ?_)
        have hb := hF2.2.1
        rw [e_asks hb, bd_so, e_number hb, bd2_so, nm_eq, if_neg hb]
        exact ok_some.mpr ⟨UP_t U1 R3, .inr ⟨rfl, hF2⟩⟩
    · refine re_fl hc (re_fr hc ?_)
      rw [r_failC, bd2_so, nb0, r_fail 3 _ hQ1.2.2.2.2.2.2.2.1, bd_so]
      exact re_so (tail ⟨JC_f hQ1.1, by show (3 : Int32) ≠ 0; decide, rfl, h21⟩ (UP_w (UP_w U1 (.inr (by decide))) (.inr (by decide))))
  · refine re_tl rfl (re_so ?_)
    rw [nm_eq, if_neg hF1.2.2.1]
    exact tail (FSt_x hF1) (UP_f UP_r G1 (by decide))
/-! rows -/
noncomputable def Rst (k : Int32) (t : gS) : Option gS := bX10_rowTold_43 t k (fun _ _ => none) k t
theorem Rst_at {σ : gS} {k a : Int32} {rec : Int32 → gS → Option gS} {t : gS} (h : k ≤ a) : bX10_rowTold_43 σ k rec a t = Rst k t := by
  unfold Rst bX10_rowTold_43
  exact (if_pos h).trans (if_pos (Int32.le_refl k)).symm
theorem row_bad {σ : gS} {k : Int32} (hk : k.toInt ≤ 59) : ∀ (d K : Nat) (a : Int32) (t : gS), d = (k.toInt - a.toInt).toNat → 0 ≤ a.toInt → d < K → ¬ t.1 0 5 = 0 → lpc (S := Int32 × gS) K (fun rec s => bX10_rowTold_43 σ k (fun a3 σ1 => rec (a3, σ1)) s.1 s.2) (a, t) = Rst k t := by
  intro d
  induction d with
  | zero =>
    intro K a t hd h0 hK hb
    rw [lpc_pos hK]
    exact Rst_at (show k ≤ a from q_le (by omega))
  | succ d ih =>
    intro K a t hd h0 hK hb
    rw [lpc_pos (by omega)]
    show bX10_rowTold_43 σ k _ a t = _
    have e := i_inc (a := a) (c := 59) (by omega) (by omega) (by decide)
    unfold bX10_rowTold_43
    refine (if_neg (q_nle (by omega))).trans ((if_neg hb).trans ((q_nm rfl).trans ?_))
    exact ih (K - 1) (a + 1) t (by omega) (by omega) (by omega) hb
theorem row_ok {σ : gS} {k : Int32} (hk0 : 0 ≤ k.toInt) (hk : k.toInt ≤ 59) {t : gS} (hb : t.1 0 5 = 0) : ∀ (d K : Nat) (a : Int32), d = (k.toInt - a.toInt).toNat → 0 ≤ a.toInt → d < K → (∀ i : Nat, (i : Int) < a.toInt → ¬ (t.1 22 i = t.1 22 k.toInt.toNat ∧ t.1 23 i = t.1 23 k.toInt.toNat)) → (lpc (S := Int32 × gS) K (fun rec s => bX10_rowTold_43 σ k (fun a3 σ1 => rec (a3, σ1)) s.1 s.2) (a, t) = Rst k t ∧ ∀ i : Nat, (i : Int) < k.toInt → ¬ (t.1 22 i = t.1 22 k.toInt.toNat ∧ t.1 23 i = t.1 23 k.toInt.toNat)) ∨ (lpc (S := Int32 × gS) K (fun rec s => bX10_rowTold_43 σ k (fun a3 σ1 => rec (a3, σ1)) s.1 s.2) (a, t) = Rst k (fM t 3 (t.1 0 21)) ∧ ∃ i : Nat, (i : Int) < k.toInt ∧ t.1 22 i = t.1 22 k.toInt.toNat ∧ t.1 23 i = t.1 23 k.toInt.toNat) := by
  intro d
  induction d with
  | zero =>
    intro K a hd h0 hK hn
    rw [lpc_pos hK]
    exact .inl ⟨Rst_at (show k ≤ a from q_le (by omega)), fun i hi => hn i (by omega)⟩
  | succ d ih =>
    intro K a hd h0 hK hn
    rw [lpc_pos (by omega)]
    show (bX10_rowTold_43 σ k _ a t = _ ∧ _) ∨ (bX10_rowTold_43 σ k _ a t = _ ∧ _)
    have e := i_inc (a := a) (c := 59) (by omega) (by omega) (by decide)
    have ga := gb_of (i := a) (n := 120) (by omega) (by omega)
    have gk := gb_of (i := k) (n := 120) (by omega) (by omega)
    have next : ¬ (t.1 22 a.toInt.toNat = t.1 22 k.toInt.toNat ∧ t.1 23 a.toInt.toNat = t.1 23 k.toInt.toNat) → ∀ i : Nat, (i : Int) < (a + 1).toInt → ¬ (t.1 22 i = t.1 22 k.toInt.toNat ∧ t.1 23 i = t.1 23 k.toInt.toNat) := fun z i hi => by
      by_cases y : i = a.toInt.toNat
      · rw [y]; exact z
      · exact hn i (by omega)
    have head : bX10_rowTold_43 σ k (fun a3 σ1 => lpc (S := Int32 × gS) (K - 1) (fun rec s => bX10_rowTold_43 σ k (fun a3 σ1 => rec (a3, σ1)) s.1 s.2) (a3, σ1)) a t = if t.1 22 a.toInt.toNat = t.1 22 k.toInt.toNat then (if t.1 23 a.toInt.toNat = t.1 23 k.toInt.toNat then lpc (S := Int32 × gS) (K - 1) (fun rec s => bX10_rowTold_43 σ k (fun a3 σ1 => rec (a3, σ1)) s.1 s.2) (a + 1, fM t 3 (t.1 0 21)) else lpc (S := Int32 × gS) (K - 1) (fun rec s => bX10_rowTold_43 σ k (fun a3 σ1 => rec (a3, σ1)) s.1 s.2) (a + 1, t)) else lpc (S := Int32 × gS) (K - 1) (fun rec s => bX10_rowTold_43 σ k (fun a3 σ1 => rec (a3, σ1)) s.1 s.2) (a + 1, t) := by
      rw [show bX10_rowTold_43 σ k (fun a3 σ1 => lpc (S := Int32 × gS) (K - 1) (fun rec s => bX10_rowTold_43 σ k (fun a3 σ1 => rec (a3, σ1)) s.1 s.2) (a3, σ1)) a t = _ from by
        unfold bX10_rowTold_43
        exact (if_neg (q_nle (by omega))).trans ((if_pos hb).trans ((q_gd ga).trans ((q_nm rfl).trans ((q_gd gk).trans (q_nm rfl)))))]
      rw [n_toInt, n_toInt]
      by_cases z1 : t.1 22 a.toInt.toNat = t.1 22 k.toInt.toNat
      · rw [if_pos z1, if_pos z1, q_gd ga, nm_eq, q_gd gk, nm_eq, n_toInt, n_toInt]
        by_cases z2 : t.1 23 a.toInt.toNat = t.1 23 k.toInt.toNat
        · rw [if_pos z2, if_pos z2, r_fail 3 _ hb]
          rfl
        · rw [if_neg z2, if_neg z2]
          rfl
      · rw [if_neg z1, if_neg z1]
        rfl
    rw [head]
    by_cases z1 : t.1 22 a.toInt.toNat = t.1 22 k.toInt.toNat
    · rw [if_pos z1]
      by_cases z2 : t.1 23 a.toInt.toNat = t.1 23 k.toInt.toNat
      · rw [if_pos z2]
        exact .inr ⟨row_bad hk d (K - 1) (a + 1) (fM t 3 (t.1 0 21)) (by omega) (by omega) (by omega) (show ¬ (3 : Int32) = 0 by decide), a.toInt.toNat, by omega, z1, z2⟩
      · rw [if_neg z2]
        exact ih (K - 1) (a + 1) (by omega) (by omega) (by omega) (next (fun z => z2 z.2))
    · rw [if_neg z1]
      exact ih (K - 1) (a + 1) (by omega) (by omega) (by omega) (next (fun z => z1 z.1))
noncomputable def rG (k : Int32) (t : gS) (x : Int32) : gS := gsI t 24 (2 * k).toNatClampNeg x
noncomputable def rH (k : Int32) (t : gS) (x : Int32) : gS := gsI t 24 (2 * k + 1).toNatClampNeg x
noncomputable def rE (k : Int32) (u : gS) : Option gS := bd (fX10_asks u 10) fun σ28 => bd2 (fX10_number σ28 1 9) fun r30 σ31 => gd (gb k 120) <| nm (gsI σ31 25 k.toNatClampNeg r30) fun σ32 => gd (gb 3 12) <| nm (σ32.1 15 ((3 : Int32).toNatClampNeg)) fun v33 => gd (gb 3 12) <| nm (gsI σ32 15 ((3 : Int32).toNatClampNeg) (v33 + 1)) fun σ34 => some σ34
theorem Rst_eq {k : Int32} (hk0 : 0 ≤ k.toInt) (hk : k.toInt ≤ 59) (t : gS) : Rst k t = bd2 (AT2 (rG k) (rH k) t) (fun _ u => rE k u) := by
  have l1 : (1 : Int32).toInt = 1 := by decide
  have m2 : (2 * k).toInt = 2 * k.toInt := imulc (by decide) (by omega) (by omega)
  have m21 : (2 * k + 1).toInt = 2 * k.toInt + 1 := by rw [iadd_toInt] <;> omega
  have g1 := gb_of (i := 2 * k) (n := 240) (by omega) (by omega)
  have g2 := gb_of (i := 2 * k + 1) (n := 240) (by omega) (by omega)
  refine Eq.trans ?_ (AT2_as (σ := t) (g := rG k) (h := rH k) (H := fun _ _ u => rE k u))
  unfold Rst bX10_rowTold_43
  rw [if_pos (Int32.le_refl k)]
  simp only [g1, g2, gd_t]
  rfl
theorem NOP_rG {k : Int32} (hk0 : 0 ≤ k.toInt) (hk : k.toInt ≤ 59) : NOP (rG k) := fun t x => by
  have m2 : (2 * k).toInt = 2 * k.toInt := imulc (by decide) (by omega) (by omega)
  have e : (2 * k).toNatClampNeg < 120 := by rw [n_toInt]; omega
  exact ⟨fun j hj => gsI_row hj, rfl, UP_w UP_r (.inl e), fun h => JM_w h (Int32.le_toInt _) (Int32.toInt_le _)⟩
theorem NOP_rH {k : Int32} (hk0 : 0 ≤ k.toInt) (hk : k.toInt ≤ 59) : NOP (rH k) := fun t x => by
  have l1 : (1 : Int32).toInt = 1 := by decide
  have m2 : (2 * k).toInt = 2 * k.toInt := imulc (by decide) (by omega) (by omega)
  have m21 : (2 * k + 1).toInt = 2 * k.toInt + 1 := by rw [iadd_toInt] <;> omega
  have e : (2 * k + 1).toNatClampNeg < 120 := by rw [n_toInt]; omega
  exact ⟨fun j hj => gsI_row hj, rfl, UP_w UP_r (.inl e), fun h => JM_w h (Int32.le_toInt _) (Int32.toInt_le _)⟩
theorem FSx_mv {s t u : gS} (h : FSx s t) (e : u.1 0 = t.1 0) : FSx s u := by
  unfold FSx
  rw [e]
  exact h
/-- behind a fault -/
theorem rE_bad {k : Int32} (hk0 : 0 ≤ k.toInt) (hk : k.toInt ≤ 59) {s u : gS} {σ : gS} (hF : FSx s u) (hu : UP σ u) : Ok (rE k u) (fun b => BO σ 0 s b) := by
  have hb := hF.2.1
  unfold rE
  rw [e_asks hb, bd_so, e_number hb, bd2_so, q_gd (gb_of (by omega) (by omega)), nm_eq, q_gd (by decide), nm_eq, q_gd (by decide), nm_eq]
  have h1 : k.toNatClampNeg < upL 25 := by show k.toInt.toNat < 60; omega
  refine ok_some.mpr ⟨UP_w (UP_w hu (.inl h1)) (.inl (by decide)), .inr ⟨rfl, hF.1, ?_, ?_, ?_⟩⟩
  · exact hb
  · exact hF.2.2.1
  · exact hF.2.2.2
theorem Rst_bad {k : Int32} (hk0 : 0 ≤ k.toInt) (hk : k.toInt ≤ 59) {s u : gS} {σ : gS} (hF : FSx s u) (hu : UP σ u) : Ok (Rst k u) (fun b => BO σ 0 s b) := by
  have hb := hF.2.1
  have hb2 : ¬ (rG k u 0).1 0 5 = 0 := hb
  rw [Rst_eq hk0 hk]
  unfold AT2
  rw [e_asks hb, bd_so, e_number hb, bd2_so, e_number hb2, bd2_so, bd2_so]
  exact rE_bad hk0 hk hF (UP_t hu (UP_t (NOP_rG hk0 hk u 0).2.2.1 (NOP_rH hk0 hk (rG k u 0) 0).2.2.1))
noncomputable def FR (σ : gS) (p q : Int32) : Int32 := fI (fun r => decide (σ.1 32 r = p ∧ σ.1 33 r = q)) (σ.1 25 3).toInt.toNat 0
theorem r_findRow {σ : gS} (hI : JC σ) (p q : Int32) : fX8_findRow_24 σ p q = some (FR σ p q) := by
  have hn : 0 ≤ (σ.1 25 3).toInt ∧ (σ.1 25 3).toInt ≤ 60 := hI 25 3
  unfold fX8_findRow_24 FR
  refine (q_nm rfl).trans ?_
  refine fI_lpc (n := σ.1 25 3) (c := fun r => decide (σ.1 32 r = p ∧ σ.1 33 r = q)) (fun rec a h2 h3 => ?_) (fun rec a h2 h3 => ?_) _ K9 0 (by have := z0; omega) (by decide) (by unfold K9; omega)
  · unfold bX8_findRow_24_2
    refine (q_gd (by decide)).trans ((q_nm rfl).trans ?_)
    exact if_pos (q_le h3)
  · unfold bX8_findRow_24_2
    have ga := gb_of (i := a) (n := 60) (by omega) (by omega)
    refine (q_gd (by decide)).trans ((q_nm rfl).trans ((if_neg (q_nle h3)).trans ((q_gd ga).trans ((q_nm rfl).trans ?_))))
    rw [n_toInt]
    by_cases c1 : σ.1 32 a.toInt.toNat = p
    · refine (if_pos c1).trans ((q_gd ga).trans ((q_nm rfl).trans ?_))
      by_cases c2 : σ.1 33 a.toInt.toNat = q
      · exact (if_pos c2).trans (if_pos (decide_eq_true ⟨c1, c2⟩)).symm
      · exact (if_neg c2).trans (if_neg (fun z => c2 (of_decide_eq_true z).2)).symm
    · exact (if_neg c1).trans (if_neg (fun z => c1 (of_decide_eq_true z).1)).symm
set_option maxHeartbeats 1000000 in
theorem p_row {σC σM : gS} (hP : PSt σC σM) (hD : DS σC σM) (hn : (σM.1 15 3).toInt ≤ 59) (x : Int32) : Re (fX3_readRow σC) (fX10_rowTold σM x) (fun a b => BO σM a.1 a.2 b) := by
  have hf : fX10_isFull σM 3 60 x = some (0, σM) := by
    rcases m_full hP.2.2.2.2.2.2.2.1 (k := 3) (K := 3) (by decide) (by decide) 60 x with ⟨-, z⟩ | ⟨z, -⟩
    · have l : (60 : Int32).toInt = 60 := by decide
      rw [z] at hn
      omega
    · exact z
  have b := jm_many hP.2.1
  obtain ⟨d1, d2, d3, d4, d5, d6, d7, d8⟩ := hD
  obtain ⟨k, hk⟩ : ∃ k, k = σM.1 15 3 := ⟨_, rfl⟩
  have hk0 : 0 ≤ k.toInt := by rw [hk]; exact b.2.2.2.1
  have hk59 : k.toInt ≤ 59 := by rw [hk]; exact hn
  obtain ⟨n, hnn⟩ : ∃ n, n = k.toInt.toNat := ⟨_, rfl⟩
  have kn : k.toNatClampNeg = n := by rw [n_toInt, hnn]
  have nl : n < 60 := by omega
  have g120 := gb_of (i := k) (n := 120) (by omega) (by omega)
  have g60 := gb_of (i := k) (n := 60) (by omega) (by omega)
  unfold fX10_rowTold fX3_readRow
  rw [q_bd2 hf]
  dsimp only
  rw [if_pos rfl, q_gd (by decide), nm_eq, nm_eq]
  have ek : σM.1 15 ((3 : Int32).toNatClampNeg) = k := hk.symm
  rw [ek]
  refine re_22 ((p_old hP (k := 1) (K := 1) (by decide) (by decide) (d3 1 (by decide))).r (o_fX10_oneOf hP.2.1 (p1 := 1) (by decide) (by decide))) (fun a s1 p t1 h1 => ?_)
  dsimp only at h1
  obtain ⟨⟨-, -, pb0, -, -, pb1, -⟩, F1, G1, h1⟩ := h1
  have pb1 := pb1 (by decide)
  have U1 : UP σM t1 := UP_f UP_r G1 (by decide)
  rw [q_gd g120, nm_eq, kn]
  have U1' : UP σM (gsI t1 22 n p) := UP_w U1 (.inl nl)
  rcases h1 with ⟨rfl, hQ1, h10, h21, p0, p1⟩ | ⟨rfl, hF1⟩
  · refine re_fl one_ne ?_
    rw [nm_eq, h10]
    have hQ1' : PSt s1 (gsI t1 22 n p) := PSt_mv hQ1 hQ1.1 (JM_w hQ1.2.1 (show 0 ≤ _ from p0) (show _ ≤ 11 by omega)) rfl rfl (fun j hj => gsI_row (by omega))
    have D2 : DN 2 s1 (gsI t1 22 n p) := by
      refine DN_eq (d3 2 (by decide)) (cRo F1 (by decide) (by decide)) (cRo F1 (by decide) (by decide)) ?_ ?_
      · rw [gsI_row (by decide)]
        exact mRo G1 (by decide) (by decide)
      · exact Fr_row2 G1 14 (by decide)
    refine re_22 (p_old hQ1' (k := 2) (K := 2) (by decide) (by decide) D2) (fun a s2 q t2 h2 => ?_)
    dsimp only at h2
    obtain ⟨F2, G2, h2⟩ := h2
    have U2 : UP σM t2 := UP_f U1' G2 (by decide)
    rw [q_gd g120, nm_eq, nm_eq]
    have U2' : UP σM (gsI t2 23 n q) := UP_w U2 (.inl nl)
    rcases h2 with ⟨rfl, hQ2, h20, h22, q0, q1⟩ | ⟨rfl, hF2⟩
    · refine re_fl one_ne ?_
      have m15 : (gsI t1 22 n p).1 15 = σM.1 15 := by rw [gsI_row (by decide)]; exact mRo G1 (by decide) (by decide)
      rw [m15] at q1
      have hQ2' : PSt s2 (gsI t2 23 n q) := PSt_mv hQ2 hQ2.1 (JM_w hQ2.2.1 (show 0 ≤ _ from q0) (show _ ≤ 19 by omega)) rfl rfl (fun j hj => gsI_row (by omega))
      obtain ⟨t3, ht3⟩ : ∃ t3, t3 = gsI t2 23 n q := ⟨_, rfl⟩
      rw [← ht3] at hQ2' U2' ⊢
      have T22 : ∀ i, t3.1 22 i = if i = n then p else σM.1 22 i := fun i => by rw [ht3, gsI_row (by decide), mRo G2 (by decide) (by decide), gsI_at, mRo G1 (by decide) (by decide)]
      have T23 : ∀ i, t3.1 23 i = if i = n then q else σM.1 23 i := fun i => by rw [ht3, gsI_at, mRo G2 (by decide) (by decide), gsI_row (by decide), mRo G1 (by decide) (by decide)]
      have To : ∀ j, j ≠ 0 → j ≠ 22 → j ≠ 23 → t3.1 j = σM.1 j := fun j j0 j1 j2 => by rw [ht3, gsI_row j2, mRo G2 (by decide) j0, gsI_row j1, mRo G1 (by decide) j0]
      have T14 : t3.2 14 = σM.2 14 := by rw [ht3]; show t2.2 14 = _; rw [Fr_row2 G2 14 (by decide)]; show t1.2 14 = _; exact Fr_row2 G1 14 (by decide)
      have T21 : t3.1 0 21 = s2.1 46 6 := by rw [ht3, gsI_row (by decide)]; exact h22
      rw [q_bd (r_findRow hQ2.1 p (s2.1 46 10)), h20]
      have c32 : s2.1 32 = σC.1 32 := by rw [cRo F2 (by decide) (by decide), cRo F1 (by decide) (by decide)]
      have c33 : s2.1 33 = σC.1 33 := by rw [cRo F2 (by decide) (by decide), cRo F1 (by decide) (by decide)]
      have c25 : s2.1 25 = σC.1 25 := by rw [cRo F2 (by decide) (by decide), cRo F1 (by decide) (by decide)]
      have e3 : σC.1 25 3 = k := by rw [hk]; exact d1 3 (by decide)
      have dup : ∀ i : Nat, (i : Int) < k.toInt → ((t3.1 22 i = t3.1 22 k.toInt.toNat ∧ t3.1 23 i = t3.1 23 k.toInt.toNat) ↔ (s2.1 32 i = p ∧ s2.1 33 i = q)) := fun i hi => by
        obtain ⟨r1, r2, -⟩ := d6 i (by rw [← hk]; exact hi)
        rw [← hnn, T22, T22, T23, T23, if_neg (by omega), if_pos rfl, if_neg (by omega), if_pos rfl, c32, c33, r1, r2]
      have fs := fI_spec (fun r => decide (s2.1 32 r = p ∧ s2.1 33 r = q)) (s2.1 25 3).toInt.toNat 0 (by rw [c25, e3]; omega)
      rcases row_ok (σ := t3) hk0 hk59 hQ2'.2.2.2.2.2.2.2.1 k.toInt.toNat K9 0 (by have := z0; omega) (by decide) (by unfold K9; omega) (fun i hi => absurd hi (by have := z0; omega)) with ⟨el, hno⟩ | ⟨el, i, hi, hdup⟩
      · have fr : FR s2 p q = -1 := by
          rcases fs with ⟨f1, -⟩ | ⟨j, -, j2, j3, -⟩
          · exact f1
          · rw [c25, e3] at j2
            exact absurd ((dup j (by omega)).mpr (of_decide_eq_true j3)) (hno j (by omega))
        rw [el, Rst_eq hk0 hk59]
        refine re_tl fr (re_22 ((p_at hQ2' (NOP_rG hk0 hk59) (NOP_rH hk0 hk59)).l (o_fX3_readAt hQ2'.1)) (fun a s4 xy t4 h4 => ?_))
        obtain ⟨xx, yy⟩ := xy
        dsimp only at h4 ⊢
        obtain ⟨⟨-, F4, -⟩, R1, R2, R3, ⟨rfl, hQ4, h12, h13, hx, hy, t9, t8, y1, y2, y3⟩ | ⟨rfl, hF4⟩⟩ := h4
        · have U4 := UP_t U2' R3
          refine re_fl one_ne ?_
          unfold rE
          refine re_21 (p_word10 hQ4) (fun a s5 t5 h5 => ?_)
          dsimp only at h5
          obtain ⟨F5, G5, h5⟩ := h5
          have U5 : UP σM t5 := UP_f U4 G5 (by decide)
          rcases h5 with ⟨rfl, hQ5⟩ | ⟨rfl, hF5⟩
          · refine re_fl one_ne (re_22 (p_number hQ5 1 9) (fun a s6 w t6 h6 => ?_))
            dsimp only at h6
            obtain ⟨F6, G6, h6⟩ := h6
            have U6 : UP σM t6 := UP_f U5 G6 (by decide)
            rw [q_gd g120, nm_eq, q_gd (by decide), nm_eq, q_gd (by decide), nm_eq, kn]
            have cM : ∀ j, j ≠ 0 → j ≠ 24 → t6.1 j = t3.1 j := fun j h1 h2 => by rw [mRo G6 (by decide) h1, mRo G5 (by decide) h1, R1 j h1 h2]
            have e15 : (gsI t6 25 n w).1 15 ((3 : Int32).toNatClampNeg) = k := by
              rw [gsI_row (by decide), cM 15 (by decide) (by decide), To 15 (by decide) (by decide) (by decide)]
              exact hk.symm
            rw [e15]
            obtain ⟨E, hE⟩ : ∃ E, E = gsI (gsI t6 25 n w) 15 3 (k + 1) := ⟨_, rfl⟩
            have hE2 : gsI (gsI t6 25 n w) 15 ((3 : Int32).toNatClampNeg) (k + 1) = E := by rw [hE]; rfl
            rw [hE2]
            have UE : UP σM E := by rw [hE]; exact UP_w (UP_w U6 (.inl nl)) (.inl (by decide))
            have E0 : E.1 0 = t6.1 0 := by rw [hE, gsI_row (by decide), gsI_row (by decide)]
            rcases h6 with ⟨rfl, hQ6, h11, w0, w1⟩ | ⟨rfl, hF6⟩
            · refine re_fl one_ne ?_
              have f10 : s6.1 46 10 = q := (((F6 46 10 (by decide) (by decide)).1).trans (((F5 46 10 (by decide) (by decide)).1).trans ((F4 46 10 (by decide) (by decide)).1))).trans h20
              have cC : ∀ j, j ≠ 46 → s6.1 j = σC.1 j := fun j hj => by rw [cRo F6 (by decide) hj, cRo F5 (by decide) hj, cRo F4 (by decide) hj, cRo F2 (by decide) hj, cRo F1 (by decide) hj]
              have full : ∀ τ : gS, τ.1 25 = σC.1 25 → fX8_isFull_24 τ 3 = some 0 := fun τ e => by
                rcases c_full3 τ with ⟨z, -⟩ | ⟨-, z⟩
                · exact z
                · rw [e, e3] at z
                  omega
              obtain ⟨B, hB⟩ : ∃ B, B = gsI (gsI (gsI (gsI (gsI (gsI s6 32 n p) 33 n q) 37 n w) 25 3 (k + 1)) 35 n (s6.1 46 12)) 36 n (s6.1 46 13) := ⟨_, rfl⟩
              have eA : fX8_addRow_24 s6 p q (s6.1 46 12) (s6.1 46 13) w = some B := by
                have x1 : s6.1 25 ((3 : Int32).toNatClampNeg) = k := by
                  show s6.1 25 3 = _
                  rw [cC 25 (by decide), e3]
                have x2 : (gsI (gsI (gsI s6 32 n p) 33 n q) 37 n w).1 25 ((3 : Int32).toNatClampNeg) = k := by
                  rw [gsI_row (by decide), gsI_row (by decide), gsI_row (by decide)]; exact x1
                unfold fX8_addRow_24 fX8_setMeasured_24
                rw [q_bd (full s6 (cC 25 (by decide))), if_pos rfl, q_gd (by decide), nm_eq, x1, nm_eq, q_gd g60, nm_eq, q_gd g60, nm_eq, q_gd g60, nm_eq, kn, q_gd (by decide), nm_eq, x2, q_gd (by decide), nm_eq, q_gd (by decide), q_gd g60, nm_eq, q_gd (by decide), q_gd g60, nm_eq, bd_so, hB]
                rfl
              have jC := o_fX8_addRow_24 hQ6.1 (p1 := p) (p2 := q) (p3 := s6.1 46 12) (p4 := s6.1 46 13) (p5 := w) p0 (by omega) q0 (by omega)
              rw [eA] at jC
              have jC := (ok_some.mp jC).1
              rw [f10, h11, eA, bd_so]
              have i1 := i_inc (a := k) (c := 59) (by omega) hk59 (by decide)
              have jM : JM E := by rw [hE]; exact JM_w (JM_w hQ6.2.1 (Int32.le_toInt _) (Int32.toInt_le _)) (show 0 ≤ _ by omega) (show _ ≤ 60 by omega)
              have Bo : ∀ j, j ≠ 25 → j ≠ 32 → j ≠ 33 → j ≠ 35 → j ≠ 36 → j ≠ 37 → B.1 j = s6.1 j := fun j j1 j2 j3 j4 j5 j6 => by rw [hB, gsI_row j5, gsI_row j4, gsI_row j1, gsI_row j6, gsI_row j3, gsI_row j2]
              have Bc : ∀ j, j ≠ 25 → j ≠ 32 → j ≠ 33 → j ≠ 35 → j ≠ 36 → j ≠ 37 → j ≠ 46 → B.1 j = σC.1 j := fun j j1 j2 j3 j4 j5 j6 j7 => (Bo j j1 j2 j3 j4 j5 j6).trans (cC j j7)
              have B25 : ∀ i, B.1 25 i = if i = 3 then k + 1 else σC.1 25 i := fun i => by rw [hB, gsI_row (by decide), gsI_row (by decide), gsI_at, gsI_row (by decide), gsI_row (by decide), gsI_row (by decide), cC 25 (by decide)]
              have B32 : ∀ i, B.1 32 i = if i = n then p else σC.1 32 i := fun i => by rw [hB, gsI_row (by decide), gsI_row (by decide), gsI_row (by decide), gsI_row (by decide), gsI_row (by decide), gsI_at, cC 32 (by decide)]
              have B33 : ∀ i, B.1 33 i = if i = n then q else σC.1 33 i := fun i => by rw [hB, gsI_row (by decide), gsI_row (by decide), gsI_row (by decide), gsI_row (by decide), gsI_at, gsI_row (by decide), cC 33 (by decide)]
              have Eo : ∀ j, j ≠ 0 → j ≠ 15 → j ≠ 24 → j ≠ 25 → E.1 j = t3.1 j := fun j j0 j1 j2 j3 => by rw [hE, gsI_row j1, gsI_row j3]; exact cM j j0 j2
              have E15 : ∀ i, E.1 15 i = if i = 3 then k + 1 else σM.1 15 i := fun i => by rw [hE, gsI_at, gsI_row (by decide), cM 15 (by decide) (by decide), To 15 (by decide) (by decide) (by decide)]
              have E14 : E.2 14 = σM.2 14 := by rw [hE]; show t6.2 14 = _; rw [Fr_row2 G6 14 (by decide), Fr_row2 G5 14 (by decide), R2]; exact T14
              have Ec : ∀ j, j ≠ 0 → j ≠ 15 → j ≠ 24 → j ≠ 25 → j ≠ 22 → j ≠ 23 → E.1 j = σM.1 j := fun j j0 j1 j2 j3 j4 j5 => (Eo j j0 j1 j2 j3).trans (To j j0 j4 j5)
              have E22 : ∀ i, E.1 22 i = if i = n then p else σM.1 22 i := fun i => by rw [Eo 22 (by decide) (by decide) (by decide) (by decide)]; exact T22 i
              have E23 : ∀ i, E.1 23 i = if i = n then q else σM.1 23 i := fun i => by rw [Eo 23 (by decide) (by decide) (by decide) (by decide)]; exact T23 i
              have k2 : (2 * k).toNatClampNeg = 2 * n := by rw [n_toInt, imulc (c := 2) (by decide) (by omega) (by omega)]; omega
              have k21 : (2 * k + 1).toNatClampNeg = 2 * n + 1 := by
                have m2 : (2 * k).toInt = 2 * k.toInt := imulc (by decide) (by omega) (by omega)
                have l1 : (1 : Int32).toInt = 1 := by decide
                have m21 : (2 * k + 1).toInt = 2 * k.toInt + 1 := by rw [iadd_toInt] <;> omega
                rw [n_toInt]; omega
              have f12 : s6.1 46 12 = xx := (((F6 46 12 (by decide) (by decide)).1).trans ((F5 46 12 (by decide) (by decide)).1)).trans h12
              have f13 : s6.1 46 13 = yy := (((F6 46 13 (by decide) (by decide)).1).trans ((F5 46 13 (by decide) (by decide)).1)).trans h13
              have B35 : ∀ i, B.1 35 i = if i = n then xx else σC.1 35 i := fun i => by rw [hB, gsI_row (by decide), gsI_at, gsI_row (by decide), gsI_row (by decide), gsI_row (by decide), gsI_row (by decide), cC 35 (by decide), f12]
              have B36 : ∀ i, B.1 36 i = if i = n then yy else σC.1 36 i := fun i => by rw [hB, gsI_at, gsI_row (by decide), gsI_row (by decide), gsI_row (by decide), gsI_row (by decide), gsI_row (by decide), cC 36 (by decide), f13]
              have B37 : ∀ i, B.1 37 i = if i = n then w else σC.1 37 i := fun i => by rw [hB, gsI_row (by decide), gsI_row (by decide), gsI_row (by decide), gsI_at, gsI_row (by decide), gsI_row (by decide), cC 37 (by decide)]
              have E25 : ∀ i, E.1 25 i = if i = n then w else σM.1 25 i := fun i => by rw [hE, gsI_row (by decide), gsI_at, cM 25 (by decide) (by decide), To 25 (by decide) (by decide) (by decide)]
              have E24 : ∀ i, E.1 24 i = if i = 2 * n + 1 then yy else if i = 2 * n then xx else σM.1 24 i := fun i => by
                rw [hE, gsI_row (by decide), gsI_row (by decide), mRo G6 (by decide) (by decide), mRo G5 (by decide) (by decide), y3]
                show (gsI t9 24 (2 * k + 1).toNatClampNeg yy).1 24 i = _
                rw [gsI_at, k21, y1]
                show (if i = 2 * n + 1 then yy else (gsI t8 24 (2 * k).toNatClampNeg xx).1 24 i) = _
                rw [gsI_at, k2, y2, To 24 (by decide) (by decide) (by decide)]
              have n0 : E.1 15 0 = σM.1 15 0 := E15 0
              have n1 : E.1 15 1 = σM.1 15 1 := E15 1
              have n2 : E.1 15 2 = σM.1 15 2 := E15 2
              have n3 : E.1 15 3 = k + 1 := E15 3
              have n4 : E.1 15 4 = σM.1 15 4 := E15 4
              refine ⟨_, _, rfl, rfl, UE, .inl ⟨rfl, PSt_mv hQ6 jC jM (Bo 46 (by decide) (by decide) (by decide) (by decide) (by decide) (by decide)) (Bo 1 (by decide) (by decide) (by decide) (by decide) (by decide) (by decide)) (fun j hj => by rw [hE, gsI_row (by omega), gsI_row (by omega)]), ?_⟩⟩
              refine ⟨fun j hj => ?_, by rw [n4]; exact d2, fun K hK => ?_, fun j hp => ?_, fun j hp => ?_, fun r hr => ?_, fun j hp h2 => ?_, fun j hp h2 => ?_⟩
              · rw [B25, E15]
                by_cases e : j = 3
                · rw [if_pos e, if_pos e]
                · rw [if_neg e, if_neg e, d1 j hj]
              · obtain ⟨z1, z2⟩ := d3 K hK
                refine ⟨by rw [B25, E15, if_neg (by omega), if_neg (by omega), z1], fun i hi => ?_⟩
                rw [E15, if_neg (by omega)] at hi
                rw [E14, Bc (27 + K) (by omega) (by omega) (by omega) (by omega) (by omega) (by omega) (by omega)]
                exact z2 i hi
              · rw [n1] at hp
                unfold PD
                rw [Bc 44 (by decide) (by decide) (by decide) (by decide) (by decide) (by decide) (by decide), Bc 45 (by decide) (by decide) (by decide) (by decide) (by decide) (by decide) (by decide), Ec 19 (by decide) (by decide) (by decide) (by decide) (by decide) (by decide), Bc 30 (by decide) (by decide) (by decide) (by decide) (by decide) (by decide) (by decide), Bc 31 (by decide) (by decide) (by decide) (by decide) (by decide) (by decide) (by decide), Bc 42 (by decide) (by decide) (by decide) (by decide) (by decide) (by decide) (by decide), Ec 16 (by decide) (by decide) (by decide) (by decide) (by decide) (by decide), Ec 17 (by decide) (by decide) (by decide) (by decide) (by decide) (by decide), Ec 18 (by decide) (by decide) (by decide) (by decide) (by decide) (by decide), n0]
                exact d4 j hp
              · rw [n2] at hp
                unfold QD
                rw [Bc 38 (by decide) (by decide) (by decide) (by decide) (by decide) (by decide) (by decide), Bc 40 (by decide) (by decide) (by decide) (by decide) (by decide) (by decide) (by decide), Bc 41 (by decide) (by decide) (by decide) (by decide) (by decide) (by decide) (by decide), Ec 20 (by decide) (by decide) (by decide) (by decide) (by decide) (by decide), Ec 21 (by decide) (by decide) (by decide) (by decide) (by decide) (by decide)]
                exact d5 j hp
              · rw [n3, i1] at hr
                unfold RD
                have l1 : (1 : Int32).toInt = 1 := by decide
                have l9 : (9 : Int32).toInt = 9 := by decide
                rw [B32, B33, B35, B36, B37, E22, E23, E24, E24, E25, n1, n2]
                by_cases e : r = n
                · rw [if_pos e, if_pos e, if_pos e, if_pos e, if_pos e, if_pos e, if_pos e, if_pos e]
                  rw [if_neg (show ¬ 2 * r = 2 * n + 1 by omega), if_pos (show 2 * r = 2 * n by omega), if_pos (show 2 * r + 1 = 2 * n + 1 by omega)]
                  refine ⟨rfl, rfl, p1, q1, rfl, rfl, rfl, hx, hy, ⟨by omega, by omega⟩, fun i hi z => ?_⟩
                  rw [E22, if_neg (by omega), E23, if_neg (by omega)] at z
                  obtain ⟨r1, r2, -⟩ := d6 i (by rw [← hk]; omega)
                  exact hno i (by omega) ((dup i (by omega)).mpr (by rw [c32, c33, r1, r2]; exact z))
                · rw [if_neg e, if_neg e, if_neg e, if_neg e, if_neg e, if_neg e, if_neg e, if_neg e]
                  rw [if_neg (show ¬ 2 * r = 2 * n + 1 by omega), if_neg (show ¬ 2 * r = 2 * n by omega), if_neg (show ¬ 2 * r + 1 = 2 * n + 1 by omega), if_neg (show ¬ 2 * r + 1 = 2 * n by omega)]
                  obtain ⟨r1, r2, r3, r4, r5, r6, r7, r8, r9, r10, r11⟩ := d6 r (by rw [← hk]; omega)
                  refine ⟨r1, r2, r3, r4, r5, r6, r7, r8, r9, r10, fun i hi z => ?_⟩
                  rw [E22, if_neg (by omega), E23, if_neg (by omega)] at z
                  exact r11 i hi z
              · rw [n1] at hp
                rw [Bc 42 (by decide) (by decide) (by decide) (by decide) (by decide) (by decide) (by decide)]
                exact d7 j hp h2
              · rw [n2] at hp
                rw [Bc 38 (by decide) (by decide) (by decide) (by decide) (by decide) (by decide) (by decide)]
                exact d8 j hp h2
            · refine re_tl rfl (re_so (ok_some.mpr ⟨UE, .inr ⟨rfl, ?_⟩⟩))
              unfold FSx
              rw [E0]
              exact FSt_x hF6
          · refine re_tl rfl (re_so ?_)
            have hb := hF5.2.2.1
            rw [e_number hb, bd2_so, q_gd g120, nm_eq, q_gd (by decide), nm_eq, q_gd (by decide), nm_eq, kn]
            refine ok_some.mpr ⟨UP_w (UP_w U5 (.inl nl)) (.inl (by decide)), .inr ⟨rfl, ?_⟩⟩
            exact FSx_mv (FSt_x hF5) ((gsI_row (by decide)).trans (gsI_row (by decide)))
        · exact re_tl rfl (re_so (rE_bad hk0 hk59 hF4 (UP_t U2' R3)))
      · have fr : FR s2 p q ≠ -1 := by
          rcases fs with ⟨-, f2⟩ | ⟨j, -, -, -, f4, -⟩
          · have := f2 i (Nat.zero_le _) (by rw [c25, e3]; omega)
            exact absurd (decide_eq_true ((dup i hi).mp hdup)) (by rw [this]; decide)
          · intro z
            have l1 : (-1 : Int32).toInt = -1 := by decide
            unfold FR at z
            rw [z] at f4
            omega
        rw [el]
        refine re_fl fr ?_
        rw [r_failC, bd2_so, nb0]
        exact re_so (Rst_bad hk0 hk59 ⟨JC_f hQ2.1, by show (3 : Int32) ≠ 0; decide, rfl, T21⟩ (UP_w (UP_w U2' (.inr (by decide))) (.inr (by decide))))
    · refine re_tl rfl (re_so ?_)
      have hF : FSx s2 (gsI t2 23 n q) := FSx_mv (FSt_x hF2) (gsI_row (by decide))
      rw [row_bad hk59 k.toInt.toNat K9 0 _ (by have := z0; omega) (by decide) (by unfold K9; omega) hF.2.1]
      exact Rst_bad hk0 hk59 hF U2'
  · refine re_tl rfl (re_so ?_)
    have hF : FSx s1 (gsI t1 22 n p) := FSx_mv (FSt_x hF1) (gsI_row (by decide))
    have jM : JM (gsI t1 22 n p) := JM_w hF1.2.1 (show 0 ≤ _ from pb0) (show _ ≤ 11 from pb1)
    obtain ⟨q, eq⟩ := e_oneOf jM hF.2.1 (k := 2) (by decide) (by decide)
    rw [nm_eq, eq, bd2_so, q_gd g120, nm_eq, nm_eq]
    have hF' : FSx s1 (gsI (gsI t1 22 n p) 23 n q) := FSx_mv hF (gsI_row (by decide))
    rw [row_bad hk59 k.toInt.toNat K9 0 _ (by have := z0; omega) (by decide) (by unfold K9; omega) hF'.2.1]
    exact Rst_bad hk0 hk59 hF' (UP_w U1' (.inl nl))
end PJ
