/-! CLEANED, on both sides -/
section P12ZH
theorem GT_row {σ s τ t : gS} (h : GT σ s) (c : ∀ j, j < 60 → τ.1 j = σ.1 j) (m : ∀ j, j ≤ 28 → t.1 j = s.1 j) (m2 : t.2 = s.2) (jC : JC τ) (jM : JM t) : GT τ t := by
  obtain ⟨-, -, T, g1, g2, g3, g4, g5, g6, g7, g8⟩ := h
  refine ⟨jC, jM, TR_k T (fun k hk => c k (by omega)) (fun k k1 k2 => m k (by omega)) m2, ?_⟩
  unfold GE MSd
  rw [c 47 (by decide), m 0 (by decide), m 15 (by decide), c 48 (by decide), m 27 (by decide), m 28 (by decide), c 58 (by decide), m 26 (by decide), c 13 (by decide), c 14 (by decide), m 24 (by decide)]
  refine ⟨g1, g2, g3, fun a p ha hp => ?_, fun a p ha hp => ?_, fun a p ha hp => ?_, g7, g8⟩
  · rw [c _ (by omega)]; exact g4 a p ha hp
  · rw [c _ (by omega)]; exact g5 a p ha hp
  · rw [c _ (by omega)]; exact g6 a p ha hp
theorem GT_drop {σ s : gS} (h : GT σ s) (r : Nat) {v : Int32} (hv : v = 0 ∨ v = 1) : GT (gsI σ 58 r v) (gsI s 26 r v) :=
  ⟨JC_w h.1 (Int32.le_toInt _) (Int32.toInt_le _), JM_w h.2.1 (Int32.le_toInt _) (Int32.toInt_le _), TR_k h.2.2.1 (fun k hk => gsI_row (by omega)) (fun k k1 k2 => gsI_row (by omega)) rfl, GE_drop h.2.2.2 r hv⟩
/-- rows that were dropped here, on both sides -/
noncomputable def CL (κ t : gS) : Prop := GT κ t ∧ (∀ r : Nat, (r : Int) < (t.1 15 9).toInt → (κ.1 199 r = 1 ↔ (¬ t.1 26 r = 0 ∧ t.1 33 r = 0))) ∧ ∀ r : Nat, (r : Int) < (t.1 15 9).toInt → ¬ t.1 33 r = 0 → ¬ t.1 26 r = 0
theorem CL_row {κ t κ' t' : gS} (h : CL κ t) (g : GT κ' t') (c : κ'.1 199 = κ.1 199) (m15 : t'.1 15 = t.1 15) (m26 : t'.1 26 = t.1 26) (m33 : t'.1 33 = t.1 33) : CL κ' t' := by
  refine ⟨g, ?_, ?_⟩
  · rw [c, m15, m26, m33]; exact h.2.1
  · rw [m15, m26, m33]; exact h.2.2
noncomputable def PFc (c b : Int32 × gS) : Prop := c.1 = b.1 ∧ GT c.2 b.2
/-- what the class does behind dropping -/
noncomputable def EC (L : Int64) (x5 : Int32) (σ4 : gS) : Option (Int32 × gS) := bd2 (fX9_putBack σ4 L) fun r7 σ8 => nm (r7 : Int32) fun x9 => (if x9 ≤ 0 then some (x5 - x9, σ8) else bd2 (fX1_settle σ8 50) fun r12 σ13 => some (x5 - x9, σ13))
set_option maxHeartbeats 1000000 in
theorem back_2 {κ t tx : gS} {L : Int64} {k : Int32} (h : CL κ t) : Re (EC L k κ) (lpc (S := Int32 × Int32 × gS) K9 (fun rec s => bX10_clean_115 tx L k (fun a5 a6 σ1 => rec (a5, a6, σ1)) s.1 s.2.1 s.2.2) (0, 0, t)) PFc := by
  obtain ⟨b9, b8, b7, b6⟩ := gt_n h.1
  have z0' := z0
  have l1 : (1 : Int32).toInt = 1 := by decide
  unfold EC
  refine re_k ?_
  unfold fX9_putBack
  rw [nm_eq, nm_eq]
  refine re_lpc (I := fun (n : Nat) (x : Int32 × Int32 × gS) (y : Int32 × Int32 × gS) => n = ((t.1 15 9).toInt - y.2.1.toInt).toNat ∧ 0 ≤ y.2.1.toInt ∧ y.2.1.toInt ≤ (t.1 15 9).toInt ∧ x.1 = y.1 ∧ x.2.1 = y.2.1 ∧ GT x.2.2 y.2.2 ∧ (∀ j, j ≠ 26 → y.2.2.1 j = t.1 j) ∧ x.2.2.1 199 = κ.1 199 ∧ ∀ r : Nat, y.2.1.toInt ≤ (r : Int) → y.2.2.1 26 r = t.1 26 r) (fun f g n x y hs hrec => ?_) K9 K9 (t.1 15 9).toInt.toNat (0, 0, κ) (0, 0, t) ⟨by dsimp only; omega, by dsimp only; omega, by dsimp only; omega, rfl, rfl, h.1, fun _ _ => rfl, rfl, fun _ _ => rfl⟩ (by unfold K9; omega) (by unfold K9; omega)
  obtain ⟨c, r', σ⟩ := x
  obtain ⟨c', r, s⟩ := y
  obtain ⟨hn, r0, r1, ec, er, hG, hm, h199, h26⟩ := hs
  dsimp only at hn r0 r1 ec er hG hm h199 h26 ⊢
  subst ec er
  have s15 : s.1 15 = t.1 15 := hm 15 (by decide)
  have e3 : σ.1 3 ((3 : Int32).toNatClampNeg) = t.1 15 9 := by rw [← s15]; exact (tr_n hG.2.2.1).1
  unfold bX9_putBack_5 bX10_clean_115
  simp only [nm_eq]
  rw [q_gd (by decide), e3, q_bd (m_rows s), s15]
  by_cases hk : t.1 15 9 ≤ r'
  · rw [if_pos hk, if_pos hk]
    refine re_so ?_
    dsimp only
    by_cases z : c ≤ 0
    · rw [if_pos z]
      refine ok_some.mpr ?_
      rw [if_pos z]
      exact ok_some.mpr ⟨rfl, hG⟩
    · rw [if_neg z]
      obtain ⟨oc, om, eC, eM, -, g, -⟩ := settle_gt hG (m := 50) (by decide) (by decide)
      rw [q_bd2 eM]
      refine ok_some.mpr ?_
      rw [if_neg z, q_bd2 eC]
      exact ok_some.mpr ⟨rfl, g⟩
  have hlt := q_gt hk
  have ei := i_inc (a := r') (c := 60) (by omega) (by omega) (by decide)
  have gr := gb_of (i := r') (n := 60) r0 (by omega)
  have H := h.2.1 r'.toInt.toNat (by omega)
  have go : ∀ (c1 : Int32) (σ1 s1 : gS), GT σ1 s1 → (∀ j, j ≠ 26 → s1.1 j = t.1 j) → σ1.1 199 = κ.1 199 → (∀ r : Nat, r'.toInt + 1 ≤ (r : Int) → s1.1 26 r = t.1 26 r) → Re (f (c1, r' + 1, σ1)) (g (c1, r' + 1, s1)) _ := fun c1 σ1 s1 q1 q2 q3 q4 => hrec ((t.1 15 9).toInt - (r' + 1).toInt).toNat _ _ (by omega) ⟨rfl, by dsimp only; omega, by dsimp only; omega, rfl, rfl, q1, q2, q3, fun r hr => q4 r (by dsimp only at hr; omega)⟩
  have same := go c σ s hG hm h199 (fun r hr => h26 r (by omega))
  rw [if_neg hk, if_neg hk]
  simp only [gr, gd_t]
  rw [n_toInt, h199, h26 r'.toInt.toNat (by omega)]
  by_cases u : t.1 26 r'.toInt.toNat = 0
  · have n1 : ¬ κ.1 199 r'.toInt.toNat = 1 := fun z => (H.mp z).1 u
    rw [if_neg n1, if_pos u]
    exact same
  · rw [if_neg u, hm 33 (by decide)]
    by_cases v : t.1 33 r'.toInt.toNat = 0
    · have n1 : κ.1 199 r'.toInt.toNat = 1 := H.mpr ⟨u, v⟩
      have D := db_gt hG (r := r') r0 (by rw [s15]; exact hlt)
      rw [if_pos n1, if_pos v, q_bd D.1, q_bd D.2]
      by_cases y : dbO s r'.toInt.toNat ≤ L
      · have y2 : ¬ L < dbO s r'.toInt.toNat := fun y3 => by
          have a := Int64.le_iff_toInt_le.mp y
          have b := Int64.lt_iff_toInt_lt.mp y3
          omega
        rw [if_neg y2, if_pos y, nb0]
        refine go (c + 1) _ _ (GT_drop hG _ (.inl rfl)) (fun j hj => (gsI_row hj).trans (hm j hj)) ((gsI_row (by decide)).trans h199) (fun r hr => ?_)
        rw [gsI_at, if_neg (by omega)]
        exact h26 r (by omega)
      · have y2 : L < dbO s r'.toInt.toNat := by
          have := q_lgt y
          exact Int64.lt_iff_toInt_lt.mpr this
        rw [if_pos y2, if_neg y]
        exact same
    · have n1 : ¬ κ.1 199 r'.toInt.toNat = 1 := fun z => v (H.mp z).2
      rw [if_neg n1, if_neg v]
      exact same
/-- the reference, behind its rests -/
noncomputable def RC9 (L : Int64) (rec : Int32 → Int32 → gS → Option (Int32 × gS)) (a3 : Int32) (σ35 : gS) : Option (Int32 × gS) := bd2 (fX10_worstNow σ35) fun r38 σ39 => nm (r38 : Int32) fun x40 => (if x40 = ((-1)) then jX10_clean_88 σ39 L rec a3 x40 0 else bd (fX10_doubtOf σ39 x40) fun r47 => (if r47 ≤ L then jX10_clean_88 σ39 L rec a3 x40 0 else if 20 ≤ a3 then jX10_clean_88 σ39 L rec a3 x40 0 else jX10_clean_88 σ39 L rec a3 x40 1))
set_option maxHeartbeats 1000000 in
theorem above_2 {σx tx : gS} {L : Int64} (hL : 0 ≤ L.toInt) : ∀ (d K J : Nat) (k : Int32) (κ t : gS), d = (20 - k.toInt).toNat → d < K → d + 1 < J → 0 ≤ k.toInt → k.toInt ≤ 20 → CL κ t → Re (lpc (S := Int32 × gS) K (fun rec s => bX9_dropAbove_20 σx L (fun a3 σ1 => rec (a3, σ1)) s.1 s.2) (k, κ)) (RC9 L (fun a3 a4 σ1 => lpc (S := Int32 × Int32 × gS) J (fun rec s => bX10_clean_41 tx L (fun a3 a4 σ1 => rec (a3, a4, σ1)) s.1 s.2.1 s.2.2) (a3, a4, σ1)) k t) (fun a b => Ok (EC L a.1 a.2) (fun c => PFc c b)) := by
  intro d
  have l20 : (20 : Int32).toInt = 20 := by decide
  have lm : (-1 : Int32).toInt = -1 := by decide
  -- leaving
  have leave : ∀ (J : Nat) (k : Int32) (κ t : gS) (x : Int32), 0 < J → CL κ t → Re (some (k, κ)) (jX10_clean_88 t L (fun a3 a4 σ1 => lpc (S := Int32 × Int32 × gS) J (fun rec s => bX10_clean_41 tx L (fun a3 a4 σ1 => rec (a3, a4, σ1)) s.1 s.2.1 s.2.2) (a3, a4, σ1)) k x 0) (fun a b => Ok (EC L a.1 a.2) (fun c => PFc c b)) := fun J k κ t x hJ hc => by
    obtain ⟨oc, om, e1, e2, e3⟩ := back_2 (tx := t) (L := L) (k := k) hc
    refine ⟨_, om, rfl, ?_, oc, e1, e3⟩
    unfold jX10_clean_88
    rw [nm_eq, if_pos rfl]
    show lpc (S := Int32 × Int32 × gS) J (fun rec s => bX10_clean_41 tx L (fun a3 a4 σ1 => rec (a3, a4, σ1)) s.1 s.2.1 s.2.2) (k, 0, t) = _
    rw [lpc_pos hJ]
    show bX10_clean_41 tx L _ k 0 t = _
    unfold bX10_clean_41
    rw [if_pos rfl, nm_eq, nm_eq]
    exact e2
  induction d with
  | zero =>
    intro K J k κ t hd hK hJ k0 k1 hc
    obtain ⟨oc, om, eC, eM, W, nx, jC, jM⟩ := worst_2 hc.1
    have g2 : CL κ om.2 := CL_row hc (GT_nx hc.1 ⟨fun _ _ _ => rfl, rfl, nx.2.2.1, nx.2.2.2⟩ hc.1.1 jM) rfl (nx.2.2.1 15 (by decide)) (nx.2.2.1 26 (by decide)) (nx.2.2.1 33 (by decide))
    have eK : lpc (S := Int32 × gS) K (fun rec s => bX9_dropAbove_20 σx L (fun a3 σ1 => rec (a3, σ1)) s.1 s.2) (k, κ) = some (k, κ) := by
      rw [lpc_pos hK]
      show bX9_dropAbove_20 σx L _ k κ = _
      unfold bX9_dropAbove_20
      rw [if_pos (q_le (by omega)), show k = 20 from Int32.toInt_inj.mp (by omega)]
    rw [eK]
    unfold RC9
    rw [q_bd2 eM, nm_eq]
    have lv := leave J k κ om.2 om.1 (by omega) g2
    by_cases y : om.1 = -1
    · rw [if_pos y]; exact lv
    · have hr : 0 ≤ om.1.toInt ∧ om.1.toInt < (t.1 15 9).toInt := by
        rcases W with ⟨-, z | z⟩ | ⟨-, z, -⟩
        · exact absurd z y
        · exact z.1
        · exact z
      have D := (db_gt g2.1 (r := om.1) hr.1 (by rw [nx.2.2.1 15 (by decide)]; exact hr.2)).2
      rw [if_neg y, q_bd D]
      by_cases v : dbO om.2 om.1.toInt.toNat ≤ L
      · rw [if_pos v]; exact lv
      · rw [if_neg v, if_pos (q_le (by omega))]
        exact lv
  | succ d ih =>
    intro K J k κ t hd hK hJ k0 k1 hc
    obtain ⟨oc, om, eC, eM, W, nx, jC, jM⟩ := worst_2 hc.1
    have n15 : om.2.1 15 = t.1 15 := nx.2.2.1 15 (by decide)
    have g3 : GT oc.2 om.2 := GT_nx hc.1 nx jC jM
    have g2 : CL oc.2 om.2 := CL_row hc g3 (nx.1 199 (by decide) (by decide)) n15 (nx.2.2.1 26 (by decide)) (nx.2.2.1 33 (by decide))
    have lv := leave J k oc.2 om.2 om.1 (by omega) g2
    have eK : ∀ rec : Int32 × gS → Option (Int32 × gS), bX9_dropAbove_20 σx L (fun a3 σ1 => rec (a3, σ1)) k κ = (if oc.1 = ((-1)) then some (k, oc.2) else bd (fX5_doubtOf_47 oc.2 oc.1) fun r14 => (if L < r14 then gd (gb oc.1 60) <| gd (gb oc.1 60) <| bd2 (fX1_settle (gsI (gsI oc.2 58 oc.1.toNatClampNeg 1) 199 oc.1.toNatClampNeg 1) 50) fun r19 σ20 => rec (k + 1, σ20) else some (k, oc.2))) := fun rec => by
      unfold bX9_dropAbove_20
      rw [if_neg (q_nle (by omega)), q_bd2 eC]
      rfl
    rw [lpc_pos (by omega)]
    show Re (bX9_dropAbove_20 σx L _ k κ) _ _
    rw [eK]
    unfold RC9
    rw [q_bd2 eM, nm_eq]
    rcases W with ⟨wa, wb⟩ | ⟨we, hr, hu, hd0⟩
    · rw [if_pos wa]
      by_cases y : om.1 = -1
      · rw [if_pos y]; exact lv
      · have hb := wb.resolve_left y
        have D := (db_gt g3 (r := om.1) hb.1.1 (by rw [n15]; exact hb.1.2)).2
        rw [db_eq nx.2.2.1] at D
        rw [if_neg y, q_bd D, if_pos (q_lle (by omega))]
        exact lv
    · have y : ¬ om.1 = -1 := fun z => by rw [z] at hr; omega
      have b9 := (gt_n hc.1).1
      have D := db_gt g3 (r := om.1) hr.1 (by rw [n15]; exact hr.2)
      rw [we, if_neg y, if_neg y, q_bd D.1, q_bd D.2]
      by_cases v : dbO om.2 om.1.toInt.toNat ≤ L
      · have v2 : ¬ L < dbO om.2 om.1.toInt.toNat := fun y3 => by
          have a := Int64.le_iff_toInt_le.mp v
          have b := Int64.lt_iff_toInt_lt.mp y3
          omega
        rw [if_pos v, if_neg v2]
        exact lv
      · have v2 : L < dbO om.2 om.1.toInt.toNat := Int64.lt_iff_toInt_lt.mpr (q_lgt v)
        have gr := gb_of (i := om.1) (n := 60) hr.1 (by omega)
        obtain ⟨R, hR⟩ : ∃ R, R = om.1.toInt.toNat := ⟨_, rfl⟩
        have g4 : GT (gsI (gsI oc.2 58 R 1) 199 R 1) (gsI om.2 26 R 1) := GT_row (GT_drop g3 R (v := 1) (.inr rfl)) (fun j hj => gsI_row (by omega)) (fun _ _ => rfl) rfl (JC_w (GT_drop g3 R (v := 1) (.inr rfl)).1 (Int32.le_toInt _) (Int32.toInt_le _)) (GT_drop g3 R (v := 1) (.inr rfl)).2.1
        have c4 : CL (gsI (gsI oc.2 58 R 1) 199 R 1) (gsI om.2 26 R 1) := by
          refine ⟨g4, fun r hr2 => ?_, fun r hr2 h33 => ?_⟩
          · rw [gsI_row (by decide)] at hr2
            rw [gsI_at, gsI_row (by decide), gsI_at, gsI_row (show 33 ≠ 26 by decide)]
            by_cases z : r = R
            · rw [if_pos z, if_pos z]
              refine ⟨fun _ => ⟨one_ne, ?_⟩, fun _ => rfl⟩
              have x33 := g2.2.2 r hr2
              rw [nx.2.2.1 26 (by decide)] at x33
              exact Decidable.byContradiction (fun q => x33 q (by rw [z, hR]; exact hu))
            · rw [if_neg z, if_neg z]
              exact g2.2.1 r hr2
          · rw [gsI_row (by decide)] at hr2 h33
            rw [gsI_at]
            by_cases z : r = R
            · rw [if_pos z]; exact one_ne
            · rw [if_neg z]; exact g2.2.2 r hr2 h33
        obtain ⟨pc, pm, dC, dM, -, g5, F1, F2⟩ := settle_gt g4 (m := 50) (by decide) (by decide)
        have c5 : CL pc.2 pm.2 := CL_row c4 g5 (Fr_row F1 199 (by decide)) (Fr_row F2 15 (by decide)) (Fr_row F2 26 (by decide)) (Fr_row F2 33 (by decide))
        have ek := i_inc (a := k) (c := 60) (by omega) (by omega) (by decide)
        have I := ih (K - 1) (J - 1) (k + 1) pc.2 pm.2 (by omega) (by omega) (by omega) (by omega) (by omega) c5
        rw [if_neg v, if_pos v2, q_gd gr, q_gd gr, n_toInt, ← hR, q_bd2 dC, if_neg (q_nle (by omega))]
        unfold jX10_clean_88
        rw [nm_eq, if_neg one_ne, q_gd gr, nm_eq, nm_eq, nb1, n_toInt, ← hR]
        show Re _ (lpc (S := Int32 × Int32 × gS) J (fun rec s => bX10_clean_41 tx L (fun a3 a4 σ1 => rec (a3, a4, σ1)) s.1 s.2.1 s.2.2) (k + 1, 1, gsI om.2 26 R 1)) _
        rw [lpc_pos (show 0 < J by omega)]
        have e41 : ∀ rec : Int32 × Int32 × gS → Option (Int32 × gS), bX10_clean_41 tx L (fun a3 a4 σ1 => rec (a3, a4, σ1)) (k + 1) 1 (gsI om.2 26 R 1) = RC9 L (fun a3 a4 σ1 => rec (a3, a4, σ1)) (k + 1) pm.2 := fun rec => by
          unfold bX10_clean_41
          rw [if_neg one_ne, q_bd2 dM, nm_eq]
          rfl
        show Re _ (bX10_clean_41 tx L _ (k + 1) 1 (gsI om.2 26 R 1)) _
        rw [e41]
        exact I
end P12ZH
