/-! THE TWO READERS, 15: block -/
section PO
theorem re_k {α β γ : Type} {f : Option (α × gS)} {g : Option β} {E : α → gS → Option γ} {P : γ → β → Prop} (h : Re f g (fun a b => Ok (E a.1 a.2) (fun c => P c b))) : Re (bd2 f E) g P := by
  obtain ⟨⟨a, s⟩, b, h1, h2, h3⟩ := h
  obtain ⟨c, h4, h5⟩ := h3
  rw [h1, bd2_so]
  exact ⟨c, b, h4, h2, h5⟩
theorem PSt_look {σC σM : gS} {o : Int32 × gS} (h : PSt σC σM) (k : LKP σM o) : PSt σC o.2 := by
  obtain ⟨p1, p2, p3, p4, p5, ⟨x, hx, hy⟩, p7, p8, p9, p10, p11, p12⟩ := h
  obtain ⟨k1, k2, k3, -⟩ := k
  have u : ∀ i, i ≠ 2 → o.2.1 0 i = σM.1 0 i := fun i hi => (k2 0 i (by decide) (by simp [fr_fX10_look]; exact hi)).1
  rw [p3, p4] at k3
  have e := Wh_uniq k3 hy
  exact ⟨p1, k1, (Fr_row k2 1 (by decide)).trans p3, (u 3 (by decide)).trans p4, (u 4 (by decide)).trans p5, ⟨x, hx, by rw [e]; exact Wh_idem hy⟩, p7, (u 5 (by decide)).trans p8, WM_fr k2 (by decide) p9, p10, p11, (u 6 (by decide)).trans p12⟩
theorem PSt_skip {σC σM τ : gS} (h : PSt σC σM) (k : SKP σC τ) : PSt τ σM := by
  obtain ⟨p1, p2, p3, p4, p5, ⟨x, hx, hy⟩, p7, p8, p9, p10, p11, p12⟩ := h
  obtain ⟨k1, k2, k3⟩ := k
  have u : ∀ i, i ≠ 5 → τ.1 46 i = σC.1 46 i := fun i hi => (k2 46 i (by decide) (by simp [fr_fX3_skipBlanks]; exact hi)).1
  have t1 : τ.1 1 = σC.1 1 := Fr_row k2 1 (by decide)
  have e := Wh_uniq k3 hx
  refine ⟨k1, p2, by rw [t1]; exact p3, by rw [u 4 (by decide)]; exact p4, by rw [u 8 (by decide)]; exact p5, ⟨x, ?_, ?_⟩, ?_, p8, p9, by rw [u 2 (by decide)]; exact p10, by rw [u 3 (by decide)]; exact p11, p12⟩
  · rw [t1, u 4 (by decide), e]; exact Wh_idem hx
  · rw [t1, u 4 (by decide)]; exact hy
  · rw [u 8 (by decide)]
    have := k3.1
    omega
set_option maxHeartbeats 1000000 in
theorem p_loop {P : Int32 × gS → Int32 × gS → Prop} {sC sM σx σy : gS} (hS : ∀ (m : Int32) (τC τM : gS), PSt τC τM → DS τC τM → UP sM τM → τM.1 0 1 = sM.1 0 1 → (∀ k, k < 25 → τC.1 k = sC.1 k) → τM.1 0 34 = m → 0 ≤ m.toInt → m.toInt ≤ 120 → Re (some (m, τC)) (jX10_block_81 τM) P) (hF : ∀ (τC τM : gS), FSx τC τM → UP sM τM → τM.1 0 1 = sM.1 0 1 → (∀ k, k < 25 → τC.1 k = sC.1 k) → Re (some (-1, τC)) (jX10_block_81 τM) P) : ∀ (d KC KM : Nat) (m : Int32) (σC σM : gS), d = (121 - m.toInt).toNat → d < KC → d + 1 < KM → PSt σC σM → DS σC σM → UP sM σM → σM.1 0 1 = sM.1 0 1 → (∀ k, k < 25 → σC.1 k = sC.1 k) → σM.1 0 34 = m → 0 ≤ m.toInt → m.toInt ≤ 120 → ((σC.1 46 5).toInt < (σC.1 46 4).toInt → ¬ BL (σC.1 1 (σC.1 46 5).toInt.toNat)) → (σC.1 46 8).toInt < (σC.1 46 5).toInt → Re (lpc (S := Int32 × gS) KC (fun rec s => bX3_read_46 σx (fun a2 σ1 => rec (a2, σ1)) s.1 s.2) (m, σC)) (lpc (S := gS) KM (fun rec s => bX10_block_59 σy (fun σ1 => rec (σ1)) s) σM) P := by
  intro d
  induction d with
  | zero =>
    intro KC KM m σC σM hd hK1 hK2 hP hD hU h01 hc hm h0 h1 hbl hle
    exfalso
    omega
  | succ d ih =>
    intro KC KM m σC σM hd hK1 hK2 hP hD hU h01 hc hm h0 h1 hbl hle
    rw [lpc_pos (show 0 < KC by omega), lpc_pos (show 0 < KM by omega)]
    show Re (bX3_read_46 σx _ m σC) (bX10_block_59 σy _ σM) P
    unfold bX3_read_46 bX10_block_59
    have hP' := hP
    obtain ⟨p1, p2, p3, p4, p5, ⟨b, hb, hc2⟩, p7, p8, p9, p10, p11, p12⟩ := hP'
    obtain ⟨⟨v, τM⟩, eL, hL⟩ := r_look p2
    have hQ := PSt_look hP hL
    obtain ⟨l1, l2, l3, l4⟩ := hL
    dsimp only at l1 l2 l3 l4 hQ
    rw [p3, p4] at l3
    have ea : (τM.1 0 2).toInt = (σC.1 46 5).toInt := (Wh_uniq l3 hc2).trans (Wh_uniq hb (Wh_self hbl))
    have hUL : UP sM τM := UP_f hU l2 (by decide)
    have hDL : DS σC τM := DS_fr hD (Fr_r (L := [])) (by decide) l2 (by decide)
    have h1L : τM.1 0 1 = sM.1 0 1 := ((l2 0 1 (by decide) (by decide)).1).trans h01
    have hmL : τM.1 0 34 = m := ((l2 0 34 (by decide) (by decide)).1).trans hm
    refine re_tr p8 (re_e2r eL ?_)
    have tb := jc_tape p1
    by_cases hend : σC.1 46 4 ≤ σC.1 46 5
    · have he := Int32.le_iff_toInt_le.mp hend
      have hv : v = -1 := by
        rcases l4 with ⟨l5, -⟩ | ⟨-, l5⟩
        · rw [p4] at l5
          omega
        · exact l5
      exact re_tl hend (re_tr hv (hS m σC τM hQ hDL hUL h1L hc hmL h0 h1))
    · have he := q_gt hend
      have hv : v ≠ -1 := by
        rcases l4 with ⟨-, l5⟩ | ⟨l5, -⟩
        · intro z
          have := ((jm_tape p2).2.2 (τM.1 0 2).toInt.toNat).1
          rw [← l5, z] at this
          exact absurd this (by decide)
        · rw [p4] at l5
          omega
      have l120 : (120 : Int32).toInt = 120 := by decide
      refine re_fl hend (re_fl (fun z => ?_) (re_fr hv ?_))
      · have := Int32.lt_iff_toInt_lt.mp z
        omega
      refine re_21 (((p_stmt hQ hDL hmL h0 h1 (Int32.toInt_inj.mp ea) hbl hle).r (o_fX10_blockTold l1)).l (o_fX3_readStatement p1 (p1 := m) h0 h1)) (fun r s3 t3 h3 => ?_)
      dsimp only at h3
      obtain ⟨⟨s1, s2, -⟩, ⟨t1, t2, -⟩, hU3, h3⟩ := h3
      have hU4 : UP sM t3 := UP_t hUL hU3
      have h14 : t3.1 0 1 = sM.1 0 1 := ((t2 0 1 (by decide) (by decide)).1).trans h1L
      have hc4 : ∀ k, k < 25 → s3.1 k = sC.1 k := fun k hk => by
        rw [Fr_row s2 k (fun q hq => ?_), hc k hk]
        have := (show ∀ q ∈ fr_fX3_readStatement, 25 ≤ q.1 by decide) q hq
        omega
      rcases h3 with ⟨rfl, hQ3, hD3, hm3, hl3⟩ | ⟨rfl, hF3⟩
      · refine re_fl one_ne ?_
        rw [nm_eq]
        have m119 : m.toInt ≤ 119 := by
          have b34 : (t3.1 0 34).toInt ≤ 120 := (hQ3.2.1 0 34).2
          rw [hm3, i_inc (a := m) (c := 120) (by omega) h1 (by decide)] at b34
          omega
        have e1 := i_inc (a := m) (c := 119) (by omega) m119 (by decide)
        obtain ⟨s4, eS, hS4⟩ := r_skip hQ3.1
        refine re_el eS ?_
        have hS4' := hS4
        obtain ⟨k1, k2, k3⟩ := hS4'
        have u : ∀ i, i ≠ 5 → s4.1 46 i = s3.1 46 i := fun i hi => (k2 46 i (by decide) (by simp [fr_fX3_skipBlanks]; exact hi)).1
        refine ih (KC - 1) (KM - 1) (m + 1) s4 t3 (by omega) (by omega) (by omega) (PSt_skip hQ3 hS4) (DS_fr hD3 k2 (by decide) (Fr_r (L := [])) (by decide)) hU4 h14 (fun k hk => by rw [Fr_row k2 k (fun q hq => by simp [fr_fX3_skipBlanks] at hq; rw [hq]; dsimp only; omega)]; exact hc4 k hk) hm3 (by omega) (by omega) ?_ ?_
        · rw [u 4 (by decide), Fr_row k2 1 (by decide)]
          exact k3.2.2.1
        · rw [u 8 (by decide)]
          have := k3.1
          omega
      · refine re_tl rfl ?_
        show Re _ (lpc (S := gS) (KM - 1) (fun rec s => bX10_block_59 σy (fun σ1 => rec (σ1)) s) t3) P
        rw [lpc_pos (show 0 < KM - 1 by omega)]
        show Re _ (bX10_block_59 σy _ t3) P
        unfold bX10_block_59
        exact re_fr hF3.2.1 (hF s3 t3 hF3 hU4 h14 hc4)
/-- the kinds' numbers are none -/
noncomputable def zM6 (s : gS) : gS := gsI (gsI (gsI (gsI (gsI (gsI s 15 0 0) 15 1 0) 15 2 0) 15 3 0) 15 4 0) 15 5 0
theorem r_zero (σ s : gS) : lpc (S := Int32 × gS) K9 (fun rec s => bX10_block_40 σ (fun a1 σ1 => rec (a1, σ1)) s.1 s.2) (0, s) = lpc (S := gS) K9 (fun rec t => bX10_block_59 (zM6 s) (fun σ1 => rec (σ1)) t) (zM6 s) := by
  have st : ∀ (K : Nat) (a : Int32) (t : gS), 0 < K → 0 ≤ a.toInt → a.toInt ≤ 5 → lpc (S := Int32 × gS) K (fun rec s => bX10_block_40 σ (fun a1 σ1 => rec (a1, σ1)) s.1 s.2) (a, t) = lpc (S := Int32 × gS) (K - 1) (fun rec s => bX10_block_40 σ (fun a1 σ1 => rec (a1, σ1)) s.1 s.2) (a + 1, gsI t 15 a.toInt.toNat 0) := by
    intro K a t hK h0 h5
    have l6 : (6 : Int32).toInt = 6 := by decide
    rw [lpc_pos hK]
    show bX10_block_40 σ _ a t = _
    unfold bX10_block_40
    rw [if_neg (q_nle (by omega)), q_gd (gb_of (by omega) (by omega))]
    rfl
  have hK9 : K9 = 1048576 := rfl
  rw [st K9 0 _ (by omega) (by decide) (by decide), st (K9 - 1) (0 + 1) _ (by omega) (by decide) (by decide), st (K9 - 1 - 1) (0 + 1 + 1) _ (by omega) (by decide) (by decide), st (K9 - 1 - 1 - 1) (0 + 1 + 1 + 1) _ (by omega) (by decide) (by decide), st (K9 - 1 - 1 - 1 - 1) (0 + 1 + 1 + 1 + 1) _ (by omega) (by decide) (by decide), st (K9 - 1 - 1 - 1 - 1 - 1) (0 + 1 + 1 + 1 + 1 + 1) _ (by omega) (by decide) (by decide), lpc_pos (by omega)]
  show bX10_block_40 σ _ (0 + 1 + 1 + 1 + 1 + 1 + 1) _ = _
  unfold bX10_block_40
  exact if_pos (by decide)
theorem r_clear {σ : gS} (hI : JC σ) : Ok (fX8_clear_24 σ) (fun τ => JC τ ∧ Fr fr_fX8_clear_24 σ τ ∧ (∀ i : Nat, i < 6 → τ.1 25 i = 0) ∧ (∀ i : Nat, i < 20 → τ.1 38 i = 0) ∧ (∀ i : Nat, i < 12 → τ.1 42 i = 0)) := by
  unfold fX8_clear_24
  refine ok_bd.mpr ((o_fill (c := 25) (v := 0) hI (by decide) (fun i => ?_)).mono (fun τ1 h1 => ?_))
  · match i with
    | 0 => exact ⟨by decide, by decide⟩
    | 1 => exact ⟨by decide, by decide⟩
    | 2 => exact ⟨by decide, by decide⟩
    | 3 => exact ⟨by decide, by decide⟩
    | 4 => exact ⟨by decide, by decide⟩
    | 5 => exact ⟨by decide, by decide⟩
    | i + 6 => exact ⟨show (-2147483648 : Int) ≤ (0 : Int32).toInt by decide, show (0 : Int32).toInt ≤ 2147483647 by decide⟩
  refine ok_bd.mpr ((o_fill (c := 38) (v := 0) h1.1 (by decide) (fun i => ⟨show (-2147483648 : Int) ≤ (0 : Int32).toInt by decide, show (0 : Int32).toInt ≤ 2147483647 by decide⟩)).mono (fun τ2 h2 => ?_))
  refine ok_bd.mpr ((o_fill (c := 42) (v := 0) h2.1 (by decide) (fun i => ⟨show (-2147483648 : Int) ≤ (0 : Int32).toInt by decide, show (0 : Int32).toInt ≤ 2147483647 by decide⟩)).mono (fun τ3 h3 => ok_some.mpr ?_))
  refine ⟨h3.1, Fr_c (Fr_c (Fr_c Fr_r h1.2.1 (by decide)) h2.2.1 (by decide)) h3.2.1 (by decide), fun i hi => ?_, fun i hi => ?_, fun i hi => h3.2.2 i hi⟩
  · rw [Fr_row h3.2.1 25 (by decide), Fr_row h2.2.1 25 (by decide)]
    exact h1.2.2 i hi
  · rw [Fr_row h3.2.1 38 (by decide)]
    exact h2.2.2 i hi
/-- what comes of block -/

noncomputable def STd (a b : Int32 × gS) : Prop := ∃ (ρ ω : gS) (x r : Int32), fX6_begin ρ = some (x, a.2) ∧ fX10_starts ω = some (r, b.2) ∧ JM ω ∧ TRd ρ ω ∧ ρ.1 47 1 = 3 ∧ ω.1 0 36 = 3 ∧ (∀ i : Nat, i < 60 → ρ.1 58 i = 0 ∧ ω.1 26 i = 0) ∧ ∀ r : Nat, (r : Int) < (ω.1 15 9).toInt → ρ.1 13 r = ω.1 24 (120 + 2 * r) ∧ ρ.1 14 r = ω.1 24 (120 + (2 * r + 1)) ∧ (0 ≤ (ω.1 24 (120 + 2 * r)).toInt ∧ (ω.1 24 (120 + 2 * r)).toInt ≤ 9999) ∧ (0 ≤ (ω.1 24 (120 + (2 * r + 1))).toInt ∧ (ω.1 24 (120 + (2 * r + 1))).toInt ≤ 9999)
noncomputable def BLK (σM : gS) (a b : Int32 × gS) : Prop := a.1 = b.1 ∧ TRd a.2 b.2 ∧ b.2.1 0 1 = 0 ∧ b.2.1 0 7 = a.2.1 0 15 ∧ b.2.1 0 8 = a.2.1 0 16 ∧ ((a.1 = -1 ∧ UP σM b.2) ∨ (¬ a.1 = -1 ∧ STd a b))
set_option maxHeartbeats 1000000 in
theorem p_block {σC σM : gS} (hC : JC σC) (hM : JM σM) (hW : WM σM) (hT : σM.1 1 = σC.1 1) (ht : σM.1 0 1 = σC.1 0 1) (hR : TRd σC σM) : Re (fX9_block σC) (fX10_block σM) (BLK σM) := by
  have t0 : 0 ≤ (σC.1 0 1).toInt ∧ (σC.1 0 1).toInt ≤ 1600 := hC 0 1
  have e16 : (if (1600 : Int32) < σC.1 0 1 then 1600 else σC.1 0 1) = σC.1 0 1 := if_neg (fun z => by
    have := Int32.lt_iff_toInt_lt.mp z
    have l : (1600 : Int32).toInt = 1600 := by decide
    omega)
  unfold fX9_block
  refine re_k ?_
  unfold fX3_read fX10_block
  rw [e16]
  -- the class's first steps
  obtain ⟨s5, hs5⟩ : ∃ s, s = gsI (gsI (gsI (gsI (gsI σC 46 4 (σC.1 0 1)) 46 5 0) 46 8 (-1)) 46 2 0) 46 3 (-1) := ⟨_, rfl⟩
  have j5 : JC s5 := by
    rw [hs5]
    exact JC_w (JC_w (JC_w (JC_w (JC_w hC (show 0 ≤ _ from t0.1) (show _ ≤ 1600 from t0.2)) (show (0 : Int) ≤ (0 : Int32).toInt by decide) (show (0 : Int32).toInt ≤ (1600 : Int) by decide)) (Int32.le_toInt _) (Int32.toInt_le _)) (Int32.le_toInt _) (Int32.toInt_le _)) (Int32.le_toInt _) (Int32.toInt_le _)
  obtain ⟨s7, e7, j7, f7, z25, z38, z42⟩ := r_clear j5
  obtain ⟨s10, e10, hk⟩ := r_skip j7
  have hk' := hk
  obtain ⟨j10, f10, w10⟩ := hk'
  rw [nm_eq, nm_eq, nm_eq, nm_eq, nm_eq, nm_eq, nm_eq, nm_eq, nm_eq, nm_eq, nm_eq, nm_eq, nm_eq]
  rw [← hs5]
  refine re_el e7 ?_
  rw [nm_eq]
  refine re_el e10 ?_
  -- the reference's
  obtain ⟨t7, ht7⟩ : ∃ t, t = gsI (gsI (gsI (gsI (gsI (gsI (gsI σM 0 3 (σM.1 0 1)) 0 1 0) 0 2 0) 0 4 (-1)) 0 5 0) 0 6 (-1)) 0 34 0 := ⟨_, rfl⟩
  have ht7' : gsI (gsI (gsI (gsI (gsI (gsI (gsI σM 0 3 (σM.1 0 1)) 0 1 0) 0 2 0) 0 4 (-1)) 0 5 0) 0 6 (-1)) 0 34 0 = t7 := ht7.symm
  have k7 : JM t7 := by
    rw [ht7]
    have h01 : 0 ≤ (σM.1 0 1).toInt ∧ (σM.1 0 1).toInt ≤ 1600 := hM 0 1
    exact JM_w (JM_w (JM_w (JM_w (JM_w (JM_w (JM_w hM (show 0 ≤ _ from h01.1) (show _ ≤ 1600 from h01.2)) (show (0 : Int) ≤ (0 : Int32).toInt by decide) (show (0 : Int32).toInt ≤ (1600 : Int) by decide)) (show (0 : Int) ≤ (0 : Int32).toInt by decide) (show (0 : Int32).toInt ≤ (1600 : Int) by decide)) (Int32.le_toInt _) (Int32.toInt_le _)) (Int32.le_toInt _) (Int32.toInt_le _)) (Int32.le_toInt _) (Int32.toInt_le _)) (show (0 : Int) ≤ (0 : Int32).toInt by decide) (show (0 : Int32).toInt ≤ (120 : Int) by decide)
  show Re _ (lpc (S := Int32 × gS) K9 (fun rec s => bX10_block_40 (gsI (gsI (gsI (gsI (gsI (gsI (gsI σM 0 3 (σM.1 0 1)) 0 1 0) 0 2 0) 0 4 (-1)) 0 5 0) 0 6 (-1)) 0 34 0) (fun a1 σ1 => rec (a1, σ1)) s.1 s.2) (0, gsI (gsI (gsI (gsI (gsI (gsI (gsI σM 0 3 (σM.1 0 1)) 0 1 0) 0 2 0) 0 4 (-1)) 0 5 0) 0 6 (-1)) 0 34 0)) _
  rw [ht7', r_zero]
  obtain ⟨t8, ht8⟩ : ∃ t, t = zM6 t7 := ⟨_, rfl⟩
  rw [← ht8]
  have k8 : JM t8 := by
    rw [ht8]
    unfold zM6
    exact JM_w (JM_w (JM_w (JM_w (JM_w (JM_w k7 (by decide) (by decide)) (by decide) (by decide)) (by decide) (by decide)) (by decide) (by decide)) (by decide) (by decide)) (by decide) (by decide)
  have t0r : t8.1 0 = t7.1 0 := by
    rw [ht8]; unfold zM6
    rw [gsI_row (by decide), gsI_row (by decide), gsI_row (by decide), gsI_row (by decide), gsI_row (by decide), gsI_row (by decide)]
  have t15 : ∀ k : Nat, k < 6 → t8.1 15 k = 0 := fun k hk => by
    rw [ht8]; unfold zM6
    have hj : k = 0 ∨ k = 1 ∨ k = 2 ∨ k = 3 ∨ k = 4 ∨ k = 5 := by omega
    rcases hj with rfl | rfl | rfl | rfl | rfl | rfl <;> rfl
  have tr : ∀ j, j ≠ 0 → j ≠ 15 → t8.1 j = σM.1 j := fun j h1 h2 => by
    rw [ht8]; unfold zM6
    rw [gsI_row h2, gsI_row h2, gsI_row h2, gsI_row h2, gsI_row h2, gsI_row h2, ht7, gsI_row h1, gsI_row h1, gsI_row h1, gsI_row h1, gsI_row h1, gsI_row h1, gsI_row h1]
  have U8 : UP σM t8 := by
    rw [ht8, ht7]
    unfold zM6
    exact UP_w (UP_w (UP_w (UP_w (UP_w (UP_w (UP_w (UP_w (UP_w (UP_w (UP_w (UP_w (UP_w UP_r (.inr (by decide))) (.inr (by decide))) (.inr (by decide))) (.inr (by decide))) (.inr (by decide))) (.inr (by decide))) (.inr (by decide))) (.inl (by decide))) (.inl (by decide))) (.inl (by decide))) (.inl (by decide))) (.inl (by decide))) (.inl (by decide))
  have c01 : t8.1 0 1 = 0 := by rw [t0r, ht7]; rfl
  have c02 : t8.1 0 2 = 0 := by rw [t0r, ht7]; rfl
  have c03 : t8.1 0 3 = σM.1 0 1 := by rw [t0r, ht7]; rfl
  have c04 : t8.1 0 4 = -1 := by rw [t0r, ht7]; rfl
  have c05 : t8.1 0 5 = 0 := by rw [t0r, ht7]; rfl
  have c06 : t8.1 0 6 = -1 := by rw [t0r, ht7]; rfl
  have c34 : t8.1 0 34 = 0 := by rw [t0r, ht7]; rfl
  have r5 : ∀ j, j ≠ 46 → s5.1 j = σC.1 j := fun j h => by rw [hs5, gsI_row h, gsI_row h, gsI_row h, gsI_row h, gsI_row h]
  have r7 : ∀ j, j ≠ 25 → j ≠ 38 → j ≠ 42 → s7.1 j = s5.1 j := fun j h1 h2 h3 => Fr_row f7 j (fun q hq => by simp [fr_fX8_clear_24] at hq; rcases hq with rfl | rfl | rfl <;> dsimp only <;> omega)
  have r10 : ∀ j, j ≠ 46 → s10.1 j = s7.1 j := fun j h => Fr_row f10 j (fun q hq => by simp [fr_fX3_skipBlanks] at hq; rw [hq]; exact fun z => h z.symm)
  have a1 : s10.1 1 = σC.1 1 := by rw [r10 1 (by decide), r7 1 (by decide) (by decide) (by decide), r5 1 (by decide)]
  have q46 : s7.1 46 = s5.1 46 := r7 46 (by decide) (by decide) (by decide)
  have u : ∀ i, i ≠ 5 → s10.1 46 i = s5.1 46 i := fun i hi => by rw [(f10 46 i (by decide) (by simp [fr_fX3_skipBlanks]; exact hi)).1, q46]
  have b4 : s10.1 46 4 = σC.1 0 1 := by rw [u 4 (by decide), hs5]; rfl
  have b8 : s10.1 46 8 = -1 := by rw [u 8 (by decide), hs5]; rfl
  have b2 : s10.1 46 2 = 0 := by rw [u 2 (by decide), hs5]; rfl
  have b3 : s10.1 46 3 = -1 := by rw [u 3 (by decide), hs5]; rfl
  have b5 : s7.1 46 5 = 0 := by rw [q46, hs5]; rfl
  have b4' : s7.1 46 4 = σC.1 0 1 := by rw [q46, hs5]; rfl
  have a1' : s7.1 1 = σC.1 1 := by rw [r7 1 (by decide) (by decide) (by decide), r5 1 (by decide)]
  rw [a1', b4', b5] at w10
  have lm1 : (-1 : Int32).toInt = -1 := by decide
  have at0 : 0 ≤ (s10.1 46 5).toInt := (jc_tape j10).2.1.1
  have hP : PSt s10 t8 := ⟨j10, k8, by rw [tr 1 (by decide) (by decide), a1, hT], by rw [c03, b4, ht], by rw [c04, b8], ⟨(s10.1 46 5).toInt, by rw [a1, b4]; exact Wh_idem w10, by rw [a1, b4, c02]; exact w10⟩, by rw [b8]; omega, c05, fun q hq i hi => by
    rw [tr q.1 (by simp at hq; rcases hq with rfl | rfl | rfl | rfl | rfl | rfl | rfl | rfl | rfl | rfl | rfl | rfl <;> decide) (by simp at hq; rcases hq with rfl | rfl | rfl | rfl | rfl | rfl | rfl | rfl | rfl | rfl | rfl | rfl <;> decide)]
    exact hW q hq i hi, b2, b3, c06⟩
  have z0' := z0
  have hD : DS s10 t8 := by
    refine ⟨fun k hk => by rw [t15 k hk, r10 25 (by decide), z25 k hk], by rw [t15 4 (by decide)]; decide, fun K hK => ⟨by rw [t15 K (by omega), r10 25 (by decide), z25 K (by omega)], fun i hi => ?_⟩, fun p hp => ?_, fun p hp => ?_, fun p hp => ?_, fun p _ hp => by rw [r10 42 (by decide), z42 p hp], fun p _ hp => by rw [r10 38 (by decide), z38 p hp]⟩
    · rw [t15 K (by omega)] at hi; omega
    · rw [t15 1 (by decide)] at hp; omega
    · rw [t15 2 (by decide)] at hp; omega
    · rw [t15 3 (by decide)] at hp; omega
  have hc0 : ∀ k, k < 25 → s10.1 k = σC.1 k := fun k hk => by rw [r10 k (by omega), r7 k (by omega) (by omega) (by omega), r5 k (by omega)]
  refine p_loop (sC := σC) (sM := t8) ?_ ?_ 121 K9 K9 0 s10 t8 (by decide) (by decide) (by decide) hP hD UP_r rfl hc0 c34 (by decide) (by decide) (by rw [a1, b4]; exact w10.2.2.1) (by rw [b8]; omega)
  · -- a text
    intro m τC τM hQ hE hU h1 hc hm h0 h120
    refine re_so ?_
    unfold jX10_block_81
    obtain ⟨κ, hκ⟩ : ∃ κ, κ = gsI (gsI τM 0 7 (τM.1 0 5)) 0 8 ((gsI τM 0 7 (τM.1 0 5)).1 0 6) := ⟨_, rfl⟩
    refine ok_nm.mpr (ok_nm.mpr ?_)
    rw [← hκ]
    have jκ : JM κ := by rw [hκ]; exact JM_w (JM_w hQ.2.1 (Int32.le_toInt _) (Int32.toInt_le _)) (Int32.le_toInt _) (Int32.toInt_le _)
    have κb : κ.1 0 5 = 0 := by rw [hκ]; exact hQ.2.2.2.2.2.2.2.1
    have κ7 : κ.1 0 7 = 0 := by rw [hκ]; exact hQ.2.2.2.2.2.2.2.1
    have κ8 : κ.1 0 8 = -1 := by rw [hκ]; exact hQ.2.2.2.2.2.2.2.2.2.2.2
    have κ1 : κ.1 0 1 = 0 := by rw [hκ]; exact h1.trans c01
    have κ34 : κ.1 0 34 = m := by rw [hκ]; exact hm
    refine ok_ite.mpr ⟨fun _ => ok_bd.mpr (((r_stands2 jκ).and ((r_stands jκ).and (o_fX10_stands jκ))).mono (fun ω hω => ok_some.mpr ?_)), fun z => absurd κb z⟩
    obtain ⟨⟨ω0, r0, hS0, z26, z36, eS0⟩, hST, -, fS⟩ := hω
    have g : ∀ i, i ≠ 36 → ω.1 0 i = κ.1 0 i := fun i hi => (fS 0 i (by decide) (by simp [fr_fX10_stands]; exact hi)).1
    dsimp only
    refine ok_nm.mpr (ok_nm.mpr (ok_nm.mpr (ok_nm.mpr ?_)))
    obtain ⟨ζ, hζ⟩ : ∃ ζ, ζ = gsI (gsI (gsI τC 0 1 0) 0 15 ((gsI τC 0 1 0).1 46 2)) 0 16 ((gsI (gsI τC 0 1 0) 0 15 ((gsI τC 0 1 0).1 46 2)).1 46 3) := ⟨_, rfl⟩
    rw [← hζ]
    have jζ : JC ζ := by rw [hζ]; exact JC_w (JC_w (JC_w hQ.1 (show (0 : Int) ≤ (0 : Int32).toInt by decide) (show (0 : Int32).toInt ≤ (1600 : Int) by decide)) (Int32.le_toInt _) (Int32.toInt_le _)) (Int32.le_toInt _) (Int32.toInt_le _)
    have ζr : ∀ j, j ≠ 0 → ζ.1 j = τC.1 j := fun j h => by rw [hζ, gsI_row h, gsI_row h, gsI_row h]
    have ζ15 : ζ.1 0 15 = 0 := by rw [hζ]; exact hQ.2.2.2.2.2.2.2.2.2.1
    have ζ16 : ζ.1 0 16 = -1 := by rw [hζ]; exact hQ.2.2.2.2.2.2.2.2.2.2.1
    have Dζ : DS ζ κ := DS_eq hE (fun k h2 h3 => ζr k (by omega)) (fun k h2 h3 => by rw [hκ, gsI_row (by omega), gsI_row (by omega)]) (by rw [hκ]; rfl)
    refine ok_ite.mpr ⟨fun z => ?_, fun _ => ok_bd.mpr ((r_takeFrom jζ).mono (fun ρ hρ => ok_nm.mpr ?_))⟩
    · have : (κ.1 0 34).toInt = -1 := by rw [κ34, z]; decide
      rw [κ34] at this
      omega
    have jρ : JC (gsI ρ 47 1 3) := JC_w hρ.1 (Int32.le_toInt _) (Int32.toInt_le _)
    refine ok_bd.mpr ((o_fill (c := 58) (v := 0) jρ (by decide) (fun i => ⟨show (-2147483648 : Int) ≤ (0 : Int32).toInt by decide, show (0 : Int32).toInt ≤ 2147483647 by decide⟩)).mono (fun ρ2 h2 => ok_bd2.mpr (((o_fX6_begin h2.1).and (show Ok (fX6_begin ρ2) (fun o => fX6_begin ρ2 = some o) from (o_fX6_begin h2.1).elim (fun o h => ⟨o, h.1, h.1⟩))).mono (fun o3 h3 => ok_some.mpr ?_))))
    obtain ⟨x3, ρ3⟩ := o3
    obtain ⟨h3, eB⟩ := h3
    dsimp only at h3 ⊢
    have e0 : ∀ i, ρ3.1 0 i = ζ.1 0 i := fun i => by
      rw [Fr_row h3.2 0 (by decide), Fr_row h2.2.1 0 (by decide), gsI_row (by decide), Fr_row hρ.2.1 0 (by decide)]
    refine ⟨?_, TR_of jκ Dζ hρ (fun k hk => ?_) hST, ?_, ?_, ?_, .inr ⟨fun z => ?_, ρ2, ω0, x3, r0, eB, eS0, hS0.1, TR_of jκ Dζ hρ (fun k hk => ?_) hS0, ?_, z36, fun i hi => ⟨h2.2.2 i hi, z26 i hi⟩, fun r hr => ?_⟩⟩
    · show m = ω.1 0 34
      rw [g 34 (by decide), κ34]
    · rw [Fr_row h3.2 k (fun q hq => by simp [fr_fX6_begin] at hq; simp at hk; rcases hq with rfl | rfl | rfl | rfl | rfl | rfl | rfl | rfl | rfl | rfl | rfl | rfl <;> dsimp only <;> omega), Fr_row h2.2.1 k (fun q hq => by simp at hq; simp at hk; rw [hq]; dsimp only; omega), gsI_row (by simp at hk; omega)]
    · show ω.1 0 1 = 0
      rw [g 1 (by decide), κ1]
    · show ω.1 0 7 = ρ3.1 0 15
      rw [g 7 (by decide), κ7, e0, ζ15]
    · show ω.1 0 8 = ρ3.1 0 16
      rw [g 8 (by decide), κ8, e0, ζ16]
    · have : (κ.1 0 34).toInt = -1 := by rw [κ34]; exact (congrArg Int32.toInt z).trans (by decide)
      rw [κ34] at this
      omega
    · rw [Fr_row h2.2.1 k (fun q hq => by simp at hq; simp at hk; rw [hq]; dsimp only; omega), gsI_row (by simp at hk; omega)]
    · rw [Fr_row h2.2.1 47 (by decide), gsI_at, if_pos rfl]
    · obtain ⟨-, -, cc⟩ := hρ
      obtain ⟨-, s15, -, -, -, -, -, -, -, -, -, -, s24⟩ := hS0
      have n9 : ω0.1 15 9 = κ.1 15 3 := s15 3 (by decide)
      rw [n9] at hr
      have b := jm_many jκ
      have D := Dζ.2.2.2.2.2.1 r hr
      rw [Fr_row h2.2.1 13 (by decide), gsI_row (by decide), Fr_row h2.2.1 14 (by decide), gsI_row (by decide), s24 (2 * r) (by omega), s24 (2 * r + 1) (by omega)]
      exact ⟨(cc (35, 13) (by decide) r (by show r < 60; omega)).trans D.2.2.2.2.1, (cc (36, 14) (by decide) r (by show r < 60; omega)).trans D.2.2.2.2.2.1, D.2.2.2.2.2.2.2.1, D.2.2.2.2.2.2.2.2.1⟩
  · -- a fault
    intro τC τM hQ hU h1 hc
    obtain ⟨f1, f2, f3, f4⟩ := hQ
    refine re_so ?_
    unfold jX10_block_81
    refine ok_nm.mpr (ok_nm.mpr (ok_ite.mpr ⟨fun z => absurd z f2, fun _ => ok_some.mpr ?_⟩))
    dsimp only
    refine ok_nm.mpr (ok_nm.mpr (ok_nm.mpr (ok_nm.mpr (ok_ite.mpr ⟨fun _ => ok_some.mpr ⟨rfl, ?_, ?_, ?_, ?_, .inl ⟨rfl, UP_w (UP_w (UP_t U8 hU) (.inr (by decide))) (.inr (by decide))⟩⟩, fun z => absurd rfl z⟩))))
    · refine TR_eq hR (fun k hk => ?_) (UP_w (UP_w (UP_t U8 hU) (.inr (by decide))) (.inr (by decide)))
      show (gsI (gsI (gsI τC 0 1 0) 0 15 _) 0 16 _).1 k = _
      rw [gsI_row (by simp at hk; omega), gsI_row (by simp at hk; omega), gsI_row (by simp at hk; omega)]
      exact hc k (by simp at hk; omega)
    · exact h1.trans c01
    · exact f3
    · exact f4
end PO
