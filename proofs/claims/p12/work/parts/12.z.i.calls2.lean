/-! THE GEOMETRY KEPT: clean; worst, blind, needs, row; parts, hang -/
section P12ZI
set_option maxHeartbeats 1000000 in
theorem a_22 {σC σM : gS} (h : IG σC σM) (x1 : Int64) : ∃ (oc : Int32 × gS) (om : Int32 × gS), fX9_clean σC x1 = some oc ∧ fX10_clean σM x1 = some om ∧ oc.1 = om.1 ∧ IG oc.2 om.2 := by
  obtain ⟨oc, om, eC, eM, hI⟩ := g_22 h.1 x1
  have G := gt_ig h
  obtain ⟨b9, b8, b7, b6⟩ := gt_n G
  have z0' := z0
  have l0 : (0 : Int64).toInt = 0 := by decide
  have eC' := eC
  have eM' := eM
  unfold fX9_clean at eC'
  unfold fX10_clean at eM'
  by_cases c : 0 ≤ x1
  · have c' := Int64.le_iff_toInt_le.mp c
    rw [if_pos c] at eC' eM'
    rw [nm_eq] at eM'
    -- what was dropped ahead
    obtain ⟨⟨x, t⟩, ⟨jM, t1, t2, t3⟩, et⟩ := lp_to (B := fun rec s => bX10_clean_10 σM x1 (fun a3 σ1 => rec (a3, σ1)) s.1 s.2) (I := fun (n : Nat) (u : Int32 × gS) => n = ((σM.1 15 9).toInt - u.1.toInt).toNat ∧ 0 ≤ u.1.toInt ∧ u.1.toInt ≤ (σM.1 15 9).toInt ∧ JM u.2 ∧ (∀ j, j ≠ 33 → u.2.1 j = σM.1 j) ∧ u.2.2 = σM.2 ∧ ∀ r : Nat, (r : Int) < u.1.toInt → u.2.1 33 r = σM.1 26 r) (P := fun u => JM u.2 ∧ (∀ j, j ≠ 33 → u.2.1 j = σM.1 j) ∧ u.2.2 = σM.2 ∧ ∀ r : Nat, (r : Int) < (σM.1 15 9).toInt → u.2.1 33 r = σM.1 26 r) (E := fun u => lpc (S := Int32 × Int32 × gS) K9 (fun rec s => bX10_clean_41 u.2 x1 (fun a3 a4 σ1 => rec (a3, a4, σ1)) s.1 s.2.1 s.2.2) (0, 1, u.2)) (fun n u hs => by
      obtain ⟨a, τ⟩ := u
      obtain ⟨hn, a0, a1, jI, h1, h2, h3⟩ := hs
      dsimp only at hn a0 a1 jI h1 h2 h3 ⊢
      by_cases hk : σM.1 15 9 ≤ a
      · have hk' := Int32.le_iff_toInt_le.mp hk
        refine .inl ⟨⟨jI, h1, h2, fun r hr => h3 r (by omega)⟩, fun rec => ?_⟩
        unfold bX10_clean_10
        rw [q_bd (m_rows τ), h1 15 (by decide), if_pos hk, nm_eq, nm_eq]
      · have hlt := q_gt hk
        have ei := i_inc (a := a) (c := 80) (by omega) (by omega) (by decide)
        have ga := gb_of (i := a) (n := 60) a0 (by omega)
        have v := (h.2.2.2.2.2.2.2.1 a.toInt.toNat (by omega)).2
        refine .inr ⟨((σM.1 15 9).toInt - (a + 1).toInt).toNat, (a + 1, gsI τ 33 a.toInt.toNat (σM.1 26 a.toInt.toNat)), by omega, ⟨rfl, by dsimp only; omega, by dsimp only; omega, JM_w jI (Int32.le_toInt _) (Int32.toInt_le _), fun j hj => (gsI_row hj).trans (h1 j hj), h2, fun r hr => ?_⟩, fun rec => ?_⟩
        · dsimp only at hr ⊢
          rw [gsI_at]
          by_cases z : r = a.toInt.toNat
          · rw [if_pos z, z]
          · rw [if_neg z]
            exact h3 r (by omega)
        · unfold bX10_clean_10
          rw [q_bd (m_rows τ), h1 15 (by decide), if_neg hk]
          simp only [nm_eq]
          rw [q_gd ga, q_gd ga, n_toInt, h1 26 (by decide), vpb v]) (σM.1 15 9).toInt.toNat K9 (0, σM) ⟨by dsimp only; omega, by dsimp only; omega, by dsimp only; omega, h.1.2.1, fun _ _ => rfl, rfl, fun r hr => absurd hr (by dsimp only; omega)⟩ (by unfold K9; omega)
    dsimp only at jM t1 t2 t3 et
    rw [et] at eM'
    -- the class's first steps
    unfold fX9_dropAbove at eC'
    obtain ⟨κ, eκ, f1, f2, f3⟩ := k_fill (σ := σC) (c := 199) (v := 0) (n := 60) (by decide) (by decide) (by decide)
    obtain ⟨κ', eκ', jκ, -⟩ := o_fill (σ := σC) (c := 199) (v := 0) h.1.1 (by decide) (fun i => ⟨show (-2147483648 : Int) ≤ (0 : Int32).toInt by decide, show (0 : Int32).toInt ≤ 2147483647 by decide⟩)
    rw [eκ] at eκ'
    cases eκ'
    have g1 : GT κ t := GT_row G (fun j hj => f1 j (by omega)) (fun j hj => t1 j (by omega)) t2 jκ jM
    have t15 : t.1 15 = σM.1 15 := t1 15 (by decide)
    have c1 : CL κ t := by
      refine ⟨g1, fun r hr => ?_, fun r hr => ?_⟩
      · rw [t15] at hr
        rw [f3 r (by omega), t3 r hr, t1 26 (by decide)]
        exact ⟨fun z => absurd z.symm one_ne, fun z => absurd z.2 z.1⟩
      · rw [t15] at hr
        rw [t3 r hr, t1 26 (by decide)]
        exact fun z => z
    obtain ⟨pc, pm, dC, dM, -, g2, F1, F2⟩ := settle_gt g1 (m := 50) (by decide) (by decide)
    have c2 : CL pc.2 pm.2 := CL_row c1 g2 (Fr_row F1 199 (by decide)) (Fr_row F2 15 (by decide)) (Fr_row F2 26 (by decide)) (Fr_row F2 33 (by decide))
    rw [q_bd eκ, q_bd2 dC, nm_eq] at eC'
    rw [lpc_pos (by unfold K9; omega)] at eM'
    have e41 : ∀ rec : Int32 × Int32 × gS → Option (Int32 × gS), bX10_clean_41 t x1 (fun a3 a4 σ1 => rec (a3, a4, σ1)) 0 1 t = RC9 x1 (fun a3 a4 σ1 => rec (a3, a4, σ1)) 0 pm.2 := fun rec => by
      unfold bX10_clean_41
      rw [if_neg one_ne, q_bd2 dM, nm_eq]
      rfl
    change bX10_clean_41 t x1 _ 0 1 t = some om at eM'
    rw [e41] at eM'
    obtain ⟨qc, qm, d1, d2, rc, d3, d4⟩ := above_2 (σx := pc.2) (tx := t) (L := x1) (by omega) 20 K9 (K9 - 1) 0 pc.2 pm.2 (by decide) (by unfold K9; omega) (by unfold K9; omega) (by decide) (by decide) c2
    rw [q_bd2 d1] at eC'
    change EC x1 qc.1 qc.2 = some oc at eC'
    rw [d3] at eC'
    rw [d2] at eM'
    cases eC'
    cases eM'
    exact ⟨_, _, eC, eM, d4.1, hI, d4.2.2.2.2⟩
  · rw [if_neg c] at eC' eM'
    cases eC'
    cases eM'
    exact ⟨_, _, eC, eM, rfl, h⟩
theorem e_20 {σC σM : gS} (h : IG σC σM) : ∃ (oc : Int32 × gS) (om : Int32 × gS), fX9_worst σC = some oc ∧ fX10_worst σM = some om ∧ IG oc.2 om.2 := by
  obtain ⟨oc, om, eC, eM, hI⟩ := g_20 h.1
  obtain ⟨pc, pm, dC, dM, -, nx, -⟩ := worst_2 (gt_ig h)
  have eC' := eC
  have eM' := eM
  unfold fX9_worst at eC'
  unfold fX10_worst at eM'
  rw [q_bd2 dC] at eC'
  rw [q_bd2 dM] at eM'
  cases eC'
  cases eM'
  exact ⟨_, _, eC, eM, hI, (GT_nx (gt_ig h) nx hI.1 hI.2.1).2.2.2⟩
theorem NX_ig {σC σM τ t : gS} (h : IG σC σM) (hI : IV τ t) (nx : NX σC σM τ t) : IG τ t := ⟨hI, (GT_nx (gt_ig h) nx hI.1 hI.2.1).2.2.2⟩
/-- row: what is told, dropped, missed, can show -/
theorem a_8 {σC σM : gS} (h : IG σC σM) (x1 x2 : Int32) : ∃ (oc : Int32 × gS) (om : Int32 × gS), fX9_row σC x1 x2 = some oc ∧ fX10_row σM x1 x2 = some om ∧ oc.1 = om.1 ∧ IG oc.2 om.2 := by
  obtain ⟨oc, om, eC, eM, hI⟩ := g_8 h.1 x1 x2
  have G := gt_ig h
  have wf := wf_gt G
  obtain ⟨b9, b8, b7, b6⟩ := gt_n G
  have en := (IV_n h.1).1
  have z0' := z0
  have eC' := eC
  have eM' := eM
  unfold fX9_row at eC'
  unfold fX10_row at eM'
  rcases ex_2 σC x1 (k := 3) (K := 3) (by decide) (by decide) with ⟨a, a1, a2⟩ | ⟨a, a1⟩ <;> rcases m_isRow2 h.1.2.1 x1 with ⟨b, b1, b2⟩ | ⟨b, b1⟩
  · have gr := gb_of (i := x1) (n := 60) a1 (by omega)
    have R := G.2.2.1.2.2.2.2 x1.toInt.toNat (by omega)
    have M := h.2.2.2.2.2.2.2.2 x1.toInt.toNat (by omega)
    have D := h.2.2.2.2.2.2.2.1 x1.toInt.toNat (by omega)
    obtain ⟨w1, w2, w3, r59⟩ := wf_row wf b1 b2
    have l2 : (2 : Int32).toInt = 2 := by decide
    have l120 : (120 : Int32).toInt = 120 := by decide
    have m2 : (2 * x1).toInt = 2 * x1.toInt := imulc (by decide) (by omega) (by omega)
    have m120 : (120 + 2 * x1).toInt = 120 + 2 * x1.toInt := by rw [iadd_toInt] <;> omega
    have j76 : ∀ v : Int32, 2 ≤ v.toInt → v.toInt ≤ 3 → jX10_row_76 σM x1 v = some (σM.1 24 (120 + (2 * x1.toInt.toNat + (v.toInt - 2).toNat)), σM) := fun v v0 v1 => by
      have y1 : (120 + 2 * x1 + v).toInt = 120 + 2 * x1.toInt + v.toInt := by rw [iadd_toInt] <;> omega
      have y2 : (120 + 2 * x1 + v - 2).toInt = 120 + 2 * x1.toInt + v.toInt - 2 := by rw [isub_toInt] <;> omega
      unfold jX10_row_76
      rw [q_gd (gb_of (by omega) (by omega)), nm_eq, show (120 + 2 * x1 + v - 2).toNatClampNeg = 120 + (2 * x1.toInt.toNat + (v.toInt - 2).toNat) by rw [n_toInt]; omega]
    have mi := fun (a : Int32) a0 a1 => mi_2 (r := x1) (a := a) ⟨h.1.2.1, G.2.2.1⟩ h.2 b1 b2 a0 a1
    rw [q_bd a, if_neg one_ne] at eC'
    rw [q_bd b, if_neg one_ne] at eM'
    by_cases c0 : x2 = 0
    · rw [if_pos c0, q_gd gr, nm_eq, n_toInt, R.1] at eC'
      rw [if_pos c0, q_bd w1] at eM'
      cases eC'; cases eM'
      exact ⟨_, _, eC, eM, rfl, h⟩
    rw [if_neg c0] at eC' eM'
    by_cases c1 : x2 = 1
    · rw [if_pos c1, q_gd gr, nm_eq, n_toInt, R.2.1] at eC'
      rw [if_pos c1, q_bd w2] at eM'
      cases eC'; cases eM'
      exact ⟨_, _, eC, eM, rfl, h⟩
    rw [if_neg c1] at eC' eM'
    by_cases c2 : x2 = 2
    · rw [if_pos c2, q_gd (by decide), q_gd gr, nm_eq, n_toInt, M.1] at eC'
      rw [if_pos c2, c2, j76 2 (by decide) (by decide)] at eM'
      cases eC'; cases eM'
      exact ⟨_, _, eC, eM, rfl, h⟩
    rw [if_neg c2] at eC' eM'
    by_cases c3 : x2 = 3
    · rw [if_pos c3, q_gd (by decide), q_gd gr, nm_eq, n_toInt, M.2.1] at eC'
      rw [if_pos c3, c3, j76 3 (by decide) (by decide)] at eM'
      cases eC'; cases eM'
      exact ⟨_, _, eC, eM, rfl, h⟩
    rw [if_neg c3] at eC' eM'
    by_cases c4 : x2 = 4
    · rw [if_pos c4, q_gd gr, nm_eq, n_toInt, R.2.2.2.2.1] at eC'
      rw [if_pos c4, q_bd w3] at eM'
      cases eC'; cases eM'
      exact ⟨_, _, eC, eM, rfl, h⟩
    rw [if_neg c4] at eC' eM'
    by_cases c5 : x2 = 5
    · rw [if_pos c5, q_gd gr, nm_eq, n_toInt, D.1] at eC'
      rw [if_pos c5, q_gd gr, nm_eq, n_toInt] at eM'
      rcases D.2 with z | z
      · rw [z, if_pos rfl] at eM'
        rw [z] at eC'
        cases eC'; cases eM'
        exact ⟨_, _, eC, eM, rfl, h⟩
      · rw [z, if_neg one_ne] at eM'
        rw [z] at eC'
        cases eC'; cases eM'
        exact ⟨_, _, eC, eM, rfl, h⟩
    rw [if_neg c5] at eC' eM'
    by_cases c6 : x2 = 6
    · rw [if_pos c6, q_bd (mi 0 (by decide) (by decide)).1] at eC'
      rw [if_pos c6, c6] at eM'
      unfold jX10_row_113 at eM'
      rw [show (6 : Int32) - 6 = 0 by decide, q_bd (mi 0 (by decide) (by decide)).2] at eM'
      cases eC'; cases eM'
      exact ⟨_, _, eC, eM, rfl, h⟩
    rw [if_neg c6] at eC' eM'
    by_cases c7 : x2 = 7
    · rw [if_pos c7, q_bd (mi 1 (by decide) (by decide)).1] at eC'
      rw [if_pos c7, c7] at eM'
      unfold jX10_row_113 at eM'
      rw [show (7 : Int32) - 6 = 1 by decide, q_bd (mi 1 (by decide) (by decide)).2] at eM'
      cases eC'; cases eM'
      exact ⟨_, _, eC, eM, rfl, h⟩
    rw [if_neg c7] at eC' eM'
    by_cases c8 : x2 = 8
    · obtain ⟨pc, pm, dC, dM, e1, e2, nx⟩ := canShow_nx G (r := x1) b1 b2
      rw [if_pos c8, q_bd2 dC] at eC'
      rw [if_pos c8, q_bd2 dM, ← e1] at eM'
      by_cases z : pc.1 = 0
      · rw [if_pos z] at eC' eM'
        cases eC'; cases eM'
        exact ⟨_, _, eC, eM, rfl, NX_ig h hI nx⟩
      · rw [if_neg z] at eC' eM'
        cases eC'; cases eM'
        exact ⟨_, _, eC, eM, rfl, NX_ig h hI nx⟩
    rw [if_neg c8] at eC' eM'
    cases eC'; cases eM'
    exact ⟨_, _, eC, eM, rfl, h⟩
  · rw [en] at a2; omega
  · rw [en] at a1; omega
  · rw [q_bd a, if_pos rfl] at eC'
    rw [q_bd b, if_pos rfl] at eM'
    cases eC'; cases eM'
    exact ⟨_, _, eC, eM, rfl, h⟩
theorem a_17 {σC σM : gS} (h : IG σC σM) : ∃ (oc : Int32 × gS) (om : Int32 × gS), fX9_blind σC = some oc ∧ fX10_blind σM = some om ∧ oc.1 = om.1 ∧ IG oc.2 om.2 := by
  have G := gt_ig h
  obtain ⟨b9, b8, b7, b6⟩ := gt_n G
  have z0' := z0
  have key : Re (fX9_blind σC) (fX10_blind σM) (fun oc om => oc.1 = om.1 ∧ NX σC σM oc.2 om.2) := by
    unfold fX9_blind fX10_blind
    rw [nm_eq, nm_eq, nm_eq, nm_eq]
    refine re_lpc (I := fun (n : Nat) (x : Int32 × Int32 × gS) (y : Int32 × Int32 × gS) => n = ((σM.1 15 9).toInt - y.2.1.toInt).toNat ∧ 0 ≤ y.2.1.toInt ∧ y.2.1.toInt ≤ (σM.1 15 9).toInt ∧ x.1 = y.1 ∧ x.2.1 = y.2.1 ∧ NX σC σM x.2.2 y.2.2 ∧ JC x.2.2 ∧ JM y.2.2) (fun f g n x y hs hrec => ?_) K9 K9 (σM.1 15 9).toInt.toNat (0, 0, σC) (0, 0, σM) ⟨by dsimp only; omega, by dsimp only; omega, by dsimp only; omega, rfl, rfl, NX_r, h.1.1, h.1.2.1⟩ (by unfold K9; omega) (by unfold K9; omega)
    obtain ⟨c, r', σ⟩ := x
    obtain ⟨c', r, s⟩ := y
    obtain ⟨hn, r0, r1, ec, er, nx, jC, jM⟩ := hs
    dsimp only at hn r0 r1 ec er nx jC jM ⊢
    subst ec er
    have hG := GT_nx G nx jC jM
    have s15 : s.1 15 = σM.1 15 := nx.2.2.1 15 (by decide)
    have e3 : σ.1 3 ((3 : Int32).toNatClampNeg) = σM.1 15 9 := by rw [← s15]; exact (tr_n hG.2.2.1).1
    unfold bX9_blind_4 bX10_blind_4
    simp only [nm_eq]
    rw [q_gd (by decide), e3, q_bd (m_rows s), s15]
    by_cases hk : σM.1 15 9 ≤ r'
    · rw [if_pos hk, if_pos hk]
      exact ⟨_, _, rfl, rfl, rfl, nx⟩
    have hlt := q_gt hk
    have ei := i_inc (a := r') (c := 60) (by omega) (by omega) (by decide)
    have gr := gb_of (i := r') (n := 60) r0 (by omega)
    have D := hG.2.2.2.2.2.2.2.2.2.1 r'.toInt.toNat (by rw [s15]; omega)
    have go : ∀ (c1 : Int32) (σ1 s1 : gS), NX σC σM σ1 s1 → JC σ1 → JM s1 → Re (f (c1, r' + 1, σ1)) (g (c1, r' + 1, s1)) (fun oc om => oc.1 = om.1 ∧ NX σC σM oc.2 om.2) := fun c1 σ1 s1 q1 q2 q3 => hrec ((σM.1 15 9).toInt - (r' + 1).toInt).toNat _ _ (by omega) ⟨rfl, by dsimp only; omega, by dsimp only; omega, rfl, rfl, q1, q2, q3⟩
    rw [if_neg hk, if_neg hk, q_bd (c_usesK σ r0 (by omega)), D.1, q_gd gr, n_toInt]
    by_cases u : s.1 26 r'.toInt.toNat = 0
    · obtain ⟨pc, pm, dC, dM, e1, -, nx2, jC2, jM2⟩ := canShow_gt hG (r := r') r0 (by rw [s15]; exact hlt)
      rw [if_pos u, if_neg one_ne, if_pos u, q_bd2 dC, q_bd2 dM, ← e1]
      by_cases z : pc.1 = 0
      · rw [if_pos z, if_pos z]
        exact go _ _ _ (NX_t nx nx2) jC2 jM2
      · rw [if_neg z, if_neg z]
        exact go _ _ _ (NX_t nx nx2) jC2 jM2
    · rw [if_neg u, if_pos rfl, if_neg u]
      exact go _ _ _ nx jC jM
  obtain ⟨oc, om, eC, eM, hI⟩ := g_17 h.1
  obtain ⟨pc, pm, dC, dM, e1, nx⟩ := key
  rw [eC] at dC
  rw [eM] at dM
  cases dC
  cases dM
  exact ⟨oc, om, eC, eM, e1, NX_ig h hI nx⟩
end P12ZI
