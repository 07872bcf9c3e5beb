/-! WHAT HANGS TOGETHER, 5: needs; parts, hang -/
section P12ZJ
noncomputable def NX2 (σ t τ u : gS) : Prop := (∀ j, j ≠ 138 → j ≠ 139 → τ.1 j = σ.1 j) ∧ τ.2 = σ.2 ∧ (∀ j, j ≠ 32 → u.1 j = t.1 j) ∧ u.2 = t.2
/-- all is joined, on both sides -/
theorem join_2 {σ s : gS} (h : GT σ s) (w : Int32) {t : gS} (e : ∀ k, k ≠ 26 → k ≠ 32 → t.1 k = s.1 k) (hu : ∀ r : Nat, (r : Int) < (s.1 15 9).toInt → (t.1 26 r = 0 ↔ uB s w r = true)) : ∃ τ u, fX2_joinAll σ w = some τ ∧ fX10_hangs t = some u ∧ NX2 σ t τ u ∧ (∀ k l, k < 32 → l < 32 → (τ.1 138 k = τ.1 138 l ↔ u.1 32 k = u.1 32 l)) ∧ ∀ k : Int32, 0 ≤ k.toInt → k.toInt ≤ 31 → ∃ v : Int32, fX2_isLoose τ k = some v ∧ fX10_isLoose u k = some v ∧ (v = 0 ∨ v = 1) := by
  have wf := wf_gt h
  obtain ⟨τ, eτ, N⟩ := k_joinAll h.2.2.1 wf (fun r hr => (h.2.2.2.2.2.2.2.2.2.1 r hr).1) w
  obtain ⟨u, eu, M1, M2, M3⟩ := m_hangs wf w e hu
  have N' := N
  obtain ⟨n1, n2, n3, n4⟩ := N'
  refine ⟨τ, u, eτ, eu, ⟨n1, n2, M1, M2⟩, fun k l hk hl => ?_, fun k k0 k1 => ?_⟩
  · rw [n3 k hk, n3 l hl, M3 k hk, M3 l hl]
    exact lab_eq wf w k l hk hl
  · exact loose_2 wf (fx_gt h) N ((M1 15 (by decide)).trans (e 15 (by decide) (by decide))) ((M1 20 (by decide)).trans (e 20 (by decide) (by decide))) (by rw [M1 0 (by decide), e 0 (by decide) (by decide)]) M3 k0 k1
theorem join_m1 {σ s : gS} (h : GT σ s) : ∃ τ u, fX2_joinAll σ (-1) = some τ ∧ fX10_hangs s = some u ∧ NX2 σ s τ u ∧ (∀ k l, k < 32 → l < 32 → (τ.1 138 k = τ.1 138 l ↔ u.1 32 k = u.1 32 l)) ∧ ∀ k : Int32, 0 ≤ k.toInt → k.toInt ≤ 31 → ∃ v : Int32, fX2_isLoose τ k = some v ∧ fX10_isLoose u k = some v ∧ (v = 0 ∨ v = 1) := by
  have b9 := (gt_n h).1
  exact join_2 h (-1) (fun _ _ _ => rfl) (fun r hr => ⟨fun z => decide_eq_true ⟨z, ofN_m1 (by omega)⟩, fun z => (of_decide_eq_true z).1⟩)
theorem cl_2 {σ s : gS} (h : GT σ s) (w : Int32) {t : gS} (e : ∀ k, k ≠ 26 → k ≠ 32 → t.1 k = s.1 k) (hu : ∀ r : Nat, (r : Int) < (s.1 15 9).toInt → (t.1 26 r = 0 ↔ uB s w r = true)) : Re (fX2_countLoose σ w) (fX10_looseMany t) (fun oc om => oc.1 = om.1 ∧ NX2 σ t oc.2 om.2) := by
  obtain ⟨b9, b8, b7, b6⟩ := gt_n h
  have z0' := z0
  obtain ⟨τ, u, eτ, eu, nx, -, L⟩ := join_2 h w e hu
  have e7 : τ.1 3 ((1 : Int32).toNatClampNeg) = s.1 15 7 := by rw [nx.1 3 (by decide) (by decide)]; exact (tr_n h.2.2.1).2.2.1
  have u15 : u.1 15 = s.1 15 := (nx.2.2.1 15 (by decide)).trans (e 15 (by decide) (by decide))
  unfold fX2_countLoose fX10_looseMany
  rw [q_bd eτ, q_bd eu, nm_eq, nm_eq, nm_eq, nm_eq]
  refine re_lpc (I := fun (n : Nat) (x y : Int32 × Int32) => n = ((s.1 15 7).toInt - y.2.toInt).toNat ∧ 0 ≤ y.2.toInt ∧ y.2.toInt ≤ (s.1 15 7).toInt ∧ x = y) (fun f g n x y hs hrec => ?_) K9 K9 (s.1 15 7).toInt.toNat (0, 0) (0, 0) ⟨by dsimp only; omega, by dsimp only; omega, by dsimp only; omega, rfl⟩ (by unfold K9; omega) (by unfold K9; omega)
  obtain ⟨c, p⟩ := y
  obtain ⟨hn, p0, p1, ex⟩ := hs
  subst ex
  dsimp only at hn p0 p1 ⊢
  unfold bX2_countLoose_9 bX10_looseMany_8
  simp only [nm_eq]
  rw [q_gd (by decide), e7, q_bd (m_pictures u), u15]
  by_cases hk : s.1 15 7 ≤ p
  · rw [if_pos hk, if_pos hk]
    exact ⟨_, _, rfl, rfl, rfl, nx⟩
  have hlt := q_gt hk
  have ei := i_inc (a := p) (c := 60) (by omega) (by omega) (by decide)
  obtain ⟨v, v1, v2, v3⟩ := L p p0 (by omega)
  have go : ∀ c1 : Int32, Re (f (c1, p + 1)) (g (c1, p + 1)) (fun oc om => oc.1 = om.1 ∧ NX2 σ t oc.2 om.2) := fun c1 => hrec ((s.1 15 7).toInt - (p + 1).toInt).toNat _ _ (by omega) ⟨rfl, by dsimp only; omega, by dsimp only; omega, rfl⟩
  rw [if_neg hk, if_neg hk, q_bd v1, q_bd v2]
  by_cases z : v = 0
  · rw [if_pos z, if_pos z]; exact go c
  · rw [if_neg z, if_neg z]; exact go (c + 1)
theorem a_18 {σC σM : gS} (h : IG σC σM) (x1 : Int32) : ∃ (oc : Int32 × gS) (om : Int32 × gS), fX9_needs σC x1 = some oc ∧ fX10_needs σM x1 = some om ∧ oc.1 = om.1 ∧ IG oc.2 om.2 := by
  obtain ⟨oc, om, eC, eM, hI⟩ := g_18 h.1 x1
  have G := gt_ig h
  obtain ⟨b9, b8, b7, b6⟩ := gt_n G
  have en := (IV_n h.1).1
  have eC' := eC
  have eM' := eM
  unfold fX9_needs at eC'
  unfold fX10_needs at eM'
  rcases ex_2 σC x1 (k := 3) (K := 3) (by decide) (by decide) with ⟨a, a1, a2⟩ | ⟨a, a1⟩ <;> rcases m_isRow2 h.1.2.1 x1 with ⟨b, b1, b2⟩ | ⟨b, b1⟩
  · have gr := gb_of (i := x1) (n := 60) a1 (by omega)
    have D := h.2.2.2.2.2.2.2.1 x1.toInt.toNat (by omega)
    obtain ⟨R, hR⟩ : ∃ R, R = x1.toInt.toNat := ⟨_, rfl⟩
    rw [q_bd a, if_neg one_ne, q_bd (c_usesK σC b1 (by omega)), D.1] at eC'
    rw [q_bd b, if_neg one_ne, q_gd gr, nm_eq, n_toInt] at eM'
    by_cases u : σM.1 26 x1.toInt.toNat = 0
    · -- the reference: as it is, then without
      obtain ⟨q1, q2, d1, d2, q3, q4⟩ := cl_2 (σ := σC) G (-1) (t := σM) (fun _ _ _ => rfl) (fun r hr => ⟨fun z => decide_eq_true ⟨z, ofN_m1 (by omega)⟩, fun z => (of_decide_eq_true z).1⟩)
      obtain ⟨t, ht⟩ : ∃ t, t = gsI q2.2 26 R 1 := ⟨_, rfl⟩
      have te : ∀ k, k ≠ 26 → k ≠ 32 → t.1 k = σM.1 k := fun k k1 k2 => by rw [ht, gsI_row k1]; exact q4.2.2.1 k k2
      have tu : ∀ r : Nat, (r : Int) < (σM.1 15 9).toInt → (t.1 26 r = 0 ↔ uB σM x1 r = true) := fun i hi => by
        unfold uB
        rw [ht, gsI_at, q4.2.2.1 26 (by decide)]
        by_cases z : i = R
        · rw [if_pos z]
          exact ⟨fun y => absurd y one_ne, fun y => absurd (by rw [z, hR]; exact i32_of b1) (of_decide_eq_true y).2⟩
        · rw [if_neg z]
          refine ⟨fun y => decide_eq_true ⟨y, fun x => z ?_⟩, fun y => (of_decide_eq_true y).1⟩
          rw [hR, ← x, iofNat_toInt (by omega)]
          omega
      obtain ⟨p1, p2, f1, f2, f3, f4⟩ := cl_2 (σ := σC) G x1 te tu
      rw [if_pos u, if_neg one_ne, q_bd2 f1] at eC'
      -- the class: with nothing left out, from there
      obtain ⟨jp, Fp⟩ : JC p1.2 ∧ True := by
        obtain ⟨o', e', j', -⟩ := o_fX2_countLoose G.1 (p1 := x1)
        rw [f1] at e'
        cases e'
        exact ⟨j', trivial⟩
      have G2 : GT p1.2 σM := GT_nx G ⟨f4.1, f4.2.1, fun _ _ => rfl, rfl⟩ jp G.2.1
      obtain ⟨r1, r2, d3, d4, d5, d6⟩ := cl_2 (σ := p1.2) G2 (-1) (t := σM) (fun _ _ _ => rfl) (fun r hr => ⟨fun z => decide_eq_true ⟨z, ofN_m1 (by omega)⟩, fun z => (of_decide_eq_true z).1⟩)
      rw [d2] at d4
      cases d4
      rw [q_bd2 d3] at eC'
      rw [if_pos u, q_bd2 d2, nm_eq, q_gd gr, nm_eq, nb1, ← hR, ← ht, q_bd2 f2, nm_eq, q_gd gr, nm_eq, nb0] at eM'
      cases eC'
      cases eM'
      refine ⟨_, _, eC, eM, ?_, NX_ig h hI ⟨fun j j1 j2 => (d6.1 j j1 j2).trans (f4.1 j j1 j2), d6.2.1.trans f4.2.1, fun j hj => ?_, ?_⟩⟩
      · show p1.1 - r1.1 = p2.1 - q2.1
        rw [f3, d5]
      · show (gsI p2.2 26 R 0).1 j = σM.1 j
        by_cases z : j = 26
        · subst z
          funext i
          rw [gsI_at, f4.2.2.1 26 (by decide), ht, gsI_at, q4.2.2.1 26 (by decide)]
          by_cases y : i = R
          · rw [if_pos y, y, hR]; exact u.symm
          · rw [if_neg y, if_neg y]
        · rw [gsI_row z, f4.2.2.1 j hj]
          exact te j z hj
      · show p2.2.2 = σM.2
        rw [f4.2.2.2, ht]
        exact q4.2.2.2
    · rw [if_neg u, if_pos rfl] at eC'
      rw [if_neg u] at eM'
      cases eC'
      cases eM'
      exact ⟨_, _, eC, eM, rfl, h⟩
  · rw [en] at a2; omega
  · rw [en] at a1; omega
  · rw [q_bd a, if_pos rfl] at eC'
    rw [q_bd b, if_pos rfl] at eM'
    cases eC'; cases eM'
    exact ⟨_, _, eC, eM, rfl, h⟩
end P12ZJ
