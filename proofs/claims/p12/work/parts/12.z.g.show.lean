/-! WHAT HANGS TOGETHER, 4: can it show, alike; the worst -/
section P12ZG
noncomputable def NX (σ s τ t : gS) : Prop := (∀ j, j ≠ 138 → j ≠ 139 → τ.1 j = σ.1 j) ∧ τ.2 = σ.2 ∧ (∀ j, j ≠ 32 → t.1 j = s.1 j) ∧ t.2 = s.2
theorem NX_r {σ s : gS} : NX σ s σ s := ⟨fun _ _ _ => rfl, rfl, fun _ _ => rfl, rfl⟩
theorem NX_t {σ s τ t κ u : gS} (h : NX σ s τ t) (g : NX τ t κ u) : NX σ s κ u := ⟨fun j a b => (g.1 j a b).trans (h.1 j a b), g.2.1.trans h.2.1, fun j a => (g.2.2.1 j a).trans (h.2.2.1 j a), g.2.2.2.trans h.2.2.2⟩
theorem GT_nx {σ s τ t : gS} (h : GT σ s) (n : NX σ s τ t) (jC : JC τ) (jM : JM t) : GT τ t := by
  obtain ⟨-, -, T, g1, g2, g3, g4, g5, g6, g7, g8⟩ := h
  obtain ⟨n1, n2, n3, n4⟩ := n
  refine ⟨jC, jM, TR_k T (fun k hk => n1 k (by omega) (by omega)) (fun k k1 k2 => n3 k (by omega)) n4, ?_⟩
  unfold GE MSd
  rw [n1 47 (by decide) (by decide), n3 0 (by decide), n3 15 (by decide), n1 48 (by decide) (by decide), n3 27 (by decide), n3 28 (by decide), n1 58 (by decide) (by decide), n3 26 (by decide), n1 13 (by decide) (by decide), n1 14 (by decide) (by decide), n3 24 (by decide)]
  refine ⟨g1, g2, g3, fun a p ha hp => ?_, fun a p ha hp => ?_, fun a p ha hp => ?_, g7, g8⟩
  · rw [n1 _ (by omega) (by omega)]; exact g4 a p ha hp
  · rw [n1 _ (by omega) (by omega)]; exact g5 a p ha hp
  · rw [n1 _ (by omega) (by omega)]; exact g6 a p ha hp
set_option maxHeartbeats 1000000 in
theorem canShow_nx {σ s : gS} (h : GT σ s) {r : Int32} (r0 : 0 ≤ r.toInt) (r1 : r.toInt < (s.1 15 9).toInt) : Re (fX2_canShow σ r) (fX10_canShow s r) (fun oc om => oc.1 = om.1 ∧ (oc.1 = 0 ∨ (oc.1 = 1 ∧ s.1 26 r.toInt.toNat = 0)) ∧ NX σ s oc.2 om.2) := by
  have wf := wf_gt h
  obtain ⟨b9, b8, b7, b6⟩ := wf.1
  have fx := fx_gt h
  have l12 : (12 : Int32).toInt = 12 := by decide
  have dr : ∀ r : Nat, (r : Int) < (s.1 15 9).toInt → σ.1 58 r = s.1 26 r := fun r hr => (h.2.2.2.2.2.2.2.2.2.1 r hr).1
  have gr := gb_of (i := r) (n := 60) r0 (by omega)
  have R := h.2.2.1.2.2.2.2 r.toInt.toNat (by omega)
  have W := wf.2.1 r.toInt.toNat (by omega)
  unfold fX2_canShow fX10_canShow
  rw [q_bd (c_usesK σ r0 (by omega)), dr r.toInt.toNat (by omega), q_gd gr, nm_eq, n_toInt]
  by_cases u : s.1 26 r.toInt.toNat = 0
  · obtain ⟨τ, eτ, N⟩ := k_joinAll h.2.2.1 wf dr r
    have N' := N
    obtain ⟨n1, n2, n3, n4⟩ := N'
    obtain ⟨s3, hs3⟩ : ∃ s3, s3 = gsI s 26 r.toInt.toNat 1 := ⟨_, rfl⟩
    obtain ⟨t2, et, M1, M2, M3⟩ := m_hangs (s := s) (t := s3) wf r (fun k k1 k2 => by rw [hs3, gsI_row k1]) (fun i hi => by
      unfold uB
      rw [hs3, gsI_at]
      by_cases z : i = r.toInt.toNat
      · rw [if_pos z]
        exact ⟨fun y => absurd y one_ne, fun y => absurd (by rw [z]; exact i32_of r0) (of_decide_eq_true y).2⟩
      · rw [if_neg z]
        refine ⟨fun y => decide_eq_true ⟨y, fun x => z ?_⟩, fun y => (of_decide_eq_true y).1⟩
        rw [← x, iofNat_toInt (by omega)]
        omega)
    obtain ⟨s6, hs6⟩ : ∃ s6, s6 = gsI t2 26 r.toInt.toNat 0 := ⟨_, rfl⟩
    have f6 : ∀ j, j ≠ 32 → s6.1 j = s.1 j := fun j hj => by
      by_cases z : j = 26
      · subst z
        funext i
        rw [hs6, gsI_at, M1 26 (by decide), hs3, gsI_at]
        by_cases y : i = r.toInt.toNat
        · rw [if_pos y, y]; exact u.symm
        · rw [if_neg y, if_neg y]
      · rw [hs6, gsI_row z, M1 j hj, hs3, gsI_row z]
    have l6 : ∀ k, k < 32 → s6.1 32 k = lM s r (s.1 15 7).toInt.toNat k := fun k hk => by rw [hs6, gsI_row (by decide)]; exact M3 k hk
    have nx : NX σ s τ s6 := ⟨n1, n2, f6, by rw [hs6]; show t2.2 = s.2; rw [M2, hs3]; rfl⟩
    have w6 : WF s6 := by
      unfold WF
      rw [f6 15 (by decide), f6 22 (by decide), f6 23 (by decide), f6 25 (by decide), f6 16 (by decide), f6 18 (by decide), f6 27 (by decide)]
      exact wf
    obtain ⟨p1, p2, -, -⟩ := wf_row w6 r0 (by rw [f6 15 (by decide)]; exact r1)
    rw [f6 22 (by decide)] at p1
    rw [f6 23 (by decide)] at p2
    have y1 : (12 + s.1 23 (60 + r.toInt.toNat)).toInt = 12 + (s.1 23 (60 + r.toInt.toNat)).toInt := by rw [iadd_toInt] <;> omega
    have y2 : (12 + s.1 23 (60 + r.toInt.toNat)).toInt.toNat = 12 + qO s r.toInt.toNat := by unfold qO; omega
    have y3 : (s.1 22 (60 + r.toInt.toNat)).toInt.toNat = pO s r.toInt.toNat := rfl
    have eq := lab_eq wf r (pO s r.toInt.toNat) (12 + qO s r.toInt.toNat) (by unfold pO; omega) (by unfold qO; omega)
    have g1 := gb_of (i := s.1 22 (60 + r.toInt.toNat)) (n := 32) (by omega) (by omega)
    have g2 := gb_of (i := 12 + s.1 23 (60 + r.toInt.toNat)) (n := 32) (by omega) (by omega)
    have c1 : τ.1 138 (s.1 22 (60 + r.toInt.toNat)).toNatClampNeg = lC s r (s.1 15 7).toInt.toNat (pO s r.toInt.toNat) := n3 (pO s r.toInt.toNat) (by unfold pO; omega)
    have c2 : τ.1 138 (12 + s.1 23 (60 + r.toInt.toNat)).toNatClampNeg = lC s r (s.1 15 7).toInt.toNat (12 + qO s r.toInt.toNat) := by
      rw [n_toInt, y2]
      exact n3 _ (by unfold qO; omega)
    have c3 : s6.1 32 (s.1 22 (60 + r.toInt.toNat)).toNatClampNeg = lM s r (s.1 15 7).toInt.toNat (pO s r.toInt.toNat) := l6 (pO s r.toInt.toNat) (by unfold pO; omega)
    have c4 : s6.1 32 (12 + s.1 23 (60 + r.toInt.toNat)).toNatClampNeg = lM s r (s.1 15 7).toInt.toNat (12 + qO s r.toInt.toNat) := by
      rw [n_toInt, y2]
      exact l6 _ (by unfold qO; omega)
    rw [if_pos u, if_neg one_ne, q_bd eτ, if_pos u]
    rw [q_gd gr, nm_eq, nm_eq, n1 10 (by decide) (by decide), R.1, q_gd gr, nm_eq, nm_eq, n1 11 (by decide) (by decide), R.2.1, q_gd g1, nm_eq, q_gd g2, nm_eq, c1, c2]
    rw [q_gd gr, nm_eq, nb1, ← hs3, q_bd et, q_gd gr, nm_eq, nb0, ← hs6, q_bd p1, nm_eq, q_bd p2, nm_eq, q_gd g1, nm_eq, q_gd g2, nm_eq, c3, c4]
    by_cases z : lC s r (s.1 15 7).toInt.toNat (pO s r.toInt.toNat) = lC s r (s.1 15 7).toInt.toNat (12 + qO s r.toInt.toNat)
    · rw [if_pos z, if_pos (eq.mp z)]
      exact ⟨_, _, rfl, rfl, rfl, .inr ⟨rfl, u⟩, nx⟩
    · obtain ⟨v, v1, v2, v3⟩ := loose_2 wf fx N (f6 15 (by decide)) (f6 20 (by decide)) (by rw [f6 0 (by decide)]) l6 (k := s.1 22 (60 + r.toInt.toNat)) (by omega) (by omega)
      obtain ⟨x, x1, x2, x3⟩ := loose_2 wf fx N (f6 15 (by decide)) (f6 20 (by decide)) (by rw [f6 0 (by decide)]) l6 (k := 12 + s.1 23 (60 + r.toInt.toNat)) (by omega) (by omega)
      rw [if_neg z, if_neg (fun y => z (eq.mpr y)), q_bd v1, q_bd v2, q_bd x1, q_bd x2]
      by_cases a : v = 0
      · rw [if_pos a, if_pos a]
        by_cases b : x = 0
        · rw [if_pos b, if_pos b]
          exact ⟨_, _, rfl, rfl, rfl, .inr ⟨rfl, u⟩, nx⟩
        · rw [if_neg b, if_neg b]
          exact ⟨_, _, rfl, rfl, rfl, .inl rfl, nx⟩
      · rw [if_neg a, if_neg a]
        exact ⟨_, _, rfl, rfl, rfl, .inl rfl, nx⟩
  · rw [if_neg u, if_pos rfl, if_neg u]
    exact ⟨_, _, rfl, rfl, rfl, .inl rfl, NX_r⟩
theorem canShow_gt {σ s : gS} (h : GT σ s) {r : Int32} (r0 : 0 ≤ r.toInt) (r1 : r.toInt < (s.1 15 9).toInt) : Re (fX2_canShow σ r) (fX10_canShow s r) (fun oc om => oc.1 = om.1 ∧ (oc.1 = 0 ∨ (oc.1 = 1 ∧ s.1 26 r.toInt.toNat = 0)) ∧ NX σ s oc.2 om.2 ∧ JC oc.2 ∧ JM om.2) := by
  have b9 := (gt_n h).1
  obtain ⟨oc, om, eC, eM, e1, e2, e3⟩ := canShow_nx h r0 r1
  obtain ⟨pc, dC, jC, -⟩ := o_fX2_canShow h.1 (p1 := r) r0 (by omega)
  obtain ⟨pm, dM, jM, -⟩ := o_fX10_canShow h.2.1 (p1 := r) r0 (by omega)
  rw [eC] at dC
  rw [eM] at dM
  cases dC
  cases dM
  exact ⟨oc, om, eC, eM, e1, e2, e3, jC, jM⟩
theorem db_gt {σ s : gS} (h : GT σ s) {r : Int32} (r0 : 0 ≤ r.toInt) (r1 : r.toInt < (s.1 15 9).toInt) : fX5_doubtOf_47 σ r = some (dbO s r.toInt.toNat) ∧ fX10_doubtOf s r = some (dbO s r.toInt.toNat) := db_2 ⟨h.2.1, h.2.2.1⟩ h.2.2.2 r0 r1
theorem db_eq {s t : gS} (e : ∀ j, j ≠ 32 → t.1 j = s.1 j) (r : Nat) : dbO t r = dbO s r := by
  unfold dbO miO puO tO pO qO
  rw [e 22 (by decide), e 23 (by decide), e 24 (by decide), e 25 (by decide), e 27 (by decide), e 28 (by decide)]
/-- the worst, on both sides: alike, but where all that show have doubts gone round below 0 -/
noncomputable def WR (s : gS) (a b : Int32) : Prop := (a = -1 ∧ (b = -1 ∨ ((0 ≤ b.toInt ∧ b.toInt < (s.1 15 9).toInt) ∧ (dbO s b.toInt.toNat).toInt < 0))) ∨ (a = b ∧ (0 ≤ b.toInt ∧ b.toInt < (s.1 15 9).toInt) ∧ s.1 26 b.toInt.toNat = 0 ∧ 0 ≤ (dbO s b.toInt.toNat).toInt)
set_option maxHeartbeats 1000000 in
theorem worst_2 {σ s : gS} (h : GT σ s) : Re (fX9_findWorst σ) (fX10_worstNow s) (fun oc om => WR s oc.1 om.1 ∧ NX σ s oc.2 om.2 ∧ JC oc.2 ∧ JM om.2) := by
  obtain ⟨b9, b8, b7, b6⟩ := gt_n h
  have z0' := z0
  have lm : (-1 : Int32).toInt = -1 := by decide
  have lm64 : (-1 : Int64).toInt = -1 := by decide
  unfold fX9_findWorst fX10_worstNow
  rw [nm_eq, nm_eq, nm_eq, nm_eq, nm_eq]
  refine re_lpc (I := fun (n : Nat) (x : Int32 × Int64 × Int32 × gS) (y : Int32 × Int32 × gS) => n = ((s.1 15 9).toInt - y.2.1.toInt).toNat ∧ 0 ≤ y.2.1.toInt ∧ y.2.1.toInt ≤ (s.1 15 9).toInt ∧ x.2.2.1 = y.2.1 ∧ WR s x.1 y.1 ∧ ((x.1 = -1 ∧ x.2.1 = -1) ∨ (¬ x.1 = -1 ∧ x.2.1 = dbO s x.1.toInt.toNat)) ∧ NX σ s x.2.2.2 y.2.2 ∧ JC x.2.2.2 ∧ JM y.2.2) (fun f g n x y hs hrec => ?_) K9 K9 (s.1 15 9).toInt.toNat (-1, -1, 0, σ) (-1, 0, s) ⟨by dsimp only; omega, by dsimp only; omega, by dsimp only; omega, rfl, .inl ⟨rfl, .inl rfl⟩, .inl ⟨rfl, rfl⟩, NX_r, h.1, h.2.1⟩ (by unfold K9; omega) (by unfold K9; omega)
  obtain ⟨a, d, r', κ⟩ := x
  obtain ⟨b, r, t⟩ := y
  obtain ⟨hn, r0, r1, er, hW, hD, hN, jC, jM⟩ := hs
  dsimp only at hn r0 r1 er hW hD hN jC jM ⊢
  subst er
  have hG : GT κ t := GT_nx h hN jC jM
  have t15 : t.1 15 = s.1 15 := hN.2.2.1 15 (by decide)
  have e3 : κ.1 3 ((3 : Int32).toNatClampNeg) = s.1 15 9 := by rw [← t15]; exact (tr_n hG.2.2.1).1
  unfold bX9_findWorst_9 bX10_worstNow_4
  rw [q_gd (by decide), nm_eq, e3, q_bd (m_rows t), t15]
  by_cases hk : s.1 15 9 ≤ r'
  · rw [if_pos hk, if_pos hk]
    exact ⟨_, _, rfl, rfl, hW, hN, jC, jM⟩
  rw [if_neg hk, if_neg hk]
  have hlt := q_gt hk
  have ei := i_inc (a := r') (c := 60) (by omega) (by omega) (by decide)
  obtain ⟨oc, om, eC, eM, e1, e2, nx, jC2, jM2⟩ := canShow_gt hG (r := r') r0 (by rw [t15]; exact hlt)
  have hN2 : NX σ s oc.2 om.2 := NX_t hN nx
  have hN3 : NX σ s κ om.2 := NX_t hN ⟨fun _ _ _ => rfl, rfl, nx.2.2.1, nx.2.2.2⟩
  have hG2 : GT κ om.2 := GT_nx h hN3 jC jM2
  have D := db_gt hG (r := r') r0 (by rw [t15]; exact hlt)
  rw [db_eq hN.2.2.1] at D
  have o15 : om.2.1 15 = s.1 15 := hN2.2.2.1 15 (by decide)
  have D2 := (db_gt hG2 (r := r') r0 (by rw [o15]; exact hlt)).2
  rw [db_eq hN3.2.2.1] at D2
  have t26 : t.1 26 = s.1 26 := hN.2.2.1 26 (by decide)
  rw [t26] at e2
  have go : ∀ (a' b' : Int32) (d' : Int64) (κ' : gS), (κ' = κ ∨ κ' = oc.2) → WR s a' b' → ((a' = -1 ∧ d' = -1) ∨ (¬ a' = -1 ∧ d' = dbO s a'.toInt.toNat)) → Re (f (a', d', r' + 1, κ')) (g (b', r' + 1, om.2)) (fun oc om => WR s oc.1 om.1 ∧ NX σ s oc.2 om.2 ∧ JC oc.2 ∧ JM om.2) := fun a' b' d' κ' hκ' hW' hD' => by
    refine hrec ((s.1 15 9).toInt - (r' + 1).toInt).toNat _ _ (by omega) ⟨rfl, by dsimp only; omega, by dsimp only; omega, rfl, hW', hD', ?_, ?_, jM2⟩
    · rcases hκ' with rfl | rfl
      · exact hN3
      · exact hN2
    · rcases hκ' with rfl | rfl
      · exact jC
      · exact jC2
  rw [q_bd D.1, nm_eq, q_bd2 eM]
  -- where the reference stands
  have bne : ∀ x : Int32, 0 ≤ x.toInt → ¬ x = -1 := fun x hx z => by rw [z] at hx; omega
  by_cases c : dbO s r'.toInt.toNat ≤ d
  · have c' := Int64.le_iff_toInt_le.mp c
    rw [if_pos c, nm_eq]
    by_cases v : om.1 = 0
    · rw [if_pos v, nm_eq]
      exact go a b d κ (.inl rfl) hW hD
    rw [if_neg v]
    rcases hW with ⟨rfl, hb⟩ | ⟨rfl, hb, hu, hd⟩
    · have hd : d = -1 := by
        rcases hD with ⟨-, z⟩ | ⟨z, -⟩
        · exact z
        · exact absurd rfl z
      rw [hd, lm64] at c'
      have new : WR s (-1) r' := .inl ⟨rfl, .inr ⟨⟨r0, hlt⟩, by omega⟩⟩
      by_cases y : b = -1
      · rw [if_pos y, nm_eq, nm_eq]
        exact go (-1) r' d κ (.inl rfl) new (.inl ⟨rfl, hd⟩)
      · have hb' := hb.resolve_left y
        have D3 := (db_gt hG2 (r := b) hb'.1.1 (by rw [o15]; exact hb'.1.2)).2
        rw [db_eq hN3.2.2.1] at D3
        rw [if_neg y, q_bd D2, q_bd D3]
        by_cases x : dbO s r'.toInt.toNat ≤ dbO s b.toInt.toNat
        · rw [if_pos x, nm_eq]
          exact go (-1) b d κ (.inl rfl) (.inl ⟨rfl, .inr hb'⟩) (.inl ⟨rfl, hd⟩)
        · rw [if_neg x, nm_eq, nm_eq]
          exact go (-1) r' d κ (.inl rfl) new (.inl ⟨rfl, hd⟩)
    · have hd2 : d = dbO s a.toInt.toNat := by
        rcases hD with ⟨z, -⟩ | ⟨-, z⟩
        · exact absurd z (bne a hb.1)
        · exact z
      have D3 := (db_gt hG2 (r := a) hb.1 (by rw [o15]; exact hb.2)).2
      rw [db_eq hN3.2.2.1] at D3
      rw [if_neg (bne a hb.1), q_bd D2, q_bd D3, if_pos (by rw [← hd2]; exact c), nm_eq]
      exact go a a d κ (.inl rfl) (.inr ⟨rfl, hb, hu, hd⟩) (.inr ⟨bne a hb.1, hd2⟩)
  · have c' := q_lgt c
    rw [if_neg c, q_bd2 eC, ← e1]
    rcases e2 with v | ⟨v, hu'⟩
    · rw [if_pos v, if_pos v, nm_eq, nm_eq]
      exact go a b d oc.2 (.inr rfl) hW hD
    · have v' : ¬ oc.1 = 0 := by rw [v]; exact one_ne
      rw [if_neg v', if_neg v', nm_eq, nm_eq, nm_eq]
      have new : 0 ≤ (dbO s r'.toInt.toNat).toInt → WR s r' r' := fun y => .inr ⟨rfl, ⟨r0, hlt⟩, hu', y⟩
      have nd : (¬ r' = -1 ∧ dbO s r'.toInt.toNat = dbO s r'.toInt.toNat) := ⟨bne r' r0, rfl⟩
      rcases hW with ⟨rfl, hb⟩ | ⟨rfl, hb, hu, hd⟩
      · have hd : d = -1 := by
          rcases hD with ⟨-, z⟩ | ⟨z, -⟩
          · exact z
          · exact absurd rfl z
        rw [hd, lm64] at c'
        by_cases y : b = -1
        · rw [if_pos y, nm_eq, nm_eq]
          exact go r' r' _ oc.2 (.inr rfl) (new (by omega)) (.inr nd)
        · have hb' := hb.resolve_left y
          have D3 := (db_gt hG2 (r := b) hb'.1.1 (by rw [o15]; exact hb'.1.2)).2
          rw [db_eq hN3.2.2.1] at D3
          rw [if_neg y, q_bd D2, q_bd D3]
          have x : ¬ dbO s r'.toInt.toNat ≤ dbO s b.toInt.toNat := fun x => by
            have := Int64.le_iff_toInt_le.mp x
            omega
          rw [if_neg x, nm_eq, nm_eq]
          exact go r' r' _ oc.2 (.inr rfl) (new (by omega)) (.inr nd)
      · have hd2 : d = dbO s a.toInt.toNat := by
          rcases hD with ⟨z, -⟩ | ⟨-, z⟩
          · exact absurd z (bne a hb.1)
          · exact z
        have D3 := (db_gt hG2 (r := a) hb.1 (by rw [o15]; exact hb.2)).2
        rw [db_eq hN3.2.2.1] at D3
        rw [if_neg (bne a hb.1), q_bd D2, q_bd D3, if_neg (by rw [← hd2]; exact c), nm_eq, nm_eq]
        rw [hd2] at c'
        exact go r' r' _ oc.2 (.inr rfl) (new (by omega)) (.inr nd)
end P12ZG
