/-! TIES, 5: gap -/
section P12ZZB
theorem TA_t {s τ κ : gS} (v : TA s τ) (f : ∀ k, k ≠ 140 → κ.1 k = τ.1 k) : TA s κ := fun p1 p2 h1 h2 h3 => TT_t (v p1 p2 h1 h2 h3) (congrFun (f _ (by omega)) p2) (congrFun (f _ (by omega)) p2) (congrFun (f _ (by omega)) p2)
theorem ab_2 (s : gS) {x : Int32} (h0 : -6000000 ≤ x.toInt) (h1 : x.toInt ≤ 6000000) : ∃ y : Int64, fX10_apart s x.toInt64 0 = some y ∧ y.toInt = (if 0 ≤ x then x else 0 - x).toInt ∧ 0 ≤ y.toInt ∧ y.toInt ≤ 6000000 := by
  have l0 : (0 : Int64).toInt = 0 := by decide
  have z0' := z0
  have ex : x.toInt64.toInt = x.toInt := Int32.toInt_toInt64 x
  unfold fX10_apart
  by_cases z : x.toInt64 ≤ 0
  · have z' := Int64.le_iff_toInt_le.mp z
    rw [if_pos z]
    have e : (0 - x.toInt64).toInt = -x.toInt := by rw [lsub_toInt (by omega) (by omega)]; omega
    refine ⟨_, rfl, ?_, by omega, by omega⟩
    by_cases y : 0 ≤ x
    · have y' := Int32.le_iff_toInt_le.mp y
      rw [if_pos y, e]; omega
    · rw [if_neg y, e, isub_toInt] <;> omega
  · have z' : ¬ x.toInt64.toInt ≤ (0 : Int64).toInt := fun y => z (Int64.le_iff_toInt_le.mpr y)
    rw [if_neg z]
    have e : (x.toInt64 - 0).toInt = x.toInt := by rw [lsub_toInt (by omega) (by omega)]; omega
    refine ⟨_, rfl, ?_, by omega, by omega⟩
    rw [if_pos (show 0 ≤ x from Int32.le_iff_toInt_le.mpr (by omega)), e]
/-- the best loop so far, on both sides -/
noncomputable def GP (τ κ : gS) (w : Int32) (b : Int64) : Prop := (∀ k, k ≠ 140 → κ.1 k = τ.1 k) ∧ κ.1 140 11 = w ∧ (κ.1 140 12).toInt = b.toInt ∧ -1 ≤ b.toInt ∧ b.toInt ≤ 12000000
set_option maxHeartbeats 1000000 in
theorem gap_2 {σ s τ : gS} (h : GT σ s) (v : TA s τ) (e7 : τ.1 3 1 = s.1 15 7) {c : Int32} (hc : fX10_isIn s c.toInt64 0 1 = some 1) : Re (fX7_findGap τ) (fX10_gap s c) (fun κ o => o = if c = 0 then κ.1 140 11 else κ.1 140 12) := by
  obtain ⟨b9, b8, b7, b6⟩ := gt_n h
  have z0' := z0
  have l1 : (1 : Int32).toInt = 1 := by decide
  unfold fX7_findGap fX10_gap
  rw [q_bd hc, if_neg one_ne, nm_eq, nm_eq, nm_eq, nm_eq, nm_eq, q_gd (by decide), nm_eq, nm_eq, nm_eq, show (gsI (gsI τ 140 11 (-1)) 140 12 (-1)).1 3 ((1 : Int32).toNatClampNeg) = s.1 15 7 from (congrFun ((gsI_row (by decide)).trans (gsI_row (by decide))) _).trans e7]
  refine re_lpc (I := fun (n : Nat) (x : Int32 × gS) (y : Int32 × Int64 × Int32) => n = ((s.1 15 7).toInt - y.2.2.toInt).toNat ∧ 0 ≤ y.2.2.toInt ∧ y.2.2.toInt ≤ (s.1 15 7).toInt ∧ x.1 = y.2.2 ∧ GP τ x.2 y.1 y.2.1) (fun f g n x y hs hrec => ?_) K9 K9 (s.1 15 7).toInt.toNat (0, _) (-1, -1, 0) ⟨by dsimp only; omega, by dsimp only; omega, by dsimp only; omega, rfl, fun k hk => by rw [gsI_row hk, gsI_row hk], by rw [gsI_at, if_neg (by decide), gsI_at, if_pos rfl], by rw [gsI_at, if_pos rfl]; decide, by decide, by decide⟩ (by unfold K9; omega) (by unfold K9; omega)
  obtain ⟨p', κ⟩ := x
  obtain ⟨w, b, p⟩ := y
  obtain ⟨hn, p0, p1, ep, gp⟩ := hs
  dsimp only at hn p0 p1 ep gp ⊢
  subst ep
  unfold bX7_findGap_22 bX10_gap_21
  rw [q_bd (m_pictures s)]
  by_cases hk : s.1 15 7 ≤ p'
  · rw [if_pos hk, if_pos hk]
    by_cases z : c = 0
    · rw [if_pos z]
      exact ⟨_, _, rfl, rfl, by dsimp only; rw [if_pos z]; exact gp.2.1.symm⟩
    · rw [if_neg z]
      refine ⟨_, _, rfl, rfl, ?_⟩
      dsimp only
      rw [if_neg z]
      apply Int32.toInt_inj.mp
      rw [Int64.toInt_toInt32, gp.2.2.1]
      have := gp.2.2.2
      exact Int.bmod_eq_of_le (by omega) (by omega)
  have hlt := q_gt hk
  have ei := i_inc (a := p') (c := 60) (by omega) (by omega) (by decide)
  rw [if_neg hk, if_neg hk, nm_eq, nm_eq]
  refine re_lpc (I := fun (n : Nat) (x : Int32 × gS) (y : Int32 × Int64 × Int32) => n = ((s.1 15 7).toInt - y.2.2.toInt).toNat ∧ p'.toInt + 1 ≤ y.2.2.toInt ∧ y.2.2.toInt ≤ (s.1 15 7).toInt ∧ x.1 = y.2.2 ∧ GP τ x.2 y.1 y.2.1) (fun f2 g2 n x y hs hrec2 => ?_) K9 K9 ((s.1 15 7).toInt - (p' + 1).toInt).toNat (p' + 1, κ) (w, b, p' + 1) ⟨rfl, by dsimp only; omega, by dsimp only; omega, rfl, gp⟩ (by unfold K9; omega) (by unfold K9; omega)
  clear gp
  obtain ⟨q', κ⟩ := x
  obtain ⟨w, b, q⟩ := y
  obtain ⟨hm, q0, q1, eq, gp⟩ := hs
  dsimp only at hm q0 q1 eq gp ⊢
  subst eq
  unfold bX7_findGap_31 bX10_gap_36
  rw [q_bd (m_pictures s)]
  by_cases hj : s.1 15 7 ≤ q'
  · rw [if_pos hj, if_pos hj, nm_eq, nm_eq]
    exact hrec ((s.1 15 7).toInt - (p' + 1).toInt).toNat (p' + 1, κ) (w, b, p' + 1) (by omega) ⟨rfl, by dsimp only; omega, by dsimp only; omega, rfl, gp⟩
  have hlt2 := q_gt hj
  have ej := i_inc (a := q') (c := 60) (by omega) (by omega) (by decide)
  rw [if_neg hj, if_neg hj, nm_eq, nm_eq]
  refine re_lpc (I := fun (n : Nat) (x : Int32 × gS) (y : Int32 × Int64 × Int32) => n = ((s.1 15 7).toInt - y.2.2.toInt).toNat ∧ q'.toInt + 1 ≤ y.2.2.toInt ∧ y.2.2.toInt ≤ (s.1 15 7).toInt ∧ x.1 = y.2.2 ∧ GP τ x.2 y.1 y.2.1) (fun f3 g3 n x y hs hrec3 => ?_) K9 K9 ((s.1 15 7).toInt - (q' + 1).toInt).toNat (q' + 1, κ) (w, b, q' + 1) ⟨rfl, by dsimp only; omega, by dsimp only; omega, rfl, gp⟩ (by unfold K9; omega) (by unfold K9; omega)
  clear gp
  obtain ⟨r', κ⟩ := x
  obtain ⟨w, b, r⟩ := y
  obtain ⟨hl, r0, r1, er, gp⟩ := hs
  dsimp only at hl r0 r1 er gp ⊢
  subst er
  unfold bX7_findGap_41 bX10_gap_51
  rw [q_bd (m_pictures s)]
  by_cases hi : s.1 15 7 ≤ r'
  · rw [if_pos hi, if_pos hi, nm_eq, nm_eq]
    exact hrec2 ((s.1 15 7).toInt - (q' + 1).toInt).toNat (q' + 1, κ) (w, b, q' + 1) (by omega) ⟨rfl, by dsimp only; omega, by dsimp only; omega, rfl, gp⟩
  have hlt3 := q_gt hi
  have ek := i_inc (a := r') (c := 60) (by omega) (by omega) (by decide)
  have go : ∀ (κ1 : gS) (w1 : Int32) (b1 : Int64), GP τ κ1 w1 b1 → Re (f3 (r' + 1, κ1)) (g3 (w1, b1, r' + 1)) (fun κ o => o = if c = 0 then κ.1 140 11 else κ.1 140 12) := fun κ1 w1 b1 g1 => hrec3 ((s.1 15 7).toInt - (r' + 1).toInt).toNat (r' + 1, κ1) (w1, b1, r' + 1) (by omega) ⟨rfl, by dsimp only; omega, by dsimp only; omega, rfl, g1⟩
  simp only [nm_eq]
  rw [if_neg hi, if_neg hi]
  rcases sv_loop h (TA_t v gp.1) (p1 := p') (p2 := q') (p3 := r') ⟨by omega, by omega⟩ ⟨by omega, by omega⟩ ⟨by omega, by omega⟩ (by omega) (by omega) (by omega) with ⟨d1, d2⟩ | ⟨⟨d1, d2⟩, d3⟩
  · rw [q_bd d1, if_pos rfl, q_bd d2, if_pos rfl]
    exact go κ w b gp
  obtain ⟨x, x1, x2, x3, x4⟩ := d3 0 (.inl rfl)
  obtain ⟨y, y1, y2, y3, y4⟩ := d3 1 (.inr rfl)
  obtain ⟨u, u1, u2, u3, u4⟩ := ab_2 s x3 x4
  obtain ⟨t, t1, t2, t3, t4⟩ := ab_2 s y3 y4
  have es : ((if 0 ≤ x then x else 0 - x) + (if 0 ≤ y then y else 0 - y)).toInt = u.toInt + t.toInt := by rw [iadd_toInt (by omega) (by omega)]; omega
  have eu : (u + t).toInt = u.toInt + t.toInt := by rw [ladd_toInt] <;> omega
  rw [q_bd d1, if_neg one_ne, q_bd d2, if_neg one_ne, q_bd x2, q_bd u1, q_bd y2, q_bd t1]
  unfold fX7_takeGap
  rw [q_bd x1, q_bd y1, nm_eq]
  obtain ⟨m, hm2⟩ : ∃ m, m = (if 0 ≤ x then x else 0 - x) + (if 0 ≤ y then y else 0 - y) := ⟨_, rfl⟩
  rw [← hm2] at es ⊢
  by_cases z : b < u + t
  · have z' := Int64.lt_iff_toInt_lt.mp z
    rw [if_pos z, if_pos (show κ.1 140 12 < m from Int32.lt_iff_toInt_lt.mpr (by rw [gp.2.2.1]; omega)), nm_eq, nm_eq, bd_so]
    refine go _ _ _ ⟨fun k hk => by rw [gsI_row hk, gsI_row hk]; exact gp.1 k hk, by rw [gsI_at, if_pos rfl], by rw [gsI_at, if_neg (by decide), gsI_at, if_pos rfl]; omega, by omega, by omega⟩
  · have z' : ¬ b.toInt < (u + t).toInt := fun k => z (Int64.lt_iff_toInt_lt.mpr k)
    rw [if_neg z, if_neg (show ¬ κ.1 140 12 < m from fun k => by
      have := Int32.lt_iff_toInt_lt.mp k
      rw [gp.2.2.1] at this
      omega), bd_so]
    exact go κ w b gp
theorem a_25 {σC σM : gS} (h : IG σC σM) (x1 : Int32) : ∃ (oc : Int32 × gS) (om : Int32), fX9_gap σC x1 = some oc ∧ fX10_gap σM x1 = some om ∧ oc.1 = om ∧ IG oc.2 σM := by
  obtain ⟨oc, om, eC, eM, hI⟩ := e_25 h x1
  refine ⟨oc, om, eC, eM, ?_, hI⟩
  have G := gt_ig h
  obtain ⟨τ, eτ, v⟩ := k_survey G
  have e7 : τ.1 3 1 = σM.1 15 7 := by rw [v.1.1 3 (by decide)]; exact (tr_n G.2.2.1).2.2.1
  have main : fX10_isIn σM x1.toInt64 0 1 = some 1 → jX9_gap_11 σC x1 = some oc → oc.1 = om := fun hc e => by
    obtain ⟨κ, o, d1, d2, d3⟩ := gap_2 G v.2.2 e7 hc
    rw [eM] at d2
    cases d2
    unfold jX9_gap_11 at e
    rw [q_bd eτ, q_bd d1] at e
    rw [d3]
    by_cases z : x1 = 0
    · rw [if_pos z] at e ⊢
      cases e
      rfl
    · rw [if_neg z] at e ⊢
      cases e
      rfl
  have eC' := eC
  unfold fX9_gap at eC'
  by_cases c0 : x1 = 0
  · rw [if_pos c0] at eC'
    rcases m_axis2 σM x1 with ⟨d, hb⟩ | ⟨d, hb⟩
    · exact main d eC'
    · exact absurd (.inl c0) hb
  rw [if_neg c0] at eC'
  by_cases c1 : x1 = 1
  · rw [if_pos c1] at eC'
    rcases m_axis2 σM x1 with ⟨d, hb⟩ | ⟨d, hb⟩
    · exact main d eC'
    · exact absurd (.inr c1) hb
  rw [if_neg c1] at eC'
  rcases m_axis2 σM x1 with ⟨d, hb⟩ | ⟨d, hb⟩
  · exact hb.elim (fun y => absurd y c0) (fun y => absurd y c1)
  · unfold fX10_gap at eM
    rw [q_bd d, if_pos rfl] at eM
    cases eC'; cases eM
    rfl
end P12ZZB
