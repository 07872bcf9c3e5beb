/-! THE GEOMETRY KEPT: slips -/
section P12ZN
theorem and_31 {v : Int64} (h0 : 0 ≤ v.toInt) : (v &&& 2147483647).toInt = v.toInt % 2147483648 := by
  obtain ⟨b⟩ := v
  obtain ⟨b⟩ := b
  have hb : (0 : Int) ≤ b.toInt := h0
  show (b &&& 2147483647#64).toInt = b.toInt % 2147483648
  have lt := b.isLt
  have e1 : b.toInt = b.toNat := by
    rw [BitVec.toInt_eq_toNat_cond] at hb ⊢
    split at hb
    · rw [if_pos (by assumption)]
    · omega
  have e2 : (b &&& 2147483647#64).toNat = b.toNat % 2147483648 := by
    rw [BitVec.toNat_and]
    exact Nat.and_two_pow_sub_one_eq_mod b.toNat 31
  have e3 : (b &&& 2147483647#64).toInt = (b &&& 2147483647#64).toNat := by
    rw [BitVec.toInt_eq_toNat_cond, if_pos (by rw [e2]; omega)]
  rw [e3, e2, e1]
  omega
/-- draws -/
noncomputable def dD (x : Int64) : Int64 := lrm (1103515245 * x + 12345) 2147483648
noncomputable def dV (y : Int64) (n : Int32) : Int32 := (lrm (y / 64) n.toInt64).toInt32
theorem k_next {σ : gS} {x : Int64} (h0 : 0 ≤ x.toInt) (h1 : x.toInt < 2147483648) : fX9_nextDraw σ x = some (dD x) := by
  have lA : (1103515245 : Int64).toInt = 1103515245 := by decide
  have lB : (12345 : Int64).toInt = 12345 := by decide
  have lC : (2147483648 : Int64).toInt = 2147483648 := by decide
  have m : (1103515245 * x).toInt = 1103515245 * x.toInt := by rw [lmul_toInt (by rw [lA]; omega) (by rw [lA]; omega), lA]
  have a : (1103515245 * x + 12345).toInt = 1103515245 * x.toInt + 12345 := by rw [ladd_toInt (by rw [m, lB]; omega) (by rw [m, lB]; omega), m, lB]
  unfold fX9_nextDraw dD
  refine congrArg some (Int64.toInt_inj.mp ?_)
  rw [and_31 (by rw [a]; omega), lrm_nn (by rw [a]; omega) (by rw [lC]; decide), lC]
theorem dD_in {x : Int64} (h0 : 0 ≤ x.toInt) (h1 : x.toInt < 2147483648) : 0 ≤ (dD x).toInt ∧ (dD x).toInt < 2147483648 := w9_draw h0 h1
theorem k_drawn {σ : gS} {y : Int64} {n : Int32} (h : 1 ≤ n.toInt) : fX9_drawn σ y n = some (dV y n) := by
  have l1 : (1 : Int32).toInt = 1 := by decide
  have e : n.toInt64.toInt = n.toInt := Int32.toInt_toInt64 _
  have z : (0 : Int64).toInt = 0 := by decide
  unfold fX9_drawn
  rw [if_pos (q_le (by omega)), q_gd (decide_eq_true (show ¬ n.toInt64 = 0 from fun y => by rw [y] at e; omega))]
  rfl
theorem m_drawOf {s : gS} {x : Int64} {n : Int32} (hx : s.2 0 54 = x) (h : 1 ≤ n.toInt) : fX10_drawOf s n = some (dV (dD x) n, gsL s 0 54 (dD x)) := by
  have e : n.toInt64.toInt = n.toInt := Int32.toInt_toInt64 _
  have z : (0 : Int64).toInt = 0 := by decide
  unfold fX10_drawOf
  rw [nm_eq, hx, q_gd (decide_eq_true (show ¬ n.toInt64 = 0 from fun y => by rw [y] at e; omega)), gsL_2, if_pos ⟨rfl, rfl⟩]
  rfl
theorem dV_in {x : Int64} {n : Int32} (h0 : 0 ≤ x.toInt) (h1 : x.toInt < 2147483648) (hn : 1 ≤ n.toInt) (hn2 : n.toInt ≤ 1999) : 0 ≤ (dV (dD x) n).toInt ∧ (dV (dD x) n).toInt < n.toInt := by
  have hd := dD_in h0 h1
  unfold dV
  generalize dD x = y at hd ⊢
  have e : n.toInt64.toInt = n.toInt := Int32.toInt_toInt64 _
  have l64 : (64 : Int64).toInt = 64 := by decide
  have d1 : (y / 64).toInt = y.toInt / 64 := by rw [ldiv_nn hd.1 (by omega), l64]
  have d2 : (lrm (y / 64) n.toInt64).toInt = y.toInt / 64 % n.toInt := by rw [lrm_nn (by omega) (by omega), d1, e]
  have b0 : 0 ≤ y.toInt / 64 % n.toInt := Int.emod_nonneg _ (by omega)
  have b1 : y.toInt / 64 % n.toInt < n.toInt := Int.emod_lt_of_pos _ (by omega)
  rw [l_toInt32 (by omega) (by omega), d2]
  omega
/-- kept within -/
noncomputable def kW (v : Int32) : Int32 := if 0 ≤ v then (if v ≤ 9999 then v else 9999) else 0
theorem kW_in (v : Int32) : 0 ≤ (kW v).toInt ∧ (kW v).toInt ≤ 9999 := by
  have z0' := z0
  have l9 : (9999 : Int32).toInt = 9999 := by decide
  unfold kW
  by_cases a : 0 ≤ v
  · have a' := Int32.le_iff_toInt_le.mp a
    rw [if_pos a]
    by_cases b : v ≤ 9999
    · have b' := Int32.le_iff_toInt_le.mp b
      rw [if_pos b]; omega
    · rw [if_neg b]; omega
  · rw [if_neg a]; omega
theorem k_kept (σ : gS) (v : Int32) : fX9_keptMeasured σ v = some (kW v) := by
  have z0' := z0
  have l9 : (9999 : Int32).toInt = 9999 := by decide
  unfold fX9_keptMeasured kW
  refine congrArg some ?_
  rcases lt_or v 9999 with ⟨a, a'⟩ | ⟨a, a'⟩
  · rw [if_pos a, if_pos (show v ≤ 9999 from q_le (by omega))]
    rcases lt_or 0 v with ⟨b, b'⟩ | ⟨b, b'⟩
    · rw [if_pos b, if_pos (q_le (by omega))]
    · rw [if_neg b]
      by_cases c : 0 ≤ v
      · have c' := Int32.le_iff_toInt_le.mp c
        rw [if_pos c]
        exact (Int32.toInt_inj.mp (by omega))
      · rw [if_neg c]
  · rw [if_neg a, if_pos (show (0 : Int32) < 9999 by decide), if_pos (show 0 ≤ v from q_le (by omega))]
    by_cases c : v ≤ 9999
    · have c' := Int32.le_iff_toInt_le.mp c
      rw [if_pos c]
      exact (Int32.toInt_inj.mp (by omega))
    · rw [if_neg c]
theorem m_within (s : gS) (v : Int32) : fX10_within s v = some (kW v) := by
  unfold fX10_within kW
  by_cases a : 0 ≤ v
  · rw [if_pos a, if_pos a]
    by_cases b : v ≤ 9999
    · rw [if_pos b, if_pos b]
    · rw [if_neg b, if_neg b]
  · rw [if_neg a, if_neg a]
theorem TR_m {σ s τ t : gS} (h : TRd σ s) (a : ∀ k, k < 47 → k ≠ 13 → k ≠ 14 → τ.1 k = σ.1 k) (b : ∀ k, k ≠ 24 → t.1 k = s.1 k) (c : t.2 = s.2) : TRd τ t := by
  obtain ⟨h1, h2, h3, h4, h5⟩ := h
  unfold TRd PTd QTd RTd
  rw [b 15 (by decide), b 16 (by decide), b 17 (by decide), b 18 (by decide), b 19 (by decide), b 20 (by decide), b 21 (by decide), b 22 (by decide), b 23 (by decide), b 25 (by decide), c, a 3 (by decide) (by decide) (by decide), a 8 (by decide) (by decide) (by decide), a 9 (by decide) (by decide) (by decide), a 20 (by decide) (by decide) (by decide), a 22 (by decide) (by decide) (by decide), a 23 (by decide) (by decide) (by decide), a 16 (by decide) (by decide) (by decide), a 18 (by decide) (by decide) (by decide), a 19 (by decide) (by decide) (by decide), a 10 (by decide) (by decide) (by decide), a 11 (by decide) (by decide) (by decide), a 15 (by decide) (by decide) (by decide)]
  exact ⟨h1, fun K i hK hi => by rw [a (5 + K) (by omega) (by omega) (by omega)]; exact h2 K i hK hi, h3, h4, h5⟩
theorem GT_L {σ s : gS} (h : GT σ s) (x : Int64) : GT σ (gsL s 0 54 x) := by
  obtain ⟨jC, jM, T, g⟩ := h
  refine ⟨jC, JM_l jM, TR_eq T (fun _ _ => rfl) (fun k i h1 h2 _ => ⟨rfl, ?_⟩), g⟩
  rw [gsL_2, if_neg (by omega)]
set_option maxHeartbeats 1000000 in
theorem e_31 {σC σM : gS} (h : IG σC σM) (x1 x2 x3 : Int32) : ∃ (oc : Int32 × gS) (om : Int32 × gS), fX9_slips σC x1 x2 x3 = some oc ∧ fX10_slips σM x1 x2 x3 = some om ∧ IG oc.2 om.2 := by
  obtain ⟨oc, om, eC, eM, hI⟩ := g_31 h.1 x1 x2 x3
  have G := gt_ig h
  obtain ⟨b9, b8, b7, b6⟩ := gt_n G
  have en := (IV_n h.1).1
  have z0' := z0
  have l1 : (1 : Int32).toInt = 1 := by decide
  have l2 : (2 : Int32).toInt = 2 := by decide
  have l60 : (60 : Int32).toInt = 60 := by decide
  have l999 : (999 : Int32).toInt = 999 := by decide
  have key : Re (fX9_slips σC x1 x2 x3) (fX10_slips σM x1 x2 x3) (fun a b => GE a.2 b.2) := by
    have e3 : σC.1 3 ((3 : Int32).toNatClampNeg) = σM.1 15 9 := en
    unfold fX9_slips fX10_slips
    rw [q_gd (by decide), nm_eq, nm_eq, e3]
    by_cases hz : σM.1 15 9 = 0
    · rw [if_pos hz]
      refine re_so ?_
      rcases in_32 σM x1 1 60 with ⟨a, -⟩ | ⟨a, -⟩
      · rw [q_bd (show fX10_isIn σM x1.toInt64 1 60 = some 1 from a), if_neg one_ne]
        rcases in_32 σM x2 0 999 with ⟨b, -⟩ | ⟨b, -⟩
        · rw [q_bd (show fX10_isIn σM x2.toInt64 0 999 = some 1 from b), if_neg one_ne]
          by_cases c : x3 < 0
          · rw [if_pos c]; exact ok_some.mpr h.2
          · rw [if_neg c, q_bd (m_rows σM), if_pos hz]; exact ok_some.mpr h.2
        · rw [q_bd (show fX10_isIn σM x2.toInt64 0 999 = some 0 from b), if_pos rfl]; exact ok_some.mpr h.2
      · rw [q_bd (show fX10_isIn σM x1.toInt64 1 60 = some 0 from a), if_pos rfl]; exact ok_some.mpr h.2
    rw [if_neg hz]
    rcases in_32 σM x1 1 60 with ⟨a, a1, a2⟩ | ⟨a, a1⟩
    rotate_left
    · rw [q_bd (show fX10_isIn σM x1.toInt64 1 60 = some 0 from a), if_pos rfl]
      rcases lt_or x1 1 with ⟨c, c'⟩ | ⟨c, c'⟩
      · rw [if_pos c]; exact ⟨_, _, rfl, rfl, h.2⟩
      rw [if_neg c]
      rcases lt_or 60 x1 with ⟨d, d'⟩ | ⟨d, d'⟩
      · rw [if_pos d]; exact ⟨_, _, rfl, rfl, h.2⟩
      omega
    rw [q_bd (show fX10_isIn σM x1.toInt64 1 60 = some 1 from a), if_neg one_ne]
    rcases lt_or x1 1 with ⟨c, c'⟩ | ⟨c, c'⟩
    · omega
    rw [if_neg c]
    rcases lt_or 60 x1 with ⟨d, d'⟩ | ⟨d, d'⟩
    · omega
    rw [if_neg d]
    rcases in_32 σM x2 0 999 with ⟨b, v1, v2⟩ | ⟨b, v1⟩
    rotate_left
    · rw [q_bd (show fX10_isIn σM x2.toInt64 0 999 = some 0 from b), if_pos rfl]
      rcases lt_or x2 0 with ⟨e, e'⟩ | ⟨e, e'⟩
      · rw [if_pos e]; exact ⟨_, _, rfl, rfl, h.2⟩
      rw [if_neg e]
      rcases lt_or 999 x2 with ⟨f, f'⟩ | ⟨f, f'⟩
      · rw [if_pos f]; exact ⟨_, _, rfl, rfl, h.2⟩
      omega
    rw [q_bd (show fX10_isIn σM x2.toInt64 0 999 = some 1 from b), if_neg one_ne]
    rcases lt_or x2 0 with ⟨e, e'⟩ | ⟨e, e'⟩
    · omega
    rw [if_neg e]
    rcases lt_or 999 x2 with ⟨f, f'⟩ | ⟨f, f'⟩
    · omega
    rw [if_neg f]
    rcases lt_or x3 0 with ⟨g, g'⟩ | ⟨g, g'⟩
    · rw [if_pos g, if_neg (q_nle (by omega))]
      exact ⟨_, _, rfl, rfl, h.2⟩
    rw [if_neg g, if_pos (q_le (by omega)), q_bd (m_rows σM), if_neg hz, nm_eq, nm_eq, nm_eq, nm_eq, nm_eq]
    have rp : 1 ≤ (σM.1 15 9).toInt := by
      have : (σM.1 15 9).toInt ≠ 0 := fun y => hz (Int32.toInt_inj.mp (by omega))
      omega
    have y3 : x3.toInt64.toInt = x3.toInt := Int32.toInt_toInt64 _
    have x3h := i32_hi x3
    have w1 : (2 * x2 + 1).toInt = 2 * x2.toInt + 1 := by
      have m2 : (2 * x2).toInt = 2 * x2.toInt := imulc (by decide) (by omega) (by omega)
      rw [iadd_toInt] <;> omega
    refine re_lpc (I := fun (n : Nat) (u : Int64 × Int32 × Int32 × gS) (w : Int32 × gS) => n = (x1.toInt - w.1.toInt).toNat ∧ 0 ≤ w.1.toInt ∧ w.1.toInt ≤ x1.toInt ∧ u.2.2.1 = w.1 ∧ GT u.2.2.2 w.2 ∧ w.2.2 0 54 = u.1 ∧ (0 ≤ u.1.toInt ∧ u.1.toInt < 2147483648) ∧ w.2.1 15 = σM.1 15) (fun F K n u w hs hrec => ?_) K9 K9 x1.toInt.toNat (x3.toInt64, 0, 0, σC) (0, gsL σM 0 54 x3.toInt64) ⟨by dsimp only; omega, by dsimp only; omega, by dsimp only; omega, rfl, GT_L G _, by dsimp only; rw [gsL_2, if_pos ⟨rfl, rfl⟩], ⟨by dsimp only; omega, by dsimp only; omega⟩, rfl⟩ (by unfold K9; omega) (by unfold K9; omega)
    obtain ⟨x, q, k', σ⟩ := u
    obtain ⟨k, s⟩ := w
    obtain ⟨hn, k0, k1, ek, hG, hx, hr, h15⟩ := hs
    dsimp only at hn k0 k1 ek hG hx hr h15 ⊢
    subst ek
    unfold bX9_slips_54 bX10_slips_46
    by_cases hk : x1 ≤ k'
    · rw [if_pos hk, if_pos hk]
      exact ⟨_, _, rfl, rfl, hG.2.2.2⟩
    have hlt := q_gt hk
    have ei := i_inc (a := k') (c := 60) (by omega) (by omega) (by decide)
    rw [if_neg hk, if_neg hk]
    obtain ⟨d1, hd1⟩ : ∃ d1, d1 = dD x := ⟨_, rfl⟩
    have r1 := dD_in hr.1 hr.2
    rw [← hd1] at r1
    obtain ⟨d2, hd2⟩ : ∃ d2, d2 = dD d1 := ⟨_, rfl⟩
    have r2 := dD_in r1.1 r1.2
    rw [← hd2] at r2
    obtain ⟨d3, hd3⟩ : ∃ d3, d3 = dD d2 := ⟨_, rfl⟩
    have r3 := dD_in r2.1 r2.2
    rw [← hd3] at r3
    obtain ⟨R, hR⟩ : ∃ R, R = dV d1 (σM.1 15 9) := ⟨_, rfl⟩
    have rR := dV_in hr.1 hr.2 (n := σM.1 15 9) rp (by omega)
    rw [← hd1, ← hR] at rR
    have m1 := m_drawOf hx (n := σM.1 15 9) rp
    rw [← hd1, ← hR] at m1
    obtain ⟨s1, hs1⟩ : ∃ s1, s1 = gsL s 0 54 d1 := ⟨_, rfl⟩
    rw [← hs1] at m1
    have m2 := m_drawOf (s := s1) (x := d1) (n := 2 * x2 + 1) (by rw [hs1, gsL_2, if_pos ⟨rfl, rfl⟩]) (by omega)
    rw [← hd2] at m2
    obtain ⟨s2, hs2⟩ : ∃ s2, s2 = gsL s1 0 54 d2 := ⟨_, rfl⟩
    rw [← hs2] at m2
    have m3 := m_drawOf (s := s2) (x := d2) (n := 2 * x2 + 1) (by rw [hs2, gsL_2, if_pos ⟨rfl, rfl⟩]) (by omega)
    rw [← hd3] at m3
    obtain ⟨s3, hs3⟩ : ∃ s3, s3 = gsL s2 0 54 d3 := ⟨_, rfl⟩
    rw [← hs3] at m3
    have hG3 : GT σ s3 := by rw [hs3, hs2, hs1]; exact GT_L (GT_L (GT_L hG _) _) _
    have s3r : s3.1 = s.1 := by rw [hs3, hs2, hs1]; rfl
    have s1r : s1.1 = s.1 := by rw [hs1]; rfl
    have s2r : s2.1 = s.1 := by rw [hs2, hs1]; rfl
    have M := hG.2.2.2.2.2.2.2.2.2.2 R.toInt.toNat (by rw [h15]; omega)
    have gR := gb_of (i := R) (n := 60) rR.1 (by omega)
    have l120 : (120 : Int32).toInt = 120 := by decide
    have t2 : (2 * R).toInt = 2 * R.toInt := imulc (by decide) (by omega) (by omega)
    have t120 : (120 + 2 * R).toInt = 120 + 2 * R.toInt := by rw [iadd_toInt] <;> omega
    have t121 : (120 + 2 * R + 1).toInt = 121 + 2 * R.toInt := by rw [iadd_toInt] <;> omega
    have i1 : (120 + 2 * R).toNatClampNeg = 120 + 2 * R.toInt.toNat := by rw [n_toInt]; omega
    have i2 : (120 + 2 * R + 1).toNatClampNeg = 120 + (2 * R.toInt.toNat + 1) := by rw [n_toInt]; omega
    rw [q_bd (k_next hr.1 hr.2), ← hd1, nm_eq, q_bd (k_drawn (y := d1) rp), ← hR, nm_eq, q_bd (k_next r1.1 r1.2), ← hd2, nm_eq, q_gd (by decide), q_gd gR, nm_eq, q_bd (k_drawn (y := d2) (n := 2 * x2 + 1) (by omega)), nm_eq, q_bd (k_next r2.1 r2.2), ← hd3, nm_eq, q_gd (by decide), q_gd gR, nm_eq, q_bd (k_drawn (y := d3) (n := 2 * x2 + 1) (by omega)), nm_eq, q_bd (k_kept σ _), q_bd (k_kept σ _), q_bd (k_setM σ rR.1 (by omega)), nm_eq, nm_eq]
    rw [q_bd (m_rows s), h15, m1, bd2_so, nm_eq, q_gd (gb_of (by omega) (by omega)), nm_eq, m2, bd2_so, nm_eq, q_gd (gb_of (by omega) (by omega)), nm_eq, m3, bd2_so, nm_eq, q_bd (m_within s3 _), q_bd (m_within s3 _), q_bd (m_meas s3 rR.1 (by omega)), nm_eq, i1, i2, n_toInt, M.1, M.2.1, s1r, s2r]
    have hGE := GE_meas hG3.2.2.2 R.toInt.toNat (kW_in (s.1 24 (120 + 2 * R.toInt.toNat) + dV d2 (2 * x2 + 1) - x2)) (kW_in (s.1 24 (120 + (2 * R.toInt.toNat + 1)) + dV d3 (2 * x2 + 1) - x2))
    refine hrec (x1.toInt - (k' + 1).toInt).toNat (d3, q + 3, k' + 1, _) (k' + 1, _) (by omega) ⟨rfl, by dsimp only; omega, by dsimp only; omega, rfl, ⟨JC_w (JC_w hG3.1 (Int32.le_toInt _) (Int32.toInt_le _)) (Int32.le_toInt _) (Int32.toInt_le _), JM_w (JM_w hG3.2.1 (Int32.le_toInt _) (Int32.toInt_le _)) (Int32.le_toInt _) (Int32.toInt_le _), ?_, hGE⟩, ?_, r3, ?_⟩
    · refine TR_m hG3.2.2.1 (fun k hk h1 h2 => by rw [gsI_row h2, gsI_row h1]) (fun k h1 => by rw [gsI_row h1, gsI_row h1]) rfl
    · show s3.2 0 54 = d3
      rw [hs3, gsL_2, if_pos ⟨rfl, rfl⟩]
    · show (gsI (gsI s3 24 _ _) 24 _ _).1 15 = _
      rw [gsI_row (by decide), gsI_row (by decide), s3r]
      exact h15
  obtain ⟨pc, pm, dC, dM, g⟩ := key
  rw [eC] at dC
  rw [eM] at dM
  cases dC
  cases dM
  exact ⟨oc, om, eC, eM, hI, g⟩
end P12ZN
