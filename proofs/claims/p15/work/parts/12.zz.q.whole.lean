/-! WHOLE, 10: solved, on both sides; the call -/
section P12ZZQ
theorem k_filled9 {σ s τ t : gS} (h : BS9 σ s τ t) {n : Nat} (hn : n = nU9 (ub9 s) 38) {ax : Int32} (x0 : 0 ≤ ax.toInt) (x1 : ax.toInt ≤ 1) : ∃ v : gS × gS, (v.1.1 = τ.1 ∧ v.2.1 = t.1 ∧ EQ9 n ax.toInt.toNat 0 v.1 v.2) ∧ fX4_fill τ ax = some v.1 ∧ lpc (S := Int32 × gS) K9 (fun rec u => bX10_equations_134 t (fun a1 σ1 => rec (a1, σ1)) u.1 u.2) (0, t) = some v.2 := by
  have n38 : n ≤ 38 := by rw [hn]; exact nU9_le _ 38
  have eC : (τ.1 96 4).toInt = n := by rw [h.2.1.2.2.1, hn]
  have eM : (t.1 0 43).toInt = n := by rw [h.2.2.2.2.2.1, hn]
  obtain ⟨υ, ⟨a1, a2⟩, a3⟩ := k_clear9 (σ0 := τ) (σ := τ) (ax := ax) eC n38
  obtain ⟨u, ⟨b1, b2⟩, b3⟩ := m_clear9 (t0 := t) (t := t)
  have l0 : (0 : Int64).toInt = 0 := by decide
  have F0 : FR9 n ax.toInt.toNat 0 υ u := ⟨fun _ _ => 0, fun _ _ => 0, fun i j hi hj => by rw [b2 i j hi hj, l0]; rfl, fun i j hi hj => ⟨by rw [a2 i j hi hj, l0], by dsimp only; omega, by dsimp only; omega⟩, fun _ _ _ _ => rfl⟩
  obtain ⟨v, ⟨c1, c2, c3⟩, c4, c5⟩ := rows_9 (υ0 := υ) (u0 := u) h hn x0 x1 a1 b1 F0
  obtain ⟨w, ⟨d1, d2, d3⟩, d4, d5⟩ := pics_9 (υ0 := v.1) (u0 := v.2) h hn x0 x1 c1 c2 c3
  obtain ⟨X, Y, f1, f2, f3⟩ := d3
  obtain ⟨μ, ⟨m1, m2⟩, m3⟩ := k_mod9 (υ0 := w.1) (υ := w.1) (by rw [d1]; exact eC) n38 f2
  have hx : ax.toInt.toNat < 2 := by omega
  refine ⟨(μ, w.2), ⟨m1.trans d1, d2, by dsimp only; rw [m1, d1]; exact eC, by dsimp only; rw [d2]; exact eM, n38, hx, fun i j hi hj => ?_, fun i j hi _ hj => ?_⟩, ?_, b3.trans (c5.trans d5)⟩
  · dsimp only
    rw [f1 i j (by omega) hj]
    exact ⟨Int.emod_nonneg _ (by decide), Int.emod_lt_of_pos _ (by decide)⟩
  · dsimp only
    refine Int64.toInt_inj.mp ?_
    rw [m2 i j hi hj, f1 i _ (by omega) (cm9_lt n38 hx), f3 i j hi hj]
  · unfold fX4_fill
    rw [nm_eq]
    exact a3.trans (c4.trans (d4.trans m3))
theorem solve_9 {σ s : gS} (h : GT σ s) {k ax : Int32} (k0 : 0 ≤ k.toInt) (k1 : k.toInt ≤ 37) (x0 : 0 ≤ ax.toInt) (x1 : ax.toInt ≤ 1) : (¬ UT9 s k.toInt.toNat → ∃ τ, fX4_solveFor σ k ax = some (-1, τ)) ∧ (UT9 s k.toInt.toNat → Re (fX4_solveFor σ k ax) (fX10_isSolved s) (fun oc om => (om.1 = 0 ∧ oc.1 = -1) ∨ (om.1 = 1 ∧ ∃ N : Nat, N < 38 ∧ fX10_numberOf om.2 k = some (Int32.ofNat N) ∧ oc.1 = (mC9 om.2 N (38 + ax.toInt.toNat)).toInt32))) := by
  obtain ⟨τ, hC, eC⟩ := k_number h
  obtain ⟨t, hM, eM⟩ := m_number9 h.2.1 (wf_gt h)
  have g1 := gb_of (i := k) (n := 38) k0 (by omega)
  have l1 : (-1 : Int32).toInt = -1 := by decide
  have hk := hC.2.2.2 k.toInt.toNat (by omega)
  constructor
  · intro hno
    unfold fX4_solveFor
    rw [q_bd eC, q_gd g1, nm_eq, nm_eq, n_toInt, if_pos (hk.2 (fun z => hno (ub9_t.mp z)))]
    exact ⟨τ, rfl⟩
  · intro hu
    have cu := ub9_t.mpr hu
    have e1 := hk.1 cu
    have lt := nU9_lt cu (show k.toInt.toNat < 38 by omega)
    have le := nU9_le (ub9 s) 38
    have ne : ¬ τ.1 97 k.toInt.toNat = -1 := fun z => by rw [z] at e1; omega
    obtain ⟨v, ⟨v1, v2, v3⟩, v4, v5⟩ := k_filled9 (h := ⟨h, hC, hM⟩) rfl x0 x1
    obtain ⟨oc, om, g2, g3, g4, g5⟩ := gauss_2 (σ0 := v.1) (w := τ.1 97 k.toInt.toNat) (by omega) (by omega) v3
    have EC : fX4_solveFor σ k ax = some oc := by
      unfold fX4_solveFor
      rw [q_bd eC, q_gd g1, nm_eq, nm_eq, n_toInt, if_neg ne, q_bd v4, nm_eq]
      exact g2
    have EM : fX10_isSolved s = some om := by
      unfold fX10_isSolved
      rw [eM, v5, q_bd rfl, nm_eq]
      exact g3
    refine ⟨oc, om, EC, EM, ?_⟩
    rcases g5 with g5 | ⟨g5, g6⟩
    · exact .inl g5
    · refine .inr ⟨g5, nU9 (ub9 s) k.toInt.toNat, by omega, ?_, ?_⟩
      · have e : om.2.1 = t.1 := g4.trans v2
        have hN : NM9 s om.2 (ub9 s) := ⟨by unfold JM; rw [e]; exact hM.1, fun j j1 j2 => by rw [e]; exact hM.2.1 j j1 j2, fun i hi => by rw [e]; exact hM.2.2.1 i hi, by rw [e]; exact hM.2.2.2.1, fun j hj cj => by rw [e]; exact hM.2.2.2.2 j hj cj⟩
        exact (num9 hN k0 k1).1 cu
      · rw [g6, show (τ.1 97 k.toInt.toNat).toInt.toNat = nU9 (ub9 s) k.toInt.toNat by omega]
/-- what stands by control in use stands where it is told -/
def CO9 (s : gS) : Prop := ∀ q : Nat, (q : Int) < (s.1 15 8).toInt → ¬ freeM s q → s.1 28 (12 + q) = 100 * s.1 21 (40 + 2 * q) ∧ s.1 28 (50 + q) = 100 * s.1 21 (40 + (2 * q + 1))
theorem j118_9 {σ s : gS} (h : GT σ s) {k ax z0' z1' : Int32} (k0 : 0 ≤ k.toInt) (k1 : k.toInt ≤ 37) (x0 : 0 ≤ ax.toInt) (x1 : ax.toInt ≤ 1) (hz : z1' + z0' = k) (ht : TH s k) : Re (bd2 (fX4_solveFor σ k ax) fun r13 σ14 => some (r13, σ14)) (jX10_whole_118 s ax z0' z1') (fun oc om => oc.1 = om.1) := by
  have l38 : (38 : Int32).toInt = 38 := by decide
  obtain ⟨s1, s2⟩ := solve_9 h k0 k1 x0 x1
  have us := m_isUsed h.2.1 k0 k1
  have ut : UT9 s k.toInt.toNat ↔ IU s k ≠ 0 := by
    unfold UT9
    rw [i32_of k0]
    exact ⟨fun y => y.2, fun y => ⟨ht, y⟩⟩
  unfold jX10_whole_118
  rw [nm_eq, hz, q_bd us]
  by_cases y : IU s k = 0
  · obtain ⟨τ, e⟩ := s1 (fun z => ut.mp z y)
    rw [if_pos y, q_bd2 e]
    exact ⟨_, _, rfl, rfl, rfl⟩
  · obtain ⟨oc, om, e1, e2, e3⟩ := s2 (ut.mpr y)
    rw [if_neg y, q_bd2 e1, q_bd2 e2]
    rcases e3 with ⟨e3, e4⟩ | ⟨e3, N, hN, e4, e5⟩
    · rw [if_pos e3]
      exact ⟨_, _, rfl, rfl, e4⟩
    · have eN : (Int32.ofNat N).toInt = N := iofNat_toInt (by omega)
      have m40 : (40 * Int32.ofNat N).toInt = 40 * (Int32.ofNat N).toInt := imulc (by decide) (by omega) (by omega)
      have m38 : (40 * Int32.ofNat N + 38).toInt = 40 * N + 38 := by rw [iadd_toInt] <;> omega
      have ma : (40 * Int32.ofNat N + 38 + ax).toInt = 40 * N + 38 + ax.toInt := by rw [iadd_toInt] <;> omega
      have na : (40 * Int32.ofNat N + 38 + ax).toNatClampNeg = 40 * N + (38 + ax.toInt.toNat) := by rw [n_toInt]; omega
      rw [if_neg (by rw [e3]; exact one_ne), q_bd e4, q_gd (gb_of (by omega) (by omega)), nm_eq, na]
      exact ⟨_, _, rfl, rfl, e5⟩
theorem in0_9 (σ : gS) (p m : Int32) (h0 : 0 ≤ m.toInt) : (fX10_isIn σ p.toInt64 0 ((m - 1).toInt64) = some 1 ∧ 0 ≤ p.toInt ∧ p.toInt < m.toInt) ∨ (fX10_isIn σ p.toInt64 0 ((m - 1).toInt64) = some 0 ∧ ¬ (0 ≤ p.toInt ∧ p.toInt < m.toInt)) := by
  have l1 : (1 : Int32).toInt = 1 := by decide
  have l0 : (0 : Int64).toInt = 0 := by decide
  have hi := Int32.toInt_lt m
  have e : (m - 1).toInt = m.toInt - 1 := by rw [isub_toInt] <;> omega
  rcases m_isIn σ p.toInt64 0 (m - 1).toInt64 with ⟨k, a, b⟩ | ⟨k, a⟩
  · rw [i64_of, l0] at a
    rw [i64_of, i64_of, e] at b
    exact .inl ⟨k, a, by omega⟩
  · rw [i64_of, i64_of, l0, e] at a
    exact .inr ⟨k, by omega⟩
theorem whole_9 {σ s : gS} (h : GT σ s) (co : CO9 s) (x1 x2 x3 : Int32) : Re (fX9_whole σ x1 x2 x3) (fX10_whole s x1 x2 x3) (fun oc om => oc.1 = om.1) := by
  have z0' := z0
  have l1 : (1 : Int32).toInt = 1 := by decide
  have l2 : (2 : Int32).toInt = 2 := by decide
  have l0 : (0 : Int64).toInt = 0 := by decide
  have l2' : (2 : Int64).toInt = 2 := by decide
  have l12 : (12 : Int32).toInt = 12 := by decide
  have l32 : (32 : Int32).toInt = 32 := by decide
  have l40 : (40 : Int32).toInt = 40 := by decide
  obtain ⟨b9, b8, b7, b6⟩ := gt_n h
  have T := h.2.2.1
  have G := h.2.2.2
  unfold fX9_whole fX10_whole
  have kin := m_isIn s x1.toInt64 0 2
  rw [i64_of, l0, l2'] at kin
  rcases kin with ⟨kk, ka, kb⟩ | ⟨kk, ka⟩
  · rw [if_neg (fun z => by have := Int32.lt_iff_toInt_lt.mp z; omega), if_neg (fun z => by have := Int32.lt_iff_toInt_lt.mp z; omega), q_bd kk, if_neg one_ne]
    rcases c_axis2 σ x3 with ⟨c, ha⟩ | ⟨c, ha⟩ <;> rcases m_axis2 s x3 with ⟨d, hb⟩ | ⟨d, hb⟩
    · have a0 : 0 ≤ x3.toInt := by rcases ha with rfl | rfl <;> decide
      have a1 : x3.toInt ≤ 1 := by rcases ha with rfl | rfl <;> decide
      rw [q_bd c, if_neg one_ne, q_bd d, if_neg one_ne]
      by_cases y0 : x1 = 0
      · subst y0
        rw [if_pos rfl, if_pos rfl]
        unfold jX10_whole_49
        have r7 : s.1 15 ((6 : Int32) + 1).toNatClampNeg = s.1 15 7 := rfl
        rw [q_gd (by decide), nm_eq, r7]
        have e7 : σ.1 3 1 = s.1 15 7 := T.1 1 (by decide)
        rcases ex_2 σ x2 (k := 1) (K := 1) (by decide) (by decide) with ⟨e, p0, p1⟩ | ⟨e, p⟩ <;> rcases in0_9 s x2 (s.1 15 7) b7.1 with ⟨f, f0, f1⟩ | ⟨f, f0⟩
        · rw [q_bd e, if_neg one_ne, q_bd f, if_neg one_ne, if_neg (by decide)]
          unfold jX10_whole_97
          rw [if_pos rfl]
          exact j118_9 h p0 (by omega) a0 a1 (Int32.add_zero x2) ⟨fun _ => f1, fun z => absurd z (by omega), fun z => absurd z (by omega)⟩
        · exact absurd ⟨p0, by rw [e7] at p1; exact p1⟩ f0
        · exact absurd ⟨f0, by rw [e7]; exact f1⟩ p
        · rw [q_bd e, if_pos rfl, q_bd f, if_pos rfl]
          unfold jX9_whole_44
          rw [if_neg (by decide)]
          unfold jX9_whole_105
          rw [if_neg (by decide)]
          exact ⟨_, _, rfl, rfl, rfl⟩
      · rw [if_neg y0, if_neg y0]
        by_cases y1 : x1 = 1
        · subst y1
          rw [if_pos rfl]
          unfold jX9_whole_44 jX10_whole_49
          have r8 : s.1 15 ((6 : Int32) + 2).toNatClampNeg = s.1 15 8 := rfl
          rw [if_pos rfl, q_gd (show gb ((6 : Int32) + 2) 12 = true by decide), nm_eq, nm_eq, r8]
          have e8 : σ.1 3 2 = s.1 15 8 := T.1 2 (by decide)
          rcases ex_2 σ x2 (k := 2) (K := 2) (by decide) (by decide) with ⟨e, p0, p1⟩ | ⟨e, p⟩ <;> rcases in0_9 s x2 (s.1 15 8) b8.1 with ⟨f, f0, f1⟩ | ⟨f, f0⟩
          · rw [q_bd e, if_neg one_ne, q_bd f, if_neg one_ne, if_pos rfl]
            have fx := fx_gt h x2.toInt.toNat (by omega)
            rcases c_fixK σ (q := x2) p0 (by omega) with ⟨k1, k2⟩ | ⟨k1, k2⟩ <;> rcases m_isC (s := s) (q := x2) p0 (by omega) with ⟨m1, m2⟩ | ⟨m1, m2⟩
            · rw [q_bd k1, if_pos rfl, q_bd m1, if_pos rfl]
              unfold jX10_whole_97
              rw [if_neg (by decide), if_pos rfl]
              have e12 : (12 + x2).toInt = 12 + x2.toInt := by rw [iadd_toInt] <;> omega
              have e2 : 12 + x2 - 12 = x2 := Int32.toInt_inj.mp (by rw [isub_toInt] <;> omega)
              exact j118_9 h (by omega) (by omega) a0 a1 (Int32.add_comm x2 12) ⟨fun z => absurd z (by omega), fun _ _ => ⟨by omega, by rw [e2]; exact m1⟩, fun z => absurd z (by omega)⟩
            · exact absurd (fun w => m2 (fx.mp w)) k2
            · exact absurd (fx.mpr m2) k2
            · obtain ⟨c0, c1⟩ := co x2.toInt.toNat (by omega) m2
              have g0 := G.2.2.2.2.1 0 x2.toInt.toNat (by decide) (by omega)
              have g1 := G.2.2.2.2.1 1 x2.toInt.toNat (by decide) (by omega)
              rw [q_bd k1, if_neg one_ne, q_bd m1, if_neg one_ne, q_gd (gb_of a0 (by omega)), q_gd (gb_of p0 (by omega))]
              have x40 : (40 + 2 * x2).toInt = 40 + 2 * x2.toInt := by
                have m2 : (2 * x2).toInt = 2 * x2.toInt := imulc (by decide) (by omega) (by omega)
                rw [iadd_toInt] <;> omega
              have x41 : (40 + 2 * x2 + x3).toInt = 40 + 2 * x2.toInt + x3.toInt := by rw [iadd_toInt] <;> omega
              rw [q_gd (gb_of (by omega) (by omega)), nm_eq]
              have ev : σ.1 (53 + x3.toNatClampNeg) x2.toNatClampNeg = 100 * s.1 21 (40 + 2 * x2 + x3).toNatClampNeg := by
                have n41 : (40 + 2 * x2 + x3).toNatClampNeg = 40 + (2 * x2.toInt.toNat + x3.toInt.toNat) := by rw [n_toInt]; omega
                rw [n41]
                rcases ha with rfl | rfl
                · rw [n_0]
                  exact g0.trans (by rw [show 38 * 0 + (12 + x2.toInt.toNat) = 12 + x2.toInt.toNat by omega]; exact c0)
                · rw [n_1]
                  exact g1.trans (by rw [show 38 * 1 + (12 + x2.toInt.toNat) = 50 + x2.toInt.toNat by omega]; exact c1)
              rw [ev]
              obtain ⟨V, hV⟩ : ∃ V, V = 100 * s.1 21 (40 + 2 * x2 + x3).toNatClampNeg := ⟨_, rfl⟩
              have v0 := Int32.le_toInt V
              have v1 := Int32.toInt_lt V
              rw [← hV]
              obtain ⟨y, hy, y1⟩ := k_mod σ (x := V.toInt64) (by rw [i64_of]; omega) (by rw [i64_of]; omega)
              obtain ⟨w, hw, w1⟩ := m_mod s (x := V.toInt64) (by rw [i64_of]; omega) (by rw [i64_of]; omega)
              rw [q_bd hy, q_bd hw]
              exact ⟨_, _, rfl, rfl, by rw [Int64.toInt_inj.mp (y1.trans w1.symm)]⟩
          · exact absurd ⟨p0, by rw [e8] at p1; exact p1⟩ f0
          · exact absurd ⟨f0, by rw [e8]; exact f1⟩ p
          · rw [q_bd e, if_pos rfl, q_bd f, if_pos rfl]
            unfold jX9_whole_105
            rw [if_neg (by decide)]
            exact ⟨_, _, rfl, rfl, rfl⟩
        · have y2 : x1 = 2 := by
            have n0 : x1.toInt ≠ 0 := fun z => y0 (Int32.toInt_inj.mp (by omega))
            have n1 : x1.toInt ≠ 1 := fun z => y1 (Int32.toInt_inj.mp (by omega))
            exact Int32.toInt_inj.mp (by omega)
          subst y2
          rw [if_neg y1]
          unfold jX9_whole_44 jX10_whole_49
          have r6 : s.1 15 ((6 : Int32) + 0).toNatClampNeg = s.1 15 6 := rfl
          rw [if_neg y1, q_gd (by decide), nm_eq, r6]
          unfold jX9_whole_105
          rw [if_pos rfl]
          have e6 : σ.1 3 0 = s.1 15 6 := T.1 0 (by decide)
          rcases ex_2 σ x2 (k := 0) (K := 0) (by decide) (by decide) with ⟨e, p0, p1⟩ | ⟨e, p⟩ <;> rcases in0_9 s x2 (s.1 15 6) b6.1 with ⟨f, f0, f1⟩ | ⟨f, f0⟩
          · rw [q_bd e, if_neg one_ne, q_bd f, if_neg one_ne, if_neg y1]
            unfold jX10_whole_97
            rw [if_neg y0, if_neg y1]
            have e32 : (32 + x2).toInt = 32 + x2.toInt := by rw [iadd_toInt] <;> omega
            exact j118_9 h (by omega) (by omega) a0 a1 (Int32.add_comm x2 32) ⟨fun z => absurd z (by omega), fun _ z => absurd z (by omega), fun _ => by omega⟩
          · exact absurd ⟨p0, by rw [e6] at p1; exact p1⟩ f0
          · exact absurd ⟨f0, by rw [e6]; exact f1⟩ p
          · rw [q_bd e, if_pos rfl, q_bd f, if_pos rfl]
            exact ⟨_, _, rfl, rfl, rfl⟩
    · exact absurd ha hb
    · exact absurd hb ha
    · rw [q_bd c, if_pos rfl, q_bd d, if_pos rfl]
      exact ⟨_, _, rfl, rfl, rfl⟩
  · rw [q_bd kk, if_pos rfl]
    by_cases y : x1 < 0
    · rw [if_pos y]
      exact ⟨_, _, rfl, rfl, rfl⟩
    · have y' : ¬ x1.toInt < 0 := fun z => y (Int32.lt_iff_toInt_lt.mpr (by omega))
      rw [if_neg y, if_pos (Int32.lt_iff_toInt_lt.mpr (by omega))]
      exact ⟨_, _, rfl, rfl, rfl⟩
end P12ZZQ
