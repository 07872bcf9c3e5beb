/-! alters leaves all as it was -/
section P12ZM
noncomputable def FA9 (s u : gS) : Prop := u.1 15 = s.1 15 ∧ u.1 26 = s.1 26 ∧ u.1 0 36 = s.1 0 36 ∧ (∀ i : Nat, i < 12 → u.1 27 i = s.1 27 i) ∧ (∀ i : Nat, i < 76 → u.1 28 i = s.1 28 i) ∧ ∀ i : Nat, u.1 24 i = s.1 24 i
set_option maxHeartbeats 1000000 in
theorem m_alt {s t3 : gS} {x1 x2 x3 x4 : Int32} {x6 x8 : Int32} (p0 : 0 ≤ x1.toInt) (p1 : x1.toInt ≤ 59) (h6 : x6 = s.1 24 (120 + 2 * x1.toInt.toNat)) (h8 : x8 = s.1 24 (120 + (2 * x1.toInt.toNat + 1))) (j3 : JM t3) (e : ∀ k, k ≠ 0 → k ≠ 28 → k ≠ 37 → k ≠ 38 → t3.1 k = s.1 k) (e37 : ∀ i : Nat, i < 76 → t3.1 37 i = s.1 28 i) (e38 : ∀ i : Nat, i < 12 → t3.1 38 i = s.1 27 i) (e52 : t3.1 0 52 = s.1 0 36) {o : Int32 × gS} (h : lpc (S := Int32 × gS) K9 (fun rec u => bX10_alters_61 t3 x1 x2 x3 x4 x6 x8 (fun a8 σ1 => rec (a8, σ1)) u.1 u.2) (0, t3) = some o) : FA9 s o.2 := by
  refine lpc_part (I := fun u : Int32 × gS => JM u.2 ∧ ∀ k, k ≠ 39 → u.2.1 k = t3.1 k) (P := fun o : Int32 × gS => FA9 s o.2) (fun rec u hs hrec o ho => ?_) K9 _ o ⟨j3, fun _ _ => rfl⟩ h
  obtain ⟨a8, u⟩ := u
  obtain ⟨jU, hu⟩ := hs
  dsimp only at ho jU hu
  unfold bX10_alters_61 at ho
  rw [q_bd (m_pictures u)] at ho
  by_cases z : u.1 15 7 ≤ a8
  · rw [if_pos z] at ho
    obtain ⟨t4, f4, v1, v2, v3, v4, v5, v6⟩ := m_takes u
    obtain ⟨t4', f4', j4, -⟩ := o_fX10_takesBack jU
    rw [f4] at f4'
    cases f4'
    rw [q_bd f4, q_bd (m_meas t4 p0 p1)] at ho
    obtain ⟨t5, h5⟩ : ∃ t5, t5 = gsI (gsI t4 24 (120 + 2 * x1.toInt.toNat) x2) 24 (120 + (2 * x1.toInt.toNat + 1)) x3 := ⟨_, rfl⟩
    rw [← h5] at ho
    have j5 : JM t5 := by rw [h5]; exact JM_w (JM_w j4 (Int32.le_toInt _) (Int32.toInt_le _)) (Int32.le_toInt _) (Int32.toInt_le _)
    obtain ⟨q, eq, jq, Fq, -⟩ := o_fX10_rests j5 (p1 := 200) (by decide) (by decide)
    rw [q_bd2 eq, nm_eq, nm_eq, nm_eq] at ho
    have q5 : ∀ k, k ≠ 24 → t5.1 k = t4.1 k := fun k hk => by rw [h5, gsI_row hk, gsI_row hk]
    have qk : ∀ k, k ≠ 0 → k ≠ 28 → q.2.1 k = t5.1 k := fun k h0 h1 => Fr_row Fq k (fun y hy => by simp [fr_fX10_rests] at hy; rcases hy with rfl | rfl | rfl <;> dsimp only <;> omega)
    refine lpc_part (I := fun _ : Int32 × Int32 => True) (P := fun o : Int32 × gS => FA9 s o.2) (fun rec2 w _ hrec2 o ho => ?_) K9 _ o trivial ho
    obtain ⟨b8, b9⟩ := w
    dsimp only at ho
    unfold bX10_alters_143 at ho
    rw [q_bd (m_pictures q.2)] at ho
    by_cases y : q.2.1 15 7 ≤ b9
    · rw [if_pos y, q_bd (m_meas q.2 p0 p1)] at ho
      obtain ⟨t7, h7⟩ : ∃ t7, t7 = gsI (gsI q.2 24 (120 + 2 * x1.toInt.toNat) x6) 24 (120 + (2 * x1.toInt.toNat + 1)) x8 := ⟨_, rfl⟩
      rw [← h7] at ho
      obtain ⟨t8, f8, w1, w2, w3, w4, w5, w6⟩ := m_takes t7
      rw [q_bd f8] at ho
      cases ho
      have q7 : ∀ k, k ≠ 24 → t7.1 k = q.2.1 k := fun k hk => by rw [h7, gsI_row hk, gsI_row hk]
      have all : ∀ k, k ≠ 0 → k ≠ 24 → k ≠ 27 → k ≠ 28 → k ≠ 37 → k ≠ 38 → k ≠ 39 → t8.1 k = s.1 k := fun k k0 k1 k2 k3 k4 k5 k6 => by
        rw [w1 k k0 k2 k3, q7 k k1, qk k k0 k3, q5 k k1, v1 k k0 k2 k3, hu k k6, e k k0 k3 k4 k5]
      have m37 : t7.1 37 = t3.1 37 := by rw [q7 37 (by decide), qk 37 (by decide) (by decide), q5 37 (by decide), v1 37 (by decide) (by decide) (by decide), hu 37 (by decide)]
      have m38 : t7.1 38 = t3.1 38 := by rw [q7 38 (by decide), qk 38 (by decide) (by decide), q5 38 (by decide), v1 38 (by decide) (by decide) (by decide), hu 38 (by decide)]
      have m52 : t7.1 0 52 = t3.1 0 52 := by rw [q7 0 (by decide), (Fq 0 52 (by decide) (by decide)).1, q5 0 (by decide), v2 52 (by decide), hu 0 (by decide)]
      refine ⟨all 15 (by decide) (by decide) (by decide) (by decide) (by decide) (by decide) (by decide), all 26 (by decide) (by decide) (by decide) (by decide) (by decide) (by decide) (by decide), ?_, fun i hi => ?_, fun i hi => ?_, fun i => ?_⟩
      · show t8.1 0 36 = _
        rw [w6, m52, e52]
      · show t8.1 27 i = _
        rw [w5 i hi, m38, e38 i hi]
      · show t8.1 28 i = _
        rw [w4 i hi, m37, e37 i hi]
      · show t8.1 24 i = _
        rw [w1 24 (by decide) (by decide) (by decide), h7, gsI_at, gsI_at, qk 24 (by decide) (by decide), h5, gsI_at, gsI_at, v1 24 (by decide) (by decide) (by decide), hu 24 (by decide), e 24 (by decide) (by decide) (by decide) (by decide), h6, h8]
        by_cases a : i = 120 + (2 * x1.toInt.toNat + 1)
        · rw [if_pos a, a]
        · rw [if_neg a]
          by_cases b : i = 120 + 2 * x1.toInt.toNat
          · rw [if_pos b, b]
          · rw [if_neg b, if_neg a, if_neg b]
    · rw [if_neg y] at ho
      obtain ⟨-, ho⟩ := gd_some ho
      rw [nm_eq] at ho
      obtain ⟨-, ho⟩ := gd_some ho
      rw [nm_eq] at ho
      obtain ⟨r1, -, ho⟩ := bd_some ho
      by_cases a : x4.toInt64 < r1
      · rw [if_pos a, nm_eq, nm_eq] at ho
        exact hrec2 _ _ trivial ho
      · rw [if_neg a] at ho
        obtain ⟨-, ho⟩ := gd_some ho
        rw [nm_eq] at ho
        obtain ⟨-, ho⟩ := gd_some ho
        rw [nm_eq] at ho
        obtain ⟨r2, -, ho⟩ := bd_some ho
        by_cases b : r2 ≤ x4.toInt64
        · rw [if_pos b, nm_eq] at ho
          exact hrec2 _ _ trivial ho
        · rw [if_neg b, nm_eq, nm_eq] at ho
          exact hrec2 _ _ trivial ho
  · rw [if_neg z, nm_eq] at ho
    refine lpc_part (I := fun w : Int32 × gS => JM w.2 ∧ ∀ k, k ≠ 39 → w.2.1 k = t3.1 k) (P := fun o : Int32 × gS => FA9 s o.2) (fun rec2 w hs2 hrec2 o ho => ?_) K9 _ o ⟨jU, hu⟩ ho
    obtain ⟨a9, w⟩ := w
    obtain ⟨jW, hw⟩ := hs2
    dsimp only at ho jW hw
    unfold bX10_alters_73 at ho
    by_cases y : 2 ≤ a9
    · rw [if_pos y, nm_eq] at ho
      exact hrec (_, w) _ ⟨jW, hw⟩ ho
    · rw [if_neg y] at ho
      obtain ⟨-, ho⟩ := gd_some ho
      rw [nm_eq] at ho
      obtain ⟨-, ho⟩ := gd_some ho
      rw [nm_eq, nm_eq] at ho
      refine hrec2 (_, _) _ ?_ ho
      exact ⟨JM_w jW (Int32.le_toInt _) (Int32.toInt_le _), fun k hk => (gsI_row hk).trans (hw k hk)⟩
set_option maxHeartbeats 1000000 in
theorem e_29 {σC σM : gS} (h : IG σC σM) (x1 x2 x3 x4 : Int32) : ∃ (oc : Int32 × gS) (om : Int32 × gS), fX9_alters σC x1 x2 x3 x4 = some oc ∧ fX10_alters σM x1 x2 x3 x4 = some om ∧ IG oc.2 om.2 := by
  obtain ⟨oc, om, eC, eM, hI⟩ := g_29 h.1 x1 x2 x3 x4
  have G := gt_ig h
  obtain ⟨b9, b8, b7, b6⟩ := gt_n G
  have en := (IV_n h.1).1
  have eC' := eC
  have eM' := eM
  unfold fX9_alters at eC'
  unfold fX10_alters at eM'
  rcases c_can σC x1 x2 x3 with ⟨a, a1⟩ | ⟨a, a1⟩ <;> rcases m_can h.1.2.1 x1 x2 x3 with ⟨b, b1⟩ | ⟨b, b1⟩
  · have p0 := b1.1.1
    have p1 : x1.toInt ≤ 59 := by have := b1.1.2; omega
    rw [q_bd a, if_neg one_ne] at eC'
    rw [q_bd b, if_neg one_ne] at eM'
    by_cases c : 0 ≤ x4
    · rw [if_pos c] at eC' eM'
      refine ⟨oc, om, eC, eM, hI, ?_⟩
      have gr := gb_of (i := x1) (n := 60) p0 (by omega)
      -- the class
      obtain ⟨κ, eκ, jκ, k1, k2⟩ := k_aside h.1.1
      obtain ⟨c1, d1, j1, F1, -⟩ := o_fX1_settle jκ (p1 := 200) (by decide) (by decide)
      obtain ⟨c2, d2, j2, F2⟩ := o_fX5_takeFrom_71_47 j1
      obtain ⟨c3, d3, j3, o1, o2⟩ := k_back j2
      obtain ⟨c4, h4⟩ : ∃ c4, c4 = gsI (gsI c3 13 x1.toInt.toNat x2) 14 x1.toInt.toNat x3 := ⟨_, rfl⟩
      obtain ⟨c4', d4, j4, -⟩ := o_fX8_setMeasured_2 j3 (p1 := x1) (p2 := x2) (p3 := x3) p0 p1
      rw [k_setM c3 p0 p1] at d4
      cases d4
      rw [← h4] at j4
      obtain ⟨c5, d5, j5, F5, -⟩ := o_fX1_settle j4 (p1 := 200) (by decide) (by decide)
      obtain ⟨c6, h6⟩ : ∃ c6, c6 = gsI (gsI c5.2 13 x1.toInt.toNat (σC.1 13 x1.toInt.toNat)) 14 x1.toInt.toNat (σC.1 14 x1.toInt.toNat) := ⟨_, rfl⟩
      obtain ⟨c6', d6, j6, -⟩ := o_fX8_setMeasured_2 j5 (p1 := x1) (p2 := σC.1 13 x1.toInt.toNat) (p3 := σC.1 14 x1.toInt.toNat) p0 p1
      rw [k_setM c5.2 p0 p1] at d6
      cases d6
      rw [← h6] at j6
      obtain ⟨c7, d7, j7, o3, o4⟩ := k_back j6
      rw [q_gd (by decide), q_gd gr, nm_eq, nm_eq, n_toInt, q_gd (by decide), q_gd gr, nm_eq, nm_eq, q_bd eκ, q_bd2 d1, q_bd d2, q_bd d3, q_bd (k_setM c3 p0 p1), ← h4, q_bd2 d5] at eC'
      obtain ⟨r26, -, eC'⟩ := bd_some eC'
      rw [nm_eq, q_bd (k_setM c5.2 p0 p1), ← h6, q_bd d7] at eC'
      cases eC'
      have f1 : ∀ j, j < 47 ∨ j = 58 ∨ (59 ≤ j ∧ j ≤ 70) → c1.2.1 j = κ.1 j := fun j hj => Fr_row F1 j (fun q hq z => by
        have := (show ∀ q ∈ fr_fX1_settle, ¬ (q.1 < 47 ∨ q.1 = 58 ∨ (59 ≤ q.1 ∧ q.1 ≤ 70)) by decide) q hq
        rw [z] at this
        exact this hj)
      have f2 : ∀ j, j < 71 → c2.1 j = c1.2.1 j := fun j hj => Fr_row F2 j (fun q hq z => by
        have := (show ∀ q ∈ fr_fX5_takeFrom_71_47, ¬ q.1 < 71 by decide) q hq
        rw [z] at this
        exact this hj)
      have f5 : ∀ j, j < 47 ∨ j = 58 ∨ (59 ≤ j ∧ j ≤ 70) → c5.2.1 j = c4.1 j := fun j hj => Fr_row F5 j (fun q hq z => by
        have := (show ∀ q ∈ fr_fX1_settle, ¬ (q.1 < 47 ∨ q.1 = 58 ∨ (59 ≤ q.1 ∧ q.1 ≤ 70)) by decide) q hq
        rw [z] at this
        exact this hj)
      have asd : ∀ j, 59 ≤ j → j ≤ 70 → c6.1 j = κ.1 j := fun j h1 h2 => by
        rw [h6, gsI_row (by omega), gsI_row (by omega), f5 j (by omega), h4, gsI_row (by omega), gsI_row (by omega), o1 j (by omega), f2 j (by omega), f1 j (by omega)]
      have sa : SA 47 47 σC c7 := SA_t k2 (fun j h1 h2 => asd j (by omega) (by omega)) o4
      have e13 : ∀ j, j = 13 ∨ j = 14 → c3.1 j = σC.1 j := fun j hj => by rw [o1 j (by omega), f2 j (by omega), f1 j (by omega), k1 j (by omega)]
      -- the reference
      have l120 : (120 : Int32).toInt = 120 := by decide
      have l1 : (1 : Int32).toInt = 1 := by decide
      have m2 : (2 * x1).toInt = 2 * x1.toInt := imulc (by decide) (by omega) (by omega)
      have m120 : (120 + 2 * x1).toInt = 120 + 2 * x1.toInt := by rw [iadd_toInt] <;> omega
      have m121 : (120 + 2 * x1 + 1).toInt = 121 + 2 * x1.toInt := by rw [iadd_toInt] <;> omega
      have y1 : (120 + 2 * x1).toNatClampNeg = 120 + 2 * x1.toInt.toNat := by rw [n_toInt]; omega
      have y2 : (120 + 2 * x1 + 1).toNatClampNeg = 120 + (2 * x1.toInt.toNat + 1) := by rw [n_toInt]; omega
      obtain ⟨t2, e2, u1, u2, u3, u4, u5, u6⟩ := m_puts σM
      obtain ⟨t2', e2', jt2, -⟩ := o_fX10_putsAside h.1.2.1
      rw [e2] at e2'
      cases e2'
      obtain ⟨q, eq, jq, Fq, -⟩ := o_fX10_rests jt2 (p1 := 200) (by decide) (by decide)
      have qk : ∀ k, k ≠ 0 → k ≠ 28 → q.2.1 k = t2.1 k := fun k h0 h1 => Fr_row Fq k (fun y hy => by simp [fr_fX10_rests] at hy; rcases hy with rfl | rfl | rfl <;> dsimp only <;> omega)
      rw [q_gd (gb_of (by omega) (by omega)), nm_eq, nm_eq, y1, q_gd (gb_of (by omega) (by omega)), nm_eq, nm_eq, y2, q_bd e2, q_bd2 eq, nm_eq, nm_eq] at eM'
      have fa := m_alt (s := σM) (t3 := q.2) p0 p1 rfl rfl jq (fun k k0 k1 k2 k3 => (qk k k0 k1).trans (u1 k k0 k2 k3)) (fun i hi => by rw [qk 37 (by decide) (by decide)]; exact u4 i hi) (fun i hi => by rw [qk 38 (by decide) (by decide)]; exact u5 i hi) (by rw [(Fq 0 52 (by decide) (by decide)).1]; exact u6) eM'
      obtain ⟨fa1, fa2, fa3, fa4, fa5, fa6⟩ := fa
      refine GE_cell h.2 ⟨b9, b8, b7, b6⟩ sa (fun i _ => ⟨?_, ?_⟩) fa1 fa2 fa3 fa4 fa5 fa6
      · show c7.1 13 i = _
        rw [o3 13 (by decide), h6, gsI_row (by decide), gsI_at, f5 13 (by decide), h4, gsI_row (by decide), gsI_at, e13 13 (by decide)]
        by_cases z : i = x1.toInt.toNat
        · rw [if_pos z, z]
        · rw [if_neg z, if_neg z]
      · show c7.1 14 i = _
        rw [o3 14 (by decide), h6, gsI_at, gsI_row (by decide), f5 14 (by decide), h4, gsI_at, gsI_row (by decide), e13 14 (by decide)]
        by_cases z : i = x1.toInt.toNat
        · rw [if_pos z, z]
        · rw [if_neg z, if_neg z]
    · rw [if_neg c] at eC' eM'
      cases eC'; cases eM'
      exact ⟨_, _, eC, eM, h⟩
  · rw [en] at a1; exact absurd a1 b1
  · rw [← en] at b1; exact absurd b1 a1
  · rw [q_bd a, if_pos rfl] at eC'
    rw [q_bd b, if_pos rfl] at eM'
    cases eC'; cases eM'
    exact ⟨_, _, eC, eM, h⟩
end P12ZM
