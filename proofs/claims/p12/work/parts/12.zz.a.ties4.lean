/-! TIES, 4: tie, loop -/
section P12ZZA
theorem un_2 {σ s : gS} (h : GT σ s) (p1 p2 : Int32) : (fX9_areUnlike σ p1 p2 = some 0 ∧ fX10_areTwo s p1 p2 = some 0) ∨ ((fX9_areUnlike σ p1 p2 = some 1 ∧ fX10_areTwo s p1 p2 = some 1) ∧ (0 ≤ p1.toInt ∧ p1.toInt < (s.1 15 7).toInt) ∧ (0 ≤ p2.toInt ∧ p2.toInt < (s.1 15 7).toInt) ∧ p1.toInt.toNat ≠ p2.toInt.toNat) := by
  unfold fX9_areUnlike fX10_areTwo
  rcases pic_2 h p1 with ⟨a, b⟩ | ⟨⟨a, b⟩, a0, a1⟩
  · rw [q_bd a, if_pos rfl, q_bd b, if_pos rfl]
    by_cases z : p1 = p2
    · rw [if_pos z]; exact .inl ⟨rfl, rfl⟩
    · rw [if_neg z]; exact .inl ⟨rfl, rfl⟩
  rcases pic_2 h p2 with ⟨c, d⟩ | ⟨⟨c, d⟩, c0, c1⟩
  · rw [q_bd a, if_neg one_ne, q_bd c, if_pos rfl, q_bd b, if_neg one_ne, q_bd d, if_pos rfl]
    by_cases z : p1 = p2
    · rw [if_pos z]; exact .inl ⟨rfl, rfl⟩
    · rw [if_neg z]; exact .inl ⟨rfl, rfl⟩
  rw [q_bd a, if_neg one_ne, q_bd c, if_neg one_ne, q_bd b, if_neg one_ne, q_bd d, if_neg one_ne]
  by_cases z : p1 = p2
  · rw [if_pos z]; exact .inl ⟨rfl, rfl⟩
  · rw [if_neg z]
    exact .inr ⟨⟨rfl, rfl⟩, ⟨a0, a1⟩, ⟨c0, c1⟩, fun y => z (Int32.toInt_inj.mp (by omega))⟩
noncomputable def TA (s τ : gS) : Prop := ∀ p1 p2 : Nat, (p1 : Int) < (s.1 15 7).toInt → (p2 : Int) < (s.1 15 7).toInt → p1 ≠ p2 → TT s τ p1 p2
/-- what the survey says of a tie is what the reference counts -/
theorem sv_tp {σ s τ : gS} (h : GT σ s) (v : TA s τ) {p1 p2 : Int32} (a : 0 ≤ p1.toInt ∧ p1.toInt < (s.1 15 7).toInt) (c : 0 ≤ p2.toInt ∧ p2.toInt < (s.1 15 7).toInt) (ne : p1.toInt.toNat ≠ p2.toInt.toNat) : fX10_tiePoints s p1 p2 = some (τ.1 (155 + p1.toInt.toNat) p2.toInt.toNat) ∧ 0 ≤ (τ.1 (155 + p1.toInt.toNat) p2.toInt.toNat).toInt ∧ (τ.1 (155 + p1.toInt.toNat) p2.toInt.toNat).toInt ≤ 20 := by
  have b8 := (gt_n h).2.1
  have t := (v p1.toInt.toNat p2.toInt.toNat (by omega) (by omega) ne).1
  rw [i32_of a.1, i32_of c.1] at t
  rw [t]
  have := tC_in s p1 p2 (s.1 15 8).toInt.toNat (by omega)
  exact ⟨m_tp h p1 p2, by omega, by omega⟩
theorem sv_st {σ s τ : gS} (h : GT σ s) (v : TA s τ) {p1 p2 k : Int32} (a : 0 ≤ p1.toInt ∧ p1.toInt < (s.1 15 7).toInt) (c : 0 ≤ p2.toInt ∧ p2.toInt < (s.1 15 7).toInt) (ne : p1.toInt.toNat ≠ p2.toInt.toNat) (hk : k = 0 ∨ k = 1) (hp : 0 < (τ.1 (155 + p1.toInt.toNat) p2.toInt.toNat).toInt) : ∃ x : Int32, fX7_stepOf τ p1 p2 k = some x ∧ fX10_step s p1 p2 k = some x ∧ -1999800 ≤ x.toInt ∧ x.toInt ≤ 1999800 := by
  have b8 := (gt_n h).2.1
  have b7 := (gt_n h).2.2.1
  obtain ⟨t1, t2⟩ := v p1.toInt.toNat p2.toInt.toNat (by omega) (by omega) ne
  rw [i32_of a.1, i32_of c.1] at t1 t2
  rw [t1] at hp
  obtain ⟨u0, u1⟩ := t2 hp
  have g1 := gb_of (i := p1) (n := 12) a.1 (by omega)
  have g2 := gb_of (i := p2) (n := 12) c.1 (by omega)
  obtain ⟨x, ex, hx⟩ := m_st9 h p1 p2 hk hp
  have bd := tS_in h p1 p2 k (s.1 15 8).toInt.toNat (by omega)
  have fi := fl_in hp bd.1 bd.2
  refine ⟨x, ?_, ex, by omega, by omega⟩
  unfold fX7_stepOf
  rcases hk with rfl | rfl
  · rw [if_pos rfl, q_gd g1, q_gd g2, nm_eq, n_toInt, n_toInt]
    rw [show τ.1 (168 + p1.toInt.toNat) p2.toInt.toNat = x from Int32.toInt_inj.mp (u0.trans hx.symm)]
  · rw [if_neg (by decide), q_gd g1, q_gd g2, nm_eq, n_toInt, n_toInt]
    rw [show τ.1 (181 + p1.toInt.toNat) p2.toInt.toNat = x from Int32.toInt_inj.mp (u1.trans hx.symm)]
theorem a_23 {σC σM : gS} (h : IG σC σM) (x1 x2 x3 : Int32) : ∃ (oc : Int32 × gS) (om : Int32), fX9_tie σC x1 x2 x3 = some oc ∧ fX10_tie σM x1 x2 x3 = some om ∧ oc.1 = om ∧ IG oc.2 σM := by
  obtain ⟨oc, om, eC, eM, hI⟩ := e_23 h x1 x2 x3
  refine ⟨oc, om, eC, eM, ?_, hI⟩
  have G := gt_ig h
  have b7 := (gt_n G).2.2.1
  have z0' := z0
  have l1 : (1 : Int32).toInt = 1 := by decide
  have l2 : (2 : Int32).toInt = 2 := by decide
  unfold fX9_tie at eC
  unfold fX10_tie at eM
  rcases un_2 G x1 x2 with ⟨a, b⟩ | ⟨⟨a, b⟩, p1, p2, ne⟩
  · rw [q_bd a, if_pos rfl] at eC
    rw [q_bd b, if_pos rfl] at eM
    cases eC; cases eM
    rfl
  rw [q_bd a, if_neg one_ne] at eC
  rw [q_bd b, if_neg one_ne] at eM
  obtain ⟨τ, eτ, v⟩ := k_survey G
  obtain ⟨t1, t2, t3⟩ := sv_tp G v.2.2 p1 p2 ne
  have g1 := gb_of (i := x1) (n := 12) p1.1 (by omega)
  have g2 := gb_of (i := x2) (n := 12) p2.1 (by omega)
  rcases lt_or x3 0 with ⟨c, c'⟩ | ⟨c, c'⟩
  · rw [if_pos c] at eC
    rcases in_32 σM x3 0 2 with ⟨d, d1, d2⟩ | ⟨d, d1⟩
    · omega
    rw [q_bd (show fX10_isIn σM x3.toInt64 0 2 = some 0 from d), if_pos rfl] at eM
    cases eC; cases eM
    rfl
  rw [if_neg c] at eC
  by_cases k : x3 ≤ 2
  · have k' := Int32.le_iff_toInt_le.mp k
    rw [if_pos k, q_bd eτ] at eC
    rcases in_32 σM x3 0 2 with ⟨d, d1, d2⟩ | ⟨d, d1⟩
    rotate_left
    · omega
    rw [q_bd (show fX10_isIn σM x3.toInt64 0 2 = some 1 from d), if_neg one_ne, q_bd t1, nm_eq] at eM
    by_cases z : x3 = 0
    · rw [if_pos z, q_gd g1, q_gd g2, nm_eq, n_toInt, n_toInt] at eC
      rw [if_pos z] at eM
      cases eC; cases eM
      rfl
    rw [if_neg z, q_gd g1, q_gd g2, nm_eq, n_toInt, n_toInt] at eC
    rw [if_neg z] at eM
    by_cases y : τ.1 (155 + x1.toInt.toNat) x2.toInt.toNat = 0
    · rw [if_pos y] at eC eM
      cases eC; cases eM
      rfl
    have yp : 0 < (τ.1 (155 + x1.toInt.toNat) x2.toInt.toNat).toInt := by
      have : (τ.1 (155 + x1.toInt.toNat) x2.toInt.toNat).toInt ≠ 0 := fun w => y (Int32.toInt_inj.mp (by omega))
      omega
    have z' : x3.toInt ≠ 0 := fun w => z (Int32.toInt_inj.mp (by omega))
    have e31 : (x3 - 1).toInt = x3.toInt - 1 := by rw [isub_toInt] <;> omega
    obtain ⟨x, s1, s2, -⟩ := sv_st G v.2.2 p1 p2 ne (k := x3 - 1) (ax_2 (by omega) (by omega)) yp
    rw [if_neg y, q_bd s1] at eC
    rw [if_neg y, q_bd s2] at eM
    cases eC; cases eM
    rfl
  · have k' := q_gt k
    rw [if_neg k] at eC
    rcases in_32 σM x3 0 2 with ⟨d, d1, d2⟩ | ⟨d, d1⟩
    · omega
    rw [q_bd (show fX10_isIn σM x3.toInt64 0 2 = some 0 from d), if_pos rfl] at eM
    cases eC; cases eM
    rfl
theorem le0 {v : Int32} (h : 0 ≤ v.toInt) : (v ≤ 0 ∧ ¬ 0 < v.toInt) ∨ (¬ v ≤ 0 ∧ 0 < v.toInt) := by
  have z0' := z0
  by_cases z : v ≤ 0
  · exact .inl ⟨z, by have := Int32.le_iff_toInt_le.mp z; omega⟩
  · exact .inr ⟨z, by have := q_gt z; omega⟩
/-- a loop: on both sides, once the three are unlike -/
theorem sv_loop {σ s τ : gS} (h : GT σ s) (v : TA s τ) {p1 p2 p3 : Int32} (a : 0 ≤ p1.toInt ∧ p1.toInt < (s.1 15 7).toInt) (c : 0 ≤ p2.toInt ∧ p2.toInt < (s.1 15 7).toInt) (d : 0 ≤ p3.toInt ∧ p3.toInt < (s.1 15 7).toInt) (n1 : p1.toInt.toNat ≠ p2.toInt.toNat) (n2 : p2.toInt.toNat ≠ p3.toInt.toNat) (n3 : p3.toInt.toNat ≠ p1.toInt.toNat) : (fX7_isLoop τ p1 p2 p3 = some 0 ∧ fX10_isLoop s p1 p2 p3 = some 0) ∨ ((fX7_isLoop τ p1 p2 p3 = some 1 ∧ fX10_isLoop s p1 p2 p3 = some 1) ∧ ∀ k : Int32, (k = 0 ∨ k = 1) → ∃ x : Int32, fX7_loopOf τ p1 p2 p3 k = some x ∧ fX10_loopOf s p1 p2 p3 k = some x ∧ -6000000 ≤ x.toInt ∧ x.toInt ≤ 6000000) := by
  have b7 := (gt_n h).2.2.1
  have two : ∀ p q : Int32, (0 ≤ p.toInt ∧ p.toInt < (s.1 15 7).toInt) → (0 ≤ q.toInt ∧ q.toInt < (s.1 15 7).toInt) → p.toInt.toNat ≠ q.toInt.toNat → fX10_areTwo s p q = some 1 := fun p q hp hq hn => by
    rcases un_2 h p q with ⟨x, y⟩ | ⟨⟨x, y⟩, -⟩
    · exfalso
      unfold fX9_areUnlike at x
      rw [if_neg (fun w => hn (by rw [w]))] at x
      rcases pic_2 h p with ⟨u, u'⟩ | ⟨⟨u, u'⟩, -⟩
      · rcases m_isPic b7 p with ⟨w, -⟩ | ⟨w, w'⟩
        · rw [u'] at w; exact one_ne (Option.some.inj w).symm
        · exact w' hp
      rw [q_bd u, if_neg one_ne] at x
      rcases pic_2 h q with ⟨u, u'⟩ | ⟨⟨u, u'⟩, -⟩
      · rcases m_isPic b7 q with ⟨w, -⟩ | ⟨w, w'⟩
        · rw [u'] at w; exact one_ne (Option.some.inj w).symm
        · exact w' hq
      rw [q_bd u, if_neg one_ne] at x
      exact one_ne (Option.some.inj x)
    · exact y
  have g1 := gb_of (i := p1) (n := 12) a.1 (by omega)
  have g2 := gb_of (i := p2) (n := 12) c.1 (by omega)
  have g3 := gb_of (i := p3) (n := 12) d.1 (by omega)
  obtain ⟨t1, s1, -⟩ := sv_tp h v a c n1
  obtain ⟨t2, s2, -⟩ := sv_tp h v c d n2
  obtain ⟨t3, s3, -⟩ := sv_tp h v d a n3
  unfold fX7_isLoop fX10_isLoop
  rw [q_gd g1, q_gd g2, nm_eq, n_toInt, n_toInt, q_bd (two p1 p2 a c n1), if_neg one_ne, q_bd (two p2 p3 c d n2), if_neg one_ne, q_bd (two p3 p1 d a n3), if_neg one_ne, q_bd t1]
  rcases le0 s1 with ⟨z1, -⟩ | ⟨z1, y1⟩
  · rw [if_pos z1, if_pos z1]; exact .inl ⟨rfl, rfl⟩
  rw [if_neg z1, if_neg z1, q_gd g2, q_gd g3, nm_eq, n_toInt, q_bd t2]
  rcases le0 s2 with ⟨z2, -⟩ | ⟨z2, y2⟩
  · rw [if_pos z2, if_pos z2]; exact .inl ⟨rfl, rfl⟩
  rw [if_neg z2, if_neg z2, q_gd g3, q_gd g1, nm_eq, q_bd t3]
  rcases le0 s3 with ⟨z3, -⟩ | ⟨z3, y3⟩
  · rw [if_pos z3]; exact .inl ⟨rfl, rfl⟩
  rw [if_neg z3]
  refine .inr ⟨⟨rfl, rfl⟩, fun k hk => ?_⟩
  obtain ⟨x1, u1, v1, w1⟩ := sv_st h v a c n1 hk y1
  obtain ⟨x2, u2, v2, w2⟩ := sv_st h v c d n2 hk y2
  obtain ⟨x3, u3, v3, w3⟩ := sv_st h v d a n3 hk y3
  have e1 : (x1 + x2).toInt = x1.toInt + x2.toInt := by rw [iadd_toInt] <;> omega
  have e2 : (x1 + x2 + x3).toInt = x1.toInt + x2.toInt + x3.toInt := by rw [iadd_toInt] <;> omega
  unfold fX7_loopOf fX10_loopOf
  rw [q_bd u1, q_bd u2, q_bd u3, q_bd v1, q_bd v2, q_bd v3]
  exact ⟨_, rfl, rfl, by omega, by omega⟩
theorem a_24 {σC σM : gS} (h : IG σC σM) (x1 x2 x3 x4 : Int32) : ∃ (oc : Int32 × gS) (om : Int32), fX9_loop σC x1 x2 x3 x4 = some oc ∧ fX10_loop σM x1 x2 x3 x4 = some om ∧ oc.1 = om ∧ IG oc.2 σM := by
  obtain ⟨oc, om, eC, eM, hI⟩ := e_24 h x1 x2 x3 x4
  refine ⟨oc, om, eC, eM, ?_, hI⟩
  have G := gt_ig h
  unfold fX9_loop at eC
  unfold fX10_loop at eM
  rcases c_axis2 σC x4 with ⟨c, ha⟩ | ⟨c, ha⟩ <;> rcases m_axis2 σM x4 with ⟨d, hb⟩ | ⟨d, hb⟩
  · rw [q_bd c, if_neg one_ne] at eC
    rw [q_bd d, if_neg one_ne] at eM
    rcases un_2 G x1 x2 with ⟨a, b⟩ | ⟨⟨a, b⟩, p1, p2, n1⟩
    · rw [q_bd a, if_pos rfl] at eC
      unfold fX10_isLoop at eM
      rw [q_bd b, if_pos rfl, bd_so, if_pos rfl] at eM
      cases eC; cases eM
      rfl
    rw [q_bd a, if_neg one_ne] at eC
    rcases un_2 G x2 x3 with ⟨a2, b2⟩ | ⟨⟨a2, b2⟩, -, p3, n2⟩
    · rw [q_bd a2, if_pos rfl] at eC
      unfold fX10_isLoop at eM
      rw [q_bd b, if_neg one_ne, q_bd b2, if_pos rfl, bd_so, if_pos rfl] at eM
      cases eC; cases eM
      rfl
    rw [q_bd a2, if_neg one_ne] at eC
    rcases un_2 G x3 x1 with ⟨a3, b3⟩ | ⟨⟨a3, b3⟩, -, -, n3⟩
    · rw [q_bd a3, if_pos rfl] at eC
      unfold fX10_isLoop at eM
      rw [q_bd b, if_neg one_ne, q_bd b2, if_neg one_ne, q_bd b3, if_pos rfl, bd_so, if_pos rfl] at eM
      cases eC; cases eM
      rfl
    obtain ⟨τ, eτ, v⟩ := k_survey G
    rw [q_bd a3, if_neg one_ne, q_bd eτ] at eC
    rcases sv_loop G v.2.2 p1 p2 p3 n1 n2 n3 with ⟨q1, q2⟩ | ⟨⟨q1, q2⟩, q3⟩
    · rw [q_bd q1, if_pos rfl] at eC
      rw [q_bd q2, if_pos rfl] at eM
      cases eC; cases eM
      rfl
    · obtain ⟨x, w1, w2, -⟩ := q3 x4 ha
      rw [q_bd q1, if_neg one_ne, q_bd w1] at eC
      rw [q_bd q2, if_neg one_ne, q_bd w2] at eM
      cases eC; cases eM
      rfl
  · exact absurd ha hb
  · exact absurd hb ha
  · rw [q_bd c, if_pos rfl] at eC
    rw [q_bd d, if_pos rfl] at eM
    cases eC; cases eM
    rfl
end P12ZZA
