/-! WHAT IS ASKED: has, picture, point, drift -/
section P12ZQ
theorem qa_gt {σ s : gS} (h : GT σ s) : QA σ s := ⟨(tr_n h.2.2.1).2.1, (gt_n h).2.1, fun j hj => ⟨(h.2.2.1.2.2.2.1 j hj).1, (h.2.2.1.2.2.2.1 j hj).2.1, (h.2.2.1.2.2.2.1 j hj).2.2.1⟩⟩
theorem dropped_2 {σ s : gS} (h : GT σ s) : Re (fX9_countDropped σ) (fX10_dropped s) (fun a b => a = b) := by
  obtain ⟨b9, b8, b7, b6⟩ := gt_n h
  have z0' := z0
  have e3 : σ.1 3 ((3 : Int32).toNatClampNeg) = s.1 15 9 := (tr_n h.2.2.1).1
  unfold fX9_countDropped fX10_dropped
  rw [nm_eq, nm_eq, nm_eq, nm_eq]
  refine re_lpc (I := fun (n : Nat) (x y : Int32 × Int32) => n = ((s.1 15 9).toInt - y.2.toInt).toNat ∧ 0 ≤ y.2.toInt ∧ y.2.toInt ≤ (s.1 15 9).toInt ∧ x = y) (fun f g n x y hs hrec => ?_) K9 K9 (s.1 15 9).toInt.toNat (0, 0) (0, 0) ⟨by dsimp only; omega, by dsimp only; omega, by dsimp only; omega, rfl⟩ (by unfold K9; omega) (by unfold K9; omega)
  obtain ⟨c, r⟩ := y
  obtain ⟨hn, r0, r1, ex⟩ := hs
  subst ex
  dsimp only at hn r0 r1 ⊢
  unfold bX9_countDropped_4 bX10_dropped_4
  simp only [nm_eq]
  rw [q_gd (by decide), e3, q_bd (m_rows s)]
  by_cases hk : s.1 15 9 ≤ r
  · rw [if_pos hk, if_pos hk]
    exact ⟨_, _, rfl, rfl, rfl⟩
  have hlt := q_gt hk
  have ei := i_inc (a := r) (c := 60) (by omega) (by omega) (by decide)
  have D := h.2.2.2.2.2.2.2.2.2.1 r.toInt.toNat (by omega)
  have go : ∀ c1 : Int32, Re (f (c1, r + 1)) (g (c1, r + 1)) (fun a b => a = b) := fun c1 => hrec ((s.1 15 9).toInt - (r + 1).toInt).toNat _ _ (by omega) ⟨rfl, by dsimp only; omega, by dsimp only; omega, rfl⟩
  rw [if_neg hk, if_neg hk, q_bd (c_usesK σ r0 (by omega)), D.1, q_gd (gb_of r0 (by omega)), n_toInt]
  by_cases u : s.1 26 r.toInt.toNat = 0
  · rw [if_pos u, if_neg one_ne, if_pos u]; exact go c
  · rw [if_neg u, if_pos rfl, if_neg u]; exact go (c + 1)
theorem has_52 {σ s : gS} (h : GT σ s) {p : Int32} (p0 : 0 ≤ p.toInt) (p1 : p.toInt ≤ 5) : jX10_has_52 s p = some (σ.1 3 p.toInt.toNat) := by
  have l6 : (6 : Int32).toInt = 6 := by decide
  have e : (6 + p).toInt = 6 + p.toInt := by rw [iadd_toInt] <;> omega
  unfold jX10_has_52
  rw [q_gd (gb_of (by omega) (by omega)), nm_eq, show (6 + p).toNatClampNeg = 6 + p.toInt.toNat by rw [n_toInt]; omega, ← h.2.2.1.1 p.toInt.toNat (by omega)]
theorem a_4 {σC σM : gS} (h : IG σC σM) (x1 : Int32) : ∃ (oc : Int32) (om : Int32), fX9_has σC x1 = some oc ∧ fX10_has σM x1 = some om ∧ oc = om ∧ IG σC σM := by
  have G := gt_ig h
  have z0' := z0
  have l1 : (1 : Int32).toInt = 1 := by decide
  have l2 : (2 : Int32).toInt = 2 := by decide
  have l3 : (3 : Int32).toInt = 3 := by decide
  have l4 : (4 : Int32).toInt = 4 := by decide
  have l5 : (5 : Int32).toInt = 5 := by decide
  have l6 : (6 : Int32).toInt = 6 := by decide
  have l7 : (7 : Int32).toInt = 7 := by decide
  have l8 : (8 : Int32).toInt = 8 := by decide
  unfold fX9_has fX10_has
  have small : 0 ≤ x1.toInt → x1.toInt ≤ 5 → ∃ (oc : Int32) (om : Int32), (if x1 < 0 then jX9_has_19 σC x1 else if 5 < x1 then jX9_has_19 σC x1 else gd (gb x1 6) <| nm (σC.1 3 x1.toNatClampNeg) fun v10 => some v10) = some oc ∧ jX10_has_52 σM x1 = some om ∧ oc = om ∧ IG σC σM := fun p0 p1 => by
    rw [has_52 G p0 p1, if_neg (show ¬ x1 < 0 from fun y => by have := Int32.lt_iff_toInt_lt.mp y; omega), if_neg (show ¬ 5 < x1 from fun y => by have := Int32.lt_iff_toInt_lt.mp y; omega), q_gd (gb_of p0 (by omega)), nm_eq, n_toInt]
    exact ⟨_, _, rfl, rfl, rfl, h⟩
  by_cases c0 : x1 = 0
  · rw [if_pos c0]; exact small (by rw [c0]; decide) (by rw [c0]; decide)
  rw [if_neg c0]
  by_cases c1 : x1 = 1
  · rw [if_pos c1]; exact small (by rw [c1]; decide) (by rw [c1]; decide)
  rw [if_neg c1]
  by_cases c2 : x1 = 2
  · rw [if_pos c2]; exact small (by rw [c2]; decide) (by rw [c2]; decide)
  rw [if_neg c2]
  by_cases c3 : x1 = 3
  · rw [if_pos c3]; exact small (by rw [c3]; decide) (by rw [c3]; decide)
  rw [if_neg c3]
  by_cases c4 : x1 = 4
  · rw [if_pos c4]; exact small (by rw [c4]; decide) (by rw [c4]; decide)
  rw [if_neg c4]
  by_cases c5 : x1 = 5
  · rw [if_pos c5]; exact small (by rw [c5]; decide) (by rw [c5]; decide)
  rw [if_neg c5]
  have big : ∀ X : Option Int32, (if x1 < 0 then jX9_has_19 σC x1 else if 5 < x1 then jX9_has_19 σC x1 else X) = jX9_has_19 σC x1 := fun X => by
    by_cases a : x1 < 0
    · exact if_pos a
    rw [if_neg a]
    have a' : ¬ x1.toInt < 0 := fun y => a (Int32.lt_iff_toInt_lt.mpr (by omega))
    by_cases b : 5 < x1
    · exact if_pos b
    have b' : ¬ 5 < x1.toInt := fun y => b (Int32.lt_iff_toInt_lt.mpr (by omega))
    have ne : ∀ k : Int32, ¬ x1 = k → x1.toInt ≠ k.toInt := fun k hk y => hk (Int32.toInt_inj.mp y)
    have n0 := ne 0 c0
    have n1 := ne 1 c1
    have n2 := ne 2 c2
    have n3 := ne 3 c3
    have n4 := ne 4 c4
    have n5 := ne 5 c5
    omega
  rw [big]
  unfold jX9_has_19
  by_cases c6 : x1 = 6
  · obtain ⟨a, b, ea, eb, e⟩ := dropped_2 G
    rw [if_pos c6, if_pos c6, q_bd ea, q_bd eb]
    exact ⟨_, _, rfl, rfl, e, h⟩
  rw [if_neg c6, if_neg c6]
  by_cases c7 : x1 = 7
  · rw [if_pos c7, if_pos c7]
    exact ⟨_, _, rfl, rfl, h.2.1, h⟩
  rw [if_neg c7, if_neg c7]
  by_cases c8 : x1 = 8
  · obtain ⟨a, b, ea, eb, e⟩ := cnt_alike (qa_gt G) h.2.1 rfl h.2.2.1
    rw [if_pos c8, if_pos c8, q_bd ea, q_bd eb]
    exact ⟨_, _, rfl, rfl, e, h⟩
  rw [if_neg c8, if_neg c8]
  exact ⟨_, _, rfl, rfl, rfl, h⟩
end P12ZQ
