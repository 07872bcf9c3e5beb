/-! THE TREE, 2: the search for the strongest tie -/
section P12ZZD
theorem rw_m {s t : gS} (f : ∀ j, j ≠ 34 → j ≠ 35 → j ≠ 36 → t.1 j = s.1 j) (p q : Int32) : RW9 t p q = RW9 s p q := RW9_eq (fun k hk => by rcases hk with rfl | rfl | rfl | rfl <;> exact f _ (by decide) (by decide) (by decide)) p q
/-- the search so far -/
noncomputable def SI (s κ0 t : gS) (k : Int32) (κ : gS) (a1 a3 a4 : Int32) : Prop := (a3 = -1 ∧ a1 = 0 ∧ κ = κ0) ∨ ((0 ≤ a3.toInt ∧ a3.toInt < (s.1 15 7).toInt) ∧ (0 ≤ a4.toInt ∧ a4.toInt < (s.1 15 7).toInt) ∧ a1 = tC s a3 a4 (s.1 15 8).toInt.toNat ∧ 0 < a1.toInt ∧ (∀ j, j ≠ 194 → j ≠ 195 → κ.1 j = κ0.1 j) ∧ (∀ b, b ≠ k.toInt.toNat → κ.1 194 b = κ0.1 194 b ∧ κ.1 195 b = κ0.1 195 b) ∧ κ.1 194 k.toInt.toNat = a3 ∧ κ.1 195 k.toInt.toNat = a4 ∧ t.1 35 a3.toInt.toNat ≠ t.1 35 a4.toInt.toNat)
set_option maxHeartbeats 1000000 in
theorem round_t {σ s τ κ0 t : gS} {k : Int32} (hG : GT σ s) (v : TA s τ) (e7 : τ.1 3 1 = s.1 15 7) (h : TGr s τ κ0 t k) {g : Int32 × Int32 × gS → Option (Int32 × gS)} {R : Int32 × gS → Int32 × gS → Prop} (no : Re (some ((0 : Int32), κ0)) (g (k, 0, t)) R) (go : ∀ κ' t', TGr s τ κ' t' (k + 1) → Re (some ((1 : Int32), κ')) (g (k + 1, 1, t')) R) : Re (fX7_addBranch κ0) (lpc (S := Int32 × Int32 × Int32) K9 (fun rec x => bX10_treeOf_37 t k (fun a1 a2 σ1 => g (a1, a2, σ1)) (fun a3 a4 a5 => rec (a3, a4, a5)) x.1 x.2.1 x.2.2) (-1, -1, 0)) R := by
  obtain ⟨b9, b8, b7, b6⟩ := gt_n hG
  have h' := h
  obtain ⟨h1, h2, h3, h4, h5, h6, h7, h8, h9, h10, h11, h12, h13⟩ := h
  have z0' := z0
  have l1 : (1 : Int32).toInt = 1 := by decide
  have lm : (-1 : Int32).toInt = -1 := by decide
  have t15 : t.1 15 = s.1 15 := h2 15 (by decide) (by decide) (by decide)
  have hT := GT_m hG h2 h3 h4
  have tp : ∀ a b : Int32, fX10_tiePoints t a b = some (tC s a b (s.1 15 8).toInt.toNat) := fun a b => by
    rw [m_tp hT a b, t15, tC_eq (rw_m h2)]
  have gk := gb_of (i := k) (n := 12) h6 (by omega)
  -- one pair
  unfold fX7_addBranch
  rw [nm_eq, nm_eq]
  refine re_lpc (I := fun (n : Nat) (x : Int32 × Int32 × gS) (y : Int32 × Int32 × Int32) => n = ((s.1 15 7).toInt - y.2.2.toInt).toNat ∧ 0 ≤ y.2.2.toInt ∧ y.2.2.toInt ≤ (s.1 15 7).toInt ∧ x.2.1 = y.2.2 ∧ SI s κ0 t k x.2.2 x.1 y.1 y.2.1) (fun F G n x y hs hrec => ?_) K9 K9 (s.1 15 7).toInt.toNat (0, 0, κ0) (-1, -1, 0) ⟨by dsimp only; omega, by dsimp only; omega, by dsimp only; omega, rfl, .inl ⟨rfl, rfl, rfl⟩⟩ (by unfold K9; omega) (by unfold K9; omega)
  obtain ⟨a1, i', κ⟩ := x
  obtain ⟨a3, a4, i⟩ := y
  obtain ⟨hn, i0, i1, ei, si⟩ := hs
  dsimp only at hn i0 i1 ei si ⊢
  subst ei
  have kap : ∀ (κ : gS) a1 a3 a4, SI s κ0 t k κ a1 a3 a4 → ∀ j, j ≠ 194 → j ≠ 195 → κ.1 j = κ0.1 j := fun κ a1 a3 a4 si j j1 j2 => by
    rcases si with ⟨-, -, e⟩ | ⟨-, -, -, -, e, -⟩
    · rw [e]
    · exact e j j1 j2
  have e3 : ∀ (κ : gS) a1 a3 a4, SI s κ0 t k κ a1 a3 a4 → κ.1 3 ((1 : Int32).toNatClampNeg) = s.1 15 7 := fun κ a1 a3 a4 si => by
    rw [kap κ a1 a3 a4 si 3 (by decide) (by decide), h1 3 (by decide) (by decide) (by decide) (by decide)]
    exact e7
  unfold bX7_addBranch_4 bX10_treeOf_37
  rw [q_gd (show gb 1 6 = true by decide), nm_eq, e3 κ a1 a3 a4 si, q_bd (m_pictures t), t15]
  by_cases hk : s.1 15 7 ≤ i'
  · rw [if_pos hk, if_pos hk]
    unfold jX10_treeOf_144
    rcases si with ⟨s1, s2, s3⟩ | ⟨s1, s2, s3, s4, s5, s6, s7, s8, s9⟩
    · rw [s1, s2, s3, if_pos rfl, if_pos rfl, nm_eq, if_pos rfl]
      exact no
    · have n1 : ¬ a1 = 0 := fun z => by rw [z] at s4; omega
      have n3 : ¬ a3 = -1 := fun z => by rw [z] at s1; omega
      have cn : (κ.1 140 10) = k := by rw [s5 140 (by decide) (by decide)]; exact h5
      have c193 : ∀ j : Nat, j < 12 → κ.1 193 j = t.1 35 j := fun j hj => by rw [s5 193 (by decide) (by decide)]; exact h7 j hj
      have T2 : TGr s τ κ t k := ⟨fun j j1 j2 j3 j4 => by rw [s5 j j3 j4]; exact h1 j j1 j2 j3 j4, h2, h3, h4, cn, h6, c193, h8, h9, h10, h11, h12, fun b hb => by
        rw [(s6 b (by omega)).1, (s6 b (by omega)).2]
        exact h13 b hb⟩
      rw [if_neg n1, if_neg n3, cn, q_gd gk, nm_eq, n_toInt, s8, q_gd (gb_of s2.1 (by omega)), nm_eq, nm_eq, q_gd gk, nm_eq, s7, q_gd (gb_of s1.1 (by omega)), nm_eq, nm_eq, nm_eq, n_toInt, n_toInt, c193 _ (by omega), c193 _ (by omega), nm_eq, if_neg one_ne, q_gd gk, nm_eq, nm_eq, q_gd (gb_of s2.1 (by omega)), nm_eq, nm_eq, nm_eq, gsI_row (show 35 ≠ 34 by decide)]
      exact merge_2 b7.2 T2 s1.1 s1.2 s2.1 s2.2 ⟨s7, s8⟩ s9 go
  have hlt := q_gt hk
  have e1 := i_inc (a := i') (c := 60) (by omega) (by omega) (by decide)
  rw [if_neg hk, if_neg hk, nm_eq, nm_eq]
  refine re_lpc (I := fun (n : Nat) (x : Int32 × Int32 × gS) (y : Int32 × Int32 × Int32) => n = ((s.1 15 7).toInt - y.2.2.toInt).toNat ∧ i'.toInt + 1 ≤ y.2.2.toInt ∧ y.2.2.toInt ≤ (s.1 15 7).toInt ∧ x.2.1 = y.2.2 ∧ SI s κ0 t k x.2.2 x.1 y.1 y.2.1) (fun F2 G2 n x y hs hrec2 => ?_) K9 K9 ((s.1 15 7).toInt - (i' + 1).toInt).toNat (a1, i' + 1, κ) (a3, a4, i' + 1) ⟨rfl, by dsimp only; omega, by dsimp only; omega, rfl, si⟩ (by unfold K9; omega) (by unfold K9; omega)
  clear si
  obtain ⟨a1, j', κ⟩ := x
  obtain ⟨a3, a4, j⟩ := y
  obtain ⟨hm, j0, j1, ej, si⟩ := hs
  dsimp only at hm j0 j1 ej si ⊢
  subst ej
  unfold bX7_addBranch_21 bX10_treeOf_52
  rw [q_gd (show gb 1 6 = true by decide), nm_eq, e3 κ a1 a3 a4 si, q_bd (m_pictures t), t15]
  by_cases hj : s.1 15 7 ≤ j'
  · rw [if_pos hj, if_pos hj, nm_eq, nm_eq]
    exact hrec ((s.1 15 7).toInt - (i' + 1).toInt).toNat (a1, i' + 1, κ) (a3, a4, i' + 1) (by omega) ⟨rfl, by dsimp only; omega, by dsimp only; omega, rfl, si⟩
  have hlt2 := q_gt hj
  have e2 := i_inc (a := j') (c := 60) (by omega) (by omega) (by decide)
  have gi := gb_of (i := i') (n := 12) i0 (by omega)
  have gj := gb_of (i := j') (n := 12) (by omega) (by omega)
  have c193 : ∀ j : Nat, j < 12 → κ.1 193 j = t.1 35 j := fun j hj => by rw [kap κ a1 a3 a4 si 193 (by decide) (by decide)]; exact h7 j hj
  have cn : (κ.1 140 10) = k := by rw [kap κ a1 a3 a4 si 140 (by decide) (by decide)]; exact h5
  have tie : κ.1 (155 + i'.toInt.toNat) j'.toInt.toNat = tC s i' j' (s.1 15 8).toInt.toNat := by
    rw [kap κ a1 a3 a4 si _ (by omega) (by omega), h1 _ (by omega) (by omega) (by omega) (by omega)]
    have := (v i'.toInt.toNat j'.toInt.toNat (by omega) (by omega) (by omega)).1
    rw [i32_of i0, i32_of (by omega)] at this
    exact this
  have tin := tC_in s i' j' (s.1 15 8).toInt.toNat (by omega)
  have nx : ∀ (κ : gS) (a1 a3 a4 : Int32), SI s κ0 t k κ a1 a3 a4 → Re (F2 (a1, j' + 1, κ)) (G2 (a3, a4, j' + 1)) R := fun κ a1 a3 a4 si => hrec2 ((s.1 15 7).toInt - (j' + 1).toInt).toNat (a1, j' + 1, κ) (a3, a4, j' + 1) (by omega) ⟨rfl, by dsimp only; omega, by dsimp only; omega, rfl, si⟩
  rw [if_neg hj, if_neg hj]
  simp only [nm_eq, q_gd gi, q_gd gj]
  rw [n_toInt, n_toInt, c193 _ (by omega), c193 _ (by omega), tie]
  by_cases y : t.1 35 i'.toInt.toNat = t.1 35 j'.toInt.toNat
  · rw [if_pos y, if_pos y]
    exact nx κ a1 a3 a4 si
  rw [if_neg y, if_neg y, tp]
  obtain ⟨w, hw⟩ : ∃ w, w = tC s i' j' (s.1 15 8).toInt.toNat := ⟨_, rfl⟩
  rw [← hw] at tin ⊢
  rw [bd_so]
  have take : 0 < w.toInt → SI s κ0 t k (gsI (gsI κ 194 k.toInt.toNat i') 195 k.toInt.toNat j') w i' j' := fun hp => .inr ⟨⟨i0, hlt⟩, ⟨by omega, hlt2⟩, hw, hp, fun j j1 j2 => by rw [gsI_row j2, gsI_row j1]; exact kap κ a1 a3 a4 si j j1 j2, fun b hb => by
    rw [gsI_row (show 194 ≠ 195 by decide), gsI_at, if_neg hb, gsI_at, if_neg hb, gsI_row (show 195 ≠ 194 by decide)]
    rcases si with ⟨-, -, e⟩ | ⟨-, -, -, -, -, e, -⟩
    · rw [e]; exact ⟨rfl, rfl⟩
    · exact e b hb, by rw [gsI_row (show 194 ≠ 195 by decide), gsI_at, if_pos rfl], by rw [gsI_at, if_pos rfl], y⟩
  have cn2 : (gsI κ 194 k.toInt.toNat i').1 140 10 = k := by rw [gsI_row (by decide)]; exact cn
  by_cases wz : w = 0
  · rw [if_pos wz]
    have q : ¬ a1 < w := fun z => by
      have := Int32.lt_iff_toInt_lt.mp z
      rw [wz] at this
      rcases si with ⟨-, e, -⟩ | ⟨-, -, -, e, -⟩
      · rw [e] at this; omega
      · omega
    rw [if_neg q]
    exact nx κ a1 a3 a4 si
  have wp : 0 < w.toInt := by
    have : w.toInt ≠ 0 := fun z => wz (Int32.toInt_inj.mp (by omega))
    omega
  rw [if_neg wz]
  have si' := si
  rcases si' with ⟨q1, q2, q3⟩ | ⟨s1, s2, s3, s4, -⟩
  · rw [if_pos q1, if_pos (show a1 < w from Int32.lt_iff_toInt_lt.mpr (by rw [q2]; omega)), cn, q_gd gk, n_toInt, cn2, q_gd gk, n_toInt]
    exact nx _ w i' j' (take wp)
  · have n3 : ¬ a3 = -1 := fun z => by rw [z] at s1; omega
    rw [if_neg n3, bd_so, tp, bd_so, ← s3]
    by_cases z : a1 < w
    · rw [if_pos z, if_pos z, cn, q_gd gk, n_toInt, cn2, q_gd gk, n_toInt]
      exact nx _ w i' j' (take wp)
    · rw [if_neg z, if_neg z]
      exact nx κ a1 a3 a4 si
end P12ZZD
