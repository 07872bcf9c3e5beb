/-! THE PLAN, 2: plan -/
section P12ZZG
theorem m_zero {s : gS} (jM : JM s) {g : gS → Option (Int32 × gS)} {R : Int32 × gS → Prop} (go : ∀ t : gS, (∀ j, j ≠ 36 → t.1 j = s.1 j) → t.2 = s.2 → JM t → (∀ r : Nat, r < 60 → t.1 36 r = 0) → Ok (g t) R) (n : Int32) (hg : ∀ t, (bd2 (fX10_treeOf t) fun r7 σ8 => nm (r7 : Int32) fun x9 => nm (0 : Int32) fun x10 => lpc (S := Int32 × gS) K9 (fun rec s => bX10_plan_42 σ8 n x9 (fun a3 σ1 => rec (a3, σ1)) s.1 s.2) (x10, σ8)) = g t) : Ok (lpc (S := Int32 × gS) K9 (fun rec x => bX10_plan_16 s n (fun a2 σ1 => rec (a2, σ1)) x.1 x.2) (0, s)) R := by
  have z0' := z0
  have l1 : (1 : Int32).toInt = 1 := by decide
  have l60 : (60 : Int32).toInt = 60 := by decide
  refine ok_lpc (I := fun (m : Nat) (y : Int32 × gS) => m = (60 - y.1.toInt).toNat ∧ 0 ≤ y.1.toInt ∧ y.1.toInt ≤ 60 ∧ (∀ j, j ≠ 36 → y.2.1 j = s.1 j) ∧ y.2.2 = s.2 ∧ JM y.2 ∧ ∀ r : Nat, (r : Int) < y.1.toInt → y.2.1 36 r = 0) (fun G m y hs hrec => ?_) K9 60 (0, s) ⟨by dsimp only; omega, by dsimp only; omega, by dsimp only; omega, fun _ _ => rfl, rfl, jM, fun r hr => absurd hr (by dsimp only; omega)⟩ (by unfold K9; omega)
  obtain ⟨i, t⟩ := y
  obtain ⟨hm, i0, i1, p1, p2, p3, p4⟩ := hs
  dsimp only at hm i0 i1 p1 p2 p3 p4 ⊢
  unfold bX10_plan_16
  refine ok_ite.mpr ⟨fun hk => ?_, fun hk => ?_⟩
  · have hk' := Int32.le_iff_toInt_le.mp hk
    rw [hg]
    exact go t p1 p2 p3 (fun r hr => p4 r (by omega))
  have hlt := q_gt hk
  have e1 := i_inc (a := i) (c := 60) (by omega) (by omega) (by decide)
  rw [q_gd (gb_of i0 (by omega)), nm_eq, nm_eq, nb0, n_toInt]
  refine hrec (60 - (i + 1).toInt).toNat (i + 1, _) (by omega) ⟨rfl, by dsimp only; omega, by dsimp only; omega, fun j hj => (gsI_row hj).trans (p1 j hj), p2, JM_w p3 (Int32.le_toInt _) (Int32.toInt_le _), fun r hr => ?_⟩
  dsimp only at hr ⊢
  rw [gsI_at]
  by_cases z : r = i.toInt.toNat
  · rw [if_pos z]
  · rw [if_neg z]; exact p4 r (by omega)
theorem a_27 {σC σM : gS} (h : IG σC σM) (x1 : Int32) : ∃ (oc : Int32 × gS) (om : Int32 × gS), fX9_plan σC x1 = some oc ∧ fX10_plan σM x1 = some om ∧ oc.1 = om.1 ∧ IG oc.2 om.2 := by
  obtain ⟨oc, om, eC, eM, hI⟩ := e_27 h x1
  refine ⟨oc, om, eC, eM, ?_, hI⟩
  have G := gt_ig h
  have z0' := z0
  have l1 : (1 : Int32).toInt = 1 := by decide
  have l20 : (20 : Int32).toInt = 20 := by decide
  unfold fX9_plan at eC
  unfold fX10_plan at eM
  rcases lt_or x1 1 with ⟨c, c'⟩ | ⟨c, c'⟩
  · rw [if_pos c] at eC
    rcases in_32 σM x1 1 20 with ⟨d, d1, d2⟩ | ⟨d, d1⟩
    · omega
    rw [q_bd (show fX10_isIn σM x1.toInt64 1 20 = some 0 from d), if_pos rfl] at eM
    cases eC; cases eM
    rfl
  rw [if_neg c] at eC
  by_cases k : x1 ≤ 20
  · have k' := Int32.le_iff_toInt_le.mp k
    rw [if_pos k] at eC
    rcases in_32 σM x1 1 20 with ⟨d, d1, d2⟩ | ⟨d, d1⟩
    rotate_left
    · omega
    rw [q_bd (show fX10_isIn σM x1.toInt64 1 20 = some 1 from d), if_neg one_ne, nm_eq] at eM
    obtain ⟨τ, eτ, v⟩ := k_survey G
    have key := m_zero (s := σM) h.1.2.1 (n := x1) (g := fun t => bd2 (fX10_treeOf t) fun r7 σ8 => nm (r7 : Int32) fun x9 => nm (0 : Int32) fun x10 => lpc (S := Int32 × gS) K9 (fun rec s => bX10_plan_42 σ8 x1 x9 (fun a3 σ1 => rec (a3, σ1)) s.1 s.2) (x10, σ8)) (R := fun o => oc.1 = o.1) (fun t q1 q2 q3 q4 => by
      obtain ⟨κ, o, eκ, eo, T⟩ := tree_2 (t0 := t) G v (fun j _ _ j3 => q1 j j3) q2 q3
      obtain ⟨o', eo', -, F, -⟩ := o_fX10_treeOf q3
      rw [eo] at eo'
      cases eo'
      have z36 : ∀ r : Nat, r < 60 → o.2.1 36 r = 0 := fun r hr => by
        rw [Fr_row F 36 (by decide)]
        exact q4 r hr
      obtain ⟨a, b, ea, eb, e⟩ := plan_2 (n := x1) G v T z36
      rw [q_bd eτ, q_bd eκ, q_bd2 ea] at eC
      cases eC
      dsimp only
      rw [q_bd2 eo, nm_eq, nm_eq, eb]
      exact ok_some.mpr e) (fun _ => rfl)
    obtain ⟨o, e, he⟩ := key
    rw [e] at eM
    cases eM
    exact he
  · have k' := q_gt k
    rw [if_neg k] at eC
    rcases in_32 σM x1 1 20 with ⟨d, d1, d2⟩ | ⟨d, d1⟩
    · omega
    rw [q_bd (show fX10_isIn σM x1.toInt64 1 20 = some 0 from d), if_pos rfl] at eM
    cases eC; cases eM
    rfl
end P12ZZG
