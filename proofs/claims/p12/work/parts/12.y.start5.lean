/-! THE GEOMETRY: a start, 5: points of control are placed, on both sides -/
section P12Y5
theorem m_isC {s : gS} {q : Int32} (q0 : 0 ≤ q.toInt) (q1 : q.toInt ≤ 19) : (fX10_isControl s q = some 0 ∧ freeM s q.toInt.toNat) ∨ (fX10_isControl s q = some 1 ∧ ¬ freeM s q.toInt.toNat) := by
  have l20 : (20 : Int32).toInt = 20 := by decide
  have e : (20 + q).toInt = 20 + q.toInt := by rw [iadd_toInt] <;> omega
  have k : fX10_isControl s q = some 0 ∨ fX10_isControl s q = some 1 := by
    unfold fX10_isControl
    rw [q_gd (gb_of (by omega) (by omega)), nm_eq, nm_eq]
    split
    · exact .inl rfl
    · split
      · exact .inr rfl
      · exact .inl rfl
  unfold freeM
  rw [i32_of q0]
  rcases k with k | k
  · exact .inl ⟨k, k⟩
  · refine .inr ⟨k, fun z => ?_⟩
    rw [k] at z
    exact absurd (Option.some.inj z) one_ne
theorem fx_of {σ s : gS} (h : TRd σ s) (w : WF s) (e : σ.1 47 1 = s.1 0 36) (b : 0 ≤ (s.1 0 36).toInt ∧ (s.1 0 36).toInt ≤ 3) : ∀ q : Nat, (q : Int) < (s.1 15 8).toInt → (σ.1 16 q &&& σ.1 47 1 = 0 ↔ freeM s q) := by
  have b8 := w.1.2.1
  intro q hq
  have eq : (Int32.ofNat q).toInt = q := iofNat_toInt (by omega)
  have eq2 : (Int32.ofNat q).toInt.toNat = q := by omega
  have qa : QA σ s := ⟨(tr_n h).2.1, b8, fun j hj => ⟨(h.2.2.2.1 j hj).1, (h.2.2.2.1 j hj).2.1, (h.2.2.2.1 j hj).2.2.1⟩⟩
  have c := c_fixK σ (q := Int32.ofNat q) (by omega) (by omega)
  rw [eq2] at c
  unfold freeM
  unfold fixK at c
  rcases fix_alike qa e rfl b (q := Int32.ofNat q) (by omega) (by omega) with ⟨f1, f2⟩ | ⟨f1, f2⟩
  · rcases c with ⟨c1, c2⟩ | ⟨c1, c2⟩
    · exact ⟨fun _ => f2, fun _ => Decidable.not_not.mp c2⟩
    · rw [f1] at c1
      exact absurd (Option.some.inj c1).symm one_ne
  · rcases c with ⟨c1, c2⟩ | ⟨c1, c2⟩
    · rw [f1] at c1
      exact absurd (Option.some.inj c1) one_ne
    · refine ⟨fun z => absurd z c2, fun z => ?_⟩
      rw [f2] at z
      exact absurd (Option.some.inj z) one_ne
noncomputable def PF (σ : gS) (q : Nat) (τ : gS) : Prop := (fixK σ q → τ.1 53 q = 100 * σ.1 18 q ∧ τ.1 54 q = 100 * σ.1 19 q) ∧ (¬ fixK σ q → τ.1 53 q = σ.1 53 q ∧ τ.1 54 q = σ.1 54 q)
theorem k_placeFixed {σ : gS} {n : Int32} (hn : σ.1 3 2 = n) (n0 : 0 ≤ n.toInt) (n1 : n.toInt ≤ 20) : Ok (fX5_placeFixed_47 σ) (fun τ => (∀ k, k ≠ 53 → k ≠ 54 → τ.1 k = σ.1 k) ∧ τ.2 = σ.2 ∧ ∀ q : Nat, (q : Int) < n.toInt → PF σ q τ) := by
  have z0' := z0
  unfold fX5_placeFixed_47
  refine ok_nm.mpr ?_
  refine ok_lpc (I := fun (m : Nat) (t : Int32 × gS) => m = (n.toInt - t.1.toInt).toNat ∧ 0 ≤ t.1.toInt ∧ t.1.toInt ≤ n.toInt ∧ (∀ k, k ≠ 53 → k ≠ 54 → t.2.1 k = σ.1 k) ∧ t.2.2 = σ.2 ∧ (∀ q : Nat, (q : Int) < t.1.toInt → PF σ q t.2) ∧ ∀ q : Nat, t.1.toInt ≤ (q : Int) → t.2.1 53 q = σ.1 53 q ∧ t.2.1 54 q = σ.1 54 q) (fun rec m t hs hrec => ?_) K9 n.toInt.toNat (0, σ) ⟨by dsimp only; omega, by dsimp only; omega, by dsimp only; omega, fun _ _ _ => rfl, rfl, fun q hq => absurd hq (by dsimp only; omega), fun _ _ => ⟨rfl, rfl⟩⟩ (by unfold K9; omega)
  obtain ⟨a, τ⟩ := t
  obtain ⟨hm, a0, a1, h1, h2, h3, h4⟩ := hs
  dsimp only at hm a0 a1 h1 h2 h3 h4 ⊢
  unfold bX5_placeFixed_47_2
  have e3 : τ.1 3 ((2 : Int32).toNatClampNeg) = n := by rw [h1 3 (by decide) (by decide)]; exact hn
  rw [q_gd (by decide), nm_eq, e3]
  refine ok_ite.mpr ⟨fun hk => ok_some.mpr ⟨h1, h2, fun q hq => h3 q (by have := Int32.le_iff_toInt_le.mp hk; omega)⟩, fun hk => ?_⟩
  have hlt := q_gt hk
  have ei := i_inc (a := a) (c := 60) (by omega) (by omega) (by decide)
  have fe : fixK τ a.toInt.toNat ↔ fixK σ a.toInt.toNat := by
    unfold fixK
    rw [h1 16 (by decide) (by decide), h1 47 (by decide) (by decide)]
  rcases c_fixK τ a0 (by omega) with ⟨f1, f2⟩ | ⟨f1, f2⟩
  · rw [q_bd f1, if_pos rfl, nm_eq]
    refine hrec (n.toInt - (a + 1).toInt).toNat _ (by omega) ⟨rfl, by dsimp only; omega, by dsimp only; omega, h1, h2, fun q hq => ?_, fun q hq => h4 q (by dsimp only at hq; omega)⟩
    dsimp only at hq
    by_cases z : q = a.toInt.toNat
    · exact ⟨fun y => absurd (fe.mpr (by rw [← z]; exact y)) f2, fun _ => h4 q (by omega)⟩
    · exact h3 q (by omega)
  · have l1 : (1 : Int32).toInt = 1 := by decide
    have ga := gb_of (i := a) (n := 20) a0 (by omega)
    have fa : ∀ (ρ : gS), (∀ k, k ≠ 53 → k ≠ 54 → ρ.1 k = σ.1 k) → fX5_fixedAt_47 ρ a 0 = some (100 * σ.1 18 a.toInt.toNat) ∧ fX5_fixedAt_47 ρ a 1 = some (100 * σ.1 19 a.toInt.toNat) := fun ρ hρ => by
      have y0 : ρ.1 (18 + (0 : Int32).toNatClampNeg) = σ.1 18 := hρ 18 (by decide) (by decide)
      have y1 : ρ.1 (18 + (1 : Int32).toNatClampNeg) = σ.1 19 := hρ 19 (by decide) (by decide)
      unfold fX5_fixedAt_47
      constructor
      · rw [q_gd (by decide), q_gd ga, nm_eq, y0, n_toInt]
      · rw [q_gd (by decide), q_gd ga, nm_eq, y1, n_toInt]
    rw [q_bd f1, if_neg one_ne, q_gd (by decide), q_bd (fa τ h1).1, q_gd ga, nm_eq, q_gd (by decide), q_bd (fa (gsI τ 53 a.toNatClampNeg (100 * σ.1 18 a.toInt.toNat)) (fun k k1 k2 => by rw [gsI_row k1]; exact h1 k k1 k2)).2, q_gd ga, nm_eq, nm_eq, n_toInt]
    refine hrec (n.toInt - (a + 1).toInt).toNat _ (by omega) ⟨rfl, by dsimp only; omega, by dsimp only; omega, fun k k1 k2 => by rw [gsI_row k2, gsI_row k1]; exact h1 k k1 k2, h2, fun q hq => ?_, fun q hq => ?_⟩
    · dsimp only at hq
      unfold PF
      rw [gsI_row (show 53 ≠ 54 by decide), gsI_at, gsI_at, gsI_row (show 54 ≠ 53 by decide)]
      by_cases z : q = a.toInt.toNat
      · rw [if_pos z, if_pos z, z]
        exact ⟨fun _ => ⟨rfl, rfl⟩, fun y => absurd (fe.mp f2) y⟩
      · rw [if_neg z, if_neg z]
        exact h3 q (by omega)
    · dsimp only at hq
      rw [gsI_row (show 53 ≠ 54 by decide), gsI_at, if_neg (by omega), gsI_at, if_neg (by omega), gsI_row (show 54 ≠ 53 by decide)]
      exact h4 q (by omega)
noncomputable def SC (s : gS) (q : Nat) (t : gS) : Prop := (¬ freeM s q → t.1 28 (12 + q) = 100 * s.1 21 (40 + 2 * q) ∧ t.1 28 (50 + q) = 100 * s.1 21 (40 + (2 * q + 1))) ∧ (freeM s q → t.1 28 (12 + q) = s.1 28 (12 + q) ∧ t.1 28 (50 + q) = s.1 28 (50 + q))
theorem m_standControls {s : gS} (n0 : 0 ≤ (s.1 15 8).toInt) (n1 : (s.1 15 8).toInt ≤ 20) : Ok (fX10_standControls s) (fun t => (∀ k, k ≠ 28 → t.1 k = s.1 k) ∧ t.2 = s.2 ∧ (∀ i, i < 12 ∨ (32 ≤ i ∧ i < 50) ∨ 70 ≤ i → t.1 28 i = s.1 28 i) ∧ ∀ q : Nat, (q : Int) < (s.1 15 8).toInt → SC s q t) := by
  have z0' := z0
  unfold fX10_standControls
  refine ok_nm.mpr ?_
  refine ok_lpc (I := fun (m : Nat) (t : Int32 × gS) => m = ((s.1 15 8).toInt - t.1.toInt).toNat ∧ 0 ≤ t.1.toInt ∧ t.1.toInt ≤ (s.1 15 8).toInt ∧ (∀ k, k ≠ 28 → t.2.1 k = s.1 k) ∧ t.2.2 = s.2 ∧ (∀ i, i < 12 ∨ (32 ≤ i ∧ i < 50) ∨ 70 ≤ i → t.2.1 28 i = s.1 28 i) ∧ (∀ q : Nat, (q : Int) < t.1.toInt → SC s q t.2) ∧ ∀ q : Nat, t.1.toInt ≤ (q : Int) → q < 20 → t.2.1 28 (12 + q) = s.1 28 (12 + q) ∧ t.2.1 28 (50 + q) = s.1 28 (50 + q)) (fun rec m t hs hrec => ?_) K9 (s.1 15 8).toInt.toNat (0, s) ⟨by dsimp only; omega, by dsimp only; omega, by dsimp only; omega, fun _ _ => rfl, rfl, fun _ _ => rfl, fun q hq => absurd hq (by dsimp only; omega), fun _ _ _ => ⟨rfl, rfl⟩⟩ (by unfold K9; omega)
  obtain ⟨a, τ⟩ := t
  obtain ⟨hm, a0, a1, h1, h2, h5, h3, h4⟩ := hs
  dsimp only at hm a0 a1 h1 h2 h3 h4 h5 ⊢
  unfold bX10_standControls_2
  rw [q_bd (m_points τ), h1 15 (by decide)]
  refine ok_ite.mpr ⟨fun hk => ok_some.mpr ⟨h1, h2, h5, fun q hq => h3 q (by have := Int32.le_iff_toInt_le.mp hk; omega)⟩, fun hk => ?_⟩
  have hlt := q_gt hk
  have ei := i_inc (a := a) (c := 60) (by omega) (by omega) (by decide)
  refine ok_nm.mpr ?_
  have l40 : (40 : Int32).toInt = 40 := by decide
  have l12 : (12 : Int32).toInt = 12 := by decide
  have l1 : (1 : Int32).toInt = 1 := by decide
  have l2 : (2 : Int32).toInt = 2 := by decide
  obtain ⟨Q, hQ⟩ : ∃ Q, Q = a.toInt.toNat := ⟨_, rfl⟩
  have ic : ∀ ρ : gS, (∀ k, k ≠ 28 → ρ.1 k = s.1 k) → fX10_isControl ρ a = fX10_isControl s a := fun ρ hρ => isC_eq (hρ 20 (by decide)) (by rw [hρ 0 (by decide)])
  rcases m_isC (s := s) a0 (by omega) with ⟨f1, f2⟩ | ⟨f1, f2⟩
  · have e : lpc (S := Int32 × gS) K9 (fun rec1 s' => bX10_standControls_12 τ a (fun a1 σ1 => rec (a1, σ1)) (fun a2 σ1 => rec1 (a2, σ1)) s'.1 s'.2) (0, τ) = rec (a + 1, τ) := by
      have st : ∀ (rec1 : Int32 × gS → Option gS) (b : Int32), b = 0 ∨ b = 1 → bX10_standControls_12 τ a (fun a1 σ1 => rec (a1, σ1)) (fun a2 σ1 => rec1 (a2, σ1)) b τ = rec1 (b + 1, τ) := fun rec1 b hb => by
        have b11 : b.toInt ≤ 1 := by rcases hb with rfl | rfl <;> decide
        unfold bX10_standControls_12
        rw [if_neg (q_nle (by omega)), ic τ h1, q_bd f1, if_pos rfl, nm_eq]
      refine lp_2 (s1 := (1, τ)) (s2 := (2, τ)) (fun rec1 => st rec1 0 (.inl rfl)) (fun rec1 => st rec1 1 (.inr rfl)) (fun rec1 => ?_)
      show bX10_standControls_12 τ a _ _ 2 τ = _
      unfold bX10_standControls_12
      rw [if_pos (by decide), nm_eq]
    rw [e]
    refine hrec ((s.1 15 8).toInt - (a + 1).toInt).toNat _ (by omega) ⟨rfl, by dsimp only; omega, by dsimp only; omega, h1, h2, h5, fun q hq => ?_, fun q hq h20 => h4 q (by dsimp only at hq; omega) h20⟩
    dsimp only at hq
    by_cases z : q = a.toInt.toNat
    · exact ⟨fun y => absurd (by rw [z]; exact f2) y, fun _ => h4 q (by omega) (by omega)⟩
    · exact h3 q (by omega)
  · have x0 : (40 + 2 * a).toInt = 40 + 2 * a.toInt := by
      have m2 : (2 * a).toInt = 2 * a.toInt := imulc (by decide) (by omega) (by omega)
      rw [iadd_toInt] <;> omega
    have e : lpc (S := Int32 × gS) K9 (fun rec1 s' => bX10_standControls_12 τ a (fun a1 σ1 => rec (a1, σ1)) (fun a2 σ1 => rec1 (a2, σ1)) s'.1 s'.2) (0, τ) = rec (a + 1, gsI (gsI τ 28 (12 + Q) (100 * s.1 21 (40 + 2 * Q))) 28 (50 + Q) (100 * s.1 21 (40 + (2 * Q + 1)))) := by
      have st : ∀ (rec1 : Int32 × gS → Option gS) (ρ : gS) (b : Int32), b = 0 ∨ b = 1 → (∀ k, k ≠ 28 → ρ.1 k = s.1 k) → bX10_standControls_12 τ a (fun a1 σ1 => rec (a1, σ1)) (fun a2 σ1 => rec1 (a2, σ1)) b ρ = rec1 (b + 1, gsI ρ 28 (38 * b.toInt.toNat + 12 + Q) (100 * s.1 21 (40 + 2 * Q + b.toInt.toNat))) := fun rec1 ρ b hb hρ => by
        have b00 : 0 ≤ b.toInt := by rcases hb with rfl | rfl <;> decide
        have b11 : b.toInt ≤ 1 := by rcases hb with rfl | rfl <;> decide
        have x1 : (40 + 2 * a + b).toInt = 40 + 2 * a.toInt + b.toInt := by rw [iadd_toInt] <;> omega
        have n1 : (40 + 2 * a + b).toNatClampNeg = 40 + 2 * Q + b.toInt.toNat := by rw [n_toInt]; omega
        have y1 := ix_38b (a := b) (x := 12) (y := a) b00 b11 l12 (by decide) (by decide) rfl a0 (by omega)
        have y2 : (38 * b + 12 + a).toNatClampNeg = 38 * b.toInt.toNat + 12 + Q := by rw [n_toInt]; omega
        unfold bX10_standControls_12
        rw [if_neg (q_nle (by omega)), ic ρ hρ, q_bd f1, if_neg one_ne, q_gd (gb_of (by omega) (by omega)), nm_eq, n1, hρ 21 (by decide), q_gd (gb_of (by omega) (by omega)), nm_eq, nm_eq, y2]
      refine lp_2 (s1 := (1, gsI τ 28 (12 + Q) (100 * s.1 21 (40 + 2 * Q)))) (s2 := (2, gsI (gsI τ 28 (12 + Q) (100 * s.1 21 (40 + 2 * Q))) 28 (50 + Q) (100 * s.1 21 (40 + (2 * Q + 1))))) (fun rec1 => ?_) (fun rec1 => ?_) (fun rec1 => ?_)
      · have := st rec1 τ 0 (.inl rfl) h1
        rw [n_0, show 38 * 0 + 12 + Q = 12 + Q by omega, show 40 + 2 * Q + 0 = 40 + 2 * Q by omega] at this
        exact this
      · have := st rec1 (gsI τ 28 (12 + Q) (100 * s.1 21 (40 + 2 * Q))) 1 (.inr rfl) (fun k hk => by rw [gsI_row hk]; exact h1 k hk)
        rw [n_1, show 38 * 1 + 12 + Q = 50 + Q by omega, show 40 + 2 * Q + 1 = 40 + (2 * Q + 1) by omega] at this
        exact this
      · show bX10_standControls_12 τ a _ _ 2 _ = _
        unfold bX10_standControls_12
        rw [if_pos (by decide), nm_eq]
    rw [e]
    refine hrec ((s.1 15 8).toInt - (a + 1).toInt).toNat _ (by omega) ⟨rfl, by dsimp only; omega, by dsimp only; omega, fun k hk => by rw [gsI_row hk, gsI_row hk]; exact h1 k hk, h2, fun i hi => ?_, fun q hq => ?_, fun q hq h20 => ?_⟩
    · rw [gsI_at, if_neg (by omega), gsI_at, if_neg (by omega)]
      exact h5 i hi
    · dsimp only at hq
      unfold SC
      rw [gsI_at, gsI_at, gsI_at, gsI_at]
      by_cases z : q = Q
      · rw [if_neg (show ¬ 12 + q = 50 + Q by omega), if_pos (show 12 + q = 12 + Q by omega), if_pos (show 50 + q = 50 + Q by omega), z]
        exact ⟨fun _ => ⟨rfl, rfl⟩, fun y => absurd (by rw [← hQ]; exact y) f2⟩
      · rw [if_neg (show ¬ 12 + q = 50 + Q by omega), if_neg (show ¬ 12 + q = 12 + Q by omega), if_neg (show ¬ 50 + q = 50 + Q by omega), if_neg (show ¬ 50 + q = 12 + Q by omega)]
        exact h3 q (by omega)
    · dsimp only at hq
      rw [gsI_at, gsI_at, gsI_at, gsI_at, if_neg (show ¬ 12 + q = 50 + Q by omega), if_neg (show ¬ 12 + q = 12 + Q by omega), if_neg (show ¬ 50 + q = 50 + Q by omega), if_neg (show ¬ 50 + q = 12 + Q by omega)]
      exact h4 q (by omega) h20
end P12Y5
