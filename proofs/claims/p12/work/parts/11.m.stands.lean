/-! THE TWO READERS, 13: the reference: what was told stands -/
section PM
theorem kb15 : ∀ i : Nat, i < 6 → kbM 15 (6 + i) = kbM 15 i
  | 0, _ => rfl
  | 1, _ => rfl
  | 2, _ => rfl
  | 3, _ => rfl
  | 4, _ => rfl
  | 5, _ => rfl
  | i + 6, h => absurd h (by omega)
theorem st_2 {σ0 σ : gS} {P : gS → Prop} (hI : JM σ) (k : ∀ ρ, JM ρ → (∀ j, j ≠ 15 → ρ.1 j = σ.1 j) → ρ.2 = σ.2 → (∀ i : Nat, i < 6 → ρ.1 15 (6 + i) = σ.1 15 i) → (∀ i : Nat, i < 6 → ρ.1 15 i = σ.1 15 i) → Ok (lpc (S := Int32 × gS) K9 (fun rec s => bX10_stands_31 ρ (fun a1 σ1 => rec (a1, σ1)) s.1 s.2) (0, ρ)) P) : Ok (lpc (S := Int32 × gS) K9 (fun rec s => bX10_stands_2 σ0 (fun a1 σ1 => rec (a1, σ1)) s.1 s.2) (0, σ)) P := by
  refine ok_lpc (I := fun (n : Nat) (s : Int32 × gS) => n = (6 - s.1.toInt).toNat ∧ 0 ≤ s.1.toInt ∧ s.1.toInt ≤ 6 ∧ JM s.2 ∧ (∀ j, j ≠ 15 → s.2.1 j = σ.1 j) ∧ s.2.2 = σ.2 ∧ (∀ i : Nat, (i : Int) < s.1.toInt → s.2.1 15 (6 + i) = σ.1 15 i) ∧ (∀ i : Nat, i < 6 → s.2.1 15 i = σ.1 15 i)) (fun rec n s hs hrec => ?_) K9 6 (0, σ) ⟨show 6 = (6 - (0 : Int32).toInt).toNat by decide, show 0 ≤ (0 : Int32).toInt by decide, show (0 : Int32).toInt ≤ 6 by decide, hI, fun _ _ => rfl, rfl, fun i h => absurd h (by have := z0; dsimp only; omega), fun _ _ => rfl⟩ (by unfold K9; decide)
  obtain ⟨a, s⟩ := s
  obtain ⟨hn, h0, h1, jI, f0, f1, f2, f3⟩ := hs
  dsimp only at hn h0 h1 jI f0 f1 f2 f3 ⊢
  have lN : (6 : Int32).toInt = 6 := by decide
  unfold bX10_stands_2
  refine ok_ite.mpr ⟨fun h => ok_nm.mpr (k s jI f0 f1 (fun i hi => f2 i (by have := Int32.le_iff_toInt_le.mp h; omega)) f3), fun h => ?_⟩
  have hlt : a.toInt < 6 := by
    have := q_gt h
    omega
  have e1 := i_inc (a := a) (c := 6) (by omega) h1 (by decide)
  have lh6 : (6 : Int32).toInt = 6 := by decide
  have eh6 : (6 + a).toInt = 6 + a.toInt := by rw [iadd_toInt] <;> omega
  have en6 : (6 + a).toNatClampNeg = 6 + a.toInt.toNat := n_add (c := 6) (a := a) (k := 6) (by decide) h0 (by omega)
  refine ok_gd.mpr ⟨gb_of (by omega) (by omega), ok_nm.mpr (ok_gd.mpr ⟨gb_of (i := 6 + a) (n := 12) (by rw [eh6]; omega) (by rw [eh6]; omega), ok_nm.mpr ?_⟩)⟩
  rw [en6]
  refine ok_nm.mpr (hrec (6 - (a + 1).toInt).toNat (a + 1, _) (by omega) ?_)
  show _ = (6 - (a + 1).toInt).toNat ∧ 0 ≤ (a + 1).toInt ∧ (a + 1).toInt ≤ 6 ∧ JM (gsI s 15 (6 + a.toInt.toNat) (s.1 15 a.toInt.toNat)) ∧ (∀ j, j ≠ 15 → (gsI s 15 (6 + a.toInt.toNat) (s.1 15 a.toInt.toNat)).1 j = σ.1 j) ∧ (gsI s 15 (6 + a.toInt.toNat) (s.1 15 a.toInt.toNat)).2 = σ.2 ∧ (∀ i : Nat, (i : Int) < (a + 1).toInt → (gsI s 15 (6 + a.toInt.toNat) (s.1 15 a.toInt.toNat)).1 15 (6 + i) = σ.1 15 i) ∧ (∀ i : Nat, i < 6 → (gsI s 15 (6 + a.toInt.toNat) (s.1 15 a.toInt.toNat)).1 15 i = σ.1 15 i)
  refine ⟨rfl, by omega, by omega, (JM_w jI (by rw [kb15 a.toInt.toNat (by omega)]; exact (jI 15 a.toInt.toNat).1) (by rw [kb15 a.toInt.toNat (by omega)]; exact (jI 15 a.toInt.toNat).2)), ?_, ?_, ?_, ?_⟩
  · intro j q15
    rw [gsI_row q15]
    exact f0 j q15
  · exact f1
  · intro i hi
    rw [gsI_at]
    by_cases e : i = a.toInt.toNat
    · rw [if_pos (show 6 + i = 6 + a.toInt.toNat by omega), e]; exact f3 _ (by omega)
    · rw [if_neg (show ¬ 6 + i = 6 + a.toInt.toNat by omega)]; exact f2 i (by omega)
  · intro i hi
    rw [gsI_at, if_neg (show ¬ i = 6 + a.toInt.toNat by omega)]
    exact f3 i hi
theorem st_31 {σ0 σ : gS} {P : gS → Prop} (hI : JM σ) (k : ∀ ρ, JM ρ → ρ.1 = σ.1 → (∀ i : Nat, i < 60 → ρ.2 14 (60 + i) = σ.2 14 i) → (∀ i : Nat, i < 60 → ρ.2 14 i = σ.2 14 i) → Ok (lpc (S := Int32 × gS) K9 (fun rec s => bX10_stands_60 ρ (fun a1 σ1 => rec (a1, σ1)) s.1 s.2) (0, ρ)) P) : Ok (lpc (S := Int32 × gS) K9 (fun rec s => bX10_stands_31 σ0 (fun a1 σ1 => rec (a1, σ1)) s.1 s.2) (0, σ)) P := by
  refine ok_lpc (I := fun (n : Nat) (s : Int32 × gS) => n = (60 - s.1.toInt).toNat ∧ 0 ≤ s.1.toInt ∧ s.1.toInt ≤ 60 ∧ JM s.2 ∧ s.2.1 = σ.1 ∧ (∀ i : Nat, (i : Int) < s.1.toInt → s.2.2 14 (60 + i) = σ.2 14 i) ∧ (∀ i : Nat, i < 60 → s.2.2 14 i = σ.2 14 i)) (fun rec n s hs hrec => ?_) K9 60 (0, σ) ⟨show 60 = (60 - (0 : Int32).toInt).toNat by decide, show 0 ≤ (0 : Int32).toInt by decide, show (0 : Int32).toInt ≤ 60 by decide, hI, rfl, fun i h => absurd h (by have := z0; dsimp only; omega), fun _ _ => rfl⟩ (by unfold K9; decide)
  obtain ⟨a, s⟩ := s
  obtain ⟨hn, h0, h1, jI, f0, f1, f2⟩ := hs
  dsimp only at hn h0 h1 jI f0 f1 f2 ⊢
  have lN : (60 : Int32).toInt = 60 := by decide
  unfold bX10_stands_31
  refine ok_ite.mpr ⟨fun h => ok_nm.mpr (k s jI f0 (fun i hi => f1 i (by have := Int32.le_iff_toInt_le.mp h; omega)) f2), fun h => ?_⟩
  have hlt : a.toInt < 60 := by
    have := q_gt h
    omega
  have e1 := i_inc (a := a) (c := 60) (by omega) h1 (by decide)
  have lh60 : (60 : Int32).toInt = 60 := by decide
  have eh60 : (60 + a).toInt = 60 + a.toInt := by rw [iadd_toInt] <;> omega
  have en60 : (60 + a).toNatClampNeg = 60 + a.toInt.toNat := n_add (c := 60) (a := a) (k := 60) (by decide) h0 (by omega)
  refine ok_gd.mpr ⟨gb_of (by omega) (by omega), ok_nm.mpr (ok_gd.mpr ⟨gb_of (i := 60 + a) (n := 120) (by rw [eh60]; omega) (by rw [eh60]; omega), ok_nm.mpr ?_⟩)⟩
  rw [en60]
  refine ok_nm.mpr (hrec (60 - (a + 1).toInt).toNat (a + 1, _) (by omega) ?_)
  show _ = (60 - (a + 1).toInt).toNat ∧ 0 ≤ (a + 1).toInt ∧ (a + 1).toInt ≤ 60 ∧ JM (gsL s 14 (60 + a.toInt.toNat) (s.2 14 a.toInt.toNat)) ∧ (gsL s 14 (60 + a.toInt.toNat) (s.2 14 a.toInt.toNat)).1 = σ.1 ∧ (∀ i : Nat, (i : Int) < (a + 1).toInt → (gsL s 14 (60 + a.toInt.toNat) (s.2 14 a.toInt.toNat)).2 14 (60 + i) = σ.2 14 i) ∧ (∀ i : Nat, i < 60 → (gsL s 14 (60 + a.toInt.toNat) (s.2 14 a.toInt.toNat)).2 14 i = σ.2 14 i)
  refine ⟨rfl, by omega, by omega, (JM_l jI), ?_, ?_, ?_⟩
  · exact f0
  · intro i hi
    rw [gsL_2]
    by_cases e : i = a.toInt.toNat
    · rw [if_pos ⟨rfl, by omega⟩, e]; exact f2 _ (by omega)
    · rw [if_neg (fun z => e (by omega))]; exact f1 i (by omega)
  · intro i hi
    rw [gsL_2, if_neg (fun z => by omega)]
    exact f2 i hi
theorem st_60 {σ0 σ : gS} {P : gS → Prop} (hI : JM σ) (k : ∀ ρ, JM ρ → (∀ j, j ≠ 16 → j ≠ 17 → j ≠ 18 → ρ.1 j = σ.1 j) → ρ.2 = σ.2 → (∀ i : Nat, i < 12 → ρ.1 16 (12 + i) = σ.1 16 i) → (∀ i : Nat, i < 12 → ρ.1 16 i = σ.1 16 i) → (∀ i : Nat, i < 12 → ρ.1 17 (12 + i) = σ.1 17 i) → (∀ i : Nat, i < 12 → ρ.1 17 i = σ.1 17 i) → (∀ i : Nat, i < 12 → ρ.1 18 (12 + i) = (if (σ.1 15 1).toInt ≤ (i : Int) then 0 else σ.1 18 i)) → (∀ i : Nat, i < 12 → ρ.1 18 i = σ.1 18 i) → Ok (lpc (S := Int32 × gS) K9 (fun rec s => bX10_stands_133 ρ (fun a1 σ1 => rec (a1, σ1)) s.1 s.2) (0, ρ)) P) : Ok (lpc (S := Int32 × gS) K9 (fun rec s => bX10_stands_60 σ0 (fun a1 σ1 => rec (a1, σ1)) s.1 s.2) (0, σ)) P := by
  refine ok_lpc (I := fun (n : Nat) (s : Int32 × gS) => n = (12 - s.1.toInt).toNat ∧ 0 ≤ s.1.toInt ∧ s.1.toInt ≤ 12 ∧ JM s.2 ∧ (∀ j, j ≠ 16 → j ≠ 17 → j ≠ 18 → s.2.1 j = σ.1 j) ∧ s.2.2 = σ.2 ∧ (∀ i : Nat, (i : Int) < s.1.toInt → s.2.1 16 (12 + i) = σ.1 16 i) ∧ (∀ i : Nat, i < 12 → s.2.1 16 i = σ.1 16 i) ∧ (∀ i : Nat, (i : Int) < s.1.toInt → s.2.1 17 (12 + i) = σ.1 17 i) ∧ (∀ i : Nat, i < 12 → s.2.1 17 i = σ.1 17 i) ∧ (∀ i : Nat, (i : Int) < s.1.toInt → s.2.1 18 (12 + i) = (if (σ.1 15 1).toInt ≤ (i : Int) then 0 else σ.1 18 i)) ∧ (∀ i : Nat, i < 12 → s.2.1 18 i = σ.1 18 i)) (fun rec n s hs hrec => ?_) K9 12 (0, σ) ⟨show 12 = (12 - (0 : Int32).toInt).toNat by decide, show 0 ≤ (0 : Int32).toInt by decide, show (0 : Int32).toInt ≤ 12 by decide, hI, fun _ _ _ _ => rfl, rfl, fun i h => absurd h (by have := z0; dsimp only; omega), fun _ _ => rfl, fun i h => absurd h (by have := z0; dsimp only; omega), fun _ _ => rfl, fun i h => absurd h (by have := z0; dsimp only; omega), fun _ _ => rfl⟩ (by unfold K9; decide)
  obtain ⟨a, s⟩ := s
  obtain ⟨hn, h0, h1, jI, f0, f1, f2, f3, f4, f5, f6, f7⟩ := hs
  dsimp only at hn h0 h1 jI f0 f1 f2 f3 f4 f5 f6 f7 ⊢
  have lN : (12 : Int32).toInt = 12 := by decide
  unfold bX10_stands_60
  refine ok_ite.mpr ⟨fun h => ok_nm.mpr (k s jI f0 f1 (fun i hi => f2 i (by have := Int32.le_iff_toInt_le.mp h; omega)) f3 (fun i hi => f4 i (by have := Int32.le_iff_toInt_le.mp h; omega)) f5 (fun i hi => f6 i (by have := Int32.le_iff_toInt_le.mp h; omega)) f7), fun h => ?_⟩
  have hlt : a.toInt < 12 := by
    have := q_gt h
    omega
  have e1 := i_inc (a := a) (c := 12) (by omega) h1 (by decide)
  have lh12 : (12 : Int32).toInt = 12 := by decide
  have eh12 : (12 + a).toInt = 12 + a.toInt := by rw [iadd_toInt] <;> omega
  have en12 : (12 + a).toNatClampNeg = 12 + a.toInt.toNat := n_add (c := 12) (a := a) (k := 12) (by decide) h0 (by omega)
  refine ok_gd.mpr ⟨gb_of (by omega) (by omega), ok_nm.mpr (ok_gd.mpr ⟨gb_of (i := 12 + a) (n := 24) (by rw [eh12]; omega) (by rw [eh12]; omega), ok_nm.mpr ?_⟩)⟩
  refine ok_gd.mpr ⟨gb_of (by omega) (by omega), ok_nm.mpr (ok_gd.mpr ⟨gb_of (i := 12 + a) (n := 24) (by rw [eh12]; omega) (by rw [eh12]; omega), ok_nm.mpr ?_⟩)⟩
  refine ok_gd.mpr ⟨by decide, ok_nm.mpr ?_⟩
  have ec : s.1 15 1 = σ.1 15 1 := by rw [f0 15 (by decide) (by decide) (by decide)]
  refine ok_ite.mpr ⟨fun hc => ?_, fun hc => ?_⟩
  · have hc1 := Int32.le_iff_toInt_le.mp hc
    have hcx : (s.1 15 1).toInt ≤ a.toInt := hc1
    rw [ec] at hcx
    have hc2 : (σ.1 15 1).toInt ≤ ((a.toInt.toNat : Nat) : Int) := by omega
    refine ok_gd.mpr ⟨gb_of (i := 12 + a) (n := 24) (by rw [eh12]; omega) (by rw [eh12]; omega), ok_nm.mpr ?_⟩
    rw [en12]
    refine ok_nm.mpr (hrec (12 - (a + 1).toInt).toNat (a + 1, _) (by omega) ?_)
    show _ = (12 - (a + 1).toInt).toNat ∧ 0 ≤ (a + 1).toInt ∧ (a + 1).toInt ≤ 12 ∧ JM (gsI (gsI (gsI s 16 (12 + a.toInt.toNat) (s.1 16 a.toInt.toNat)) 17 (12 + a.toInt.toNat) (s.1 17 a.toInt.toNat)) 18 (12 + a.toInt.toNat) 0) ∧ (∀ j, j ≠ 16 → j ≠ 17 → j ≠ 18 → (gsI (gsI (gsI s 16 (12 + a.toInt.toNat) (s.1 16 a.toInt.toNat)) 17 (12 + a.toInt.toNat) (s.1 17 a.toInt.toNat)) 18 (12 + a.toInt.toNat) 0).1 j = σ.1 j) ∧ (gsI (gsI (gsI s 16 (12 + a.toInt.toNat) (s.1 16 a.toInt.toNat)) 17 (12 + a.toInt.toNat) (s.1 17 a.toInt.toNat)) 18 (12 + a.toInt.toNat) 0).2 = σ.2 ∧ (∀ i : Nat, (i : Int) < (a + 1).toInt → (gsI (gsI (gsI s 16 (12 + a.toInt.toNat) (s.1 16 a.toInt.toNat)) 17 (12 + a.toInt.toNat) (s.1 17 a.toInt.toNat)) 18 (12 + a.toInt.toNat) 0).1 16 (12 + i) = σ.1 16 i) ∧ (∀ i : Nat, i < 12 → (gsI (gsI (gsI s 16 (12 + a.toInt.toNat) (s.1 16 a.toInt.toNat)) 17 (12 + a.toInt.toNat) (s.1 17 a.toInt.toNat)) 18 (12 + a.toInt.toNat) 0).1 16 i = σ.1 16 i) ∧ (∀ i : Nat, (i : Int) < (a + 1).toInt → (gsI (gsI (gsI s 16 (12 + a.toInt.toNat) (s.1 16 a.toInt.toNat)) 17 (12 + a.toInt.toNat) (s.1 17 a.toInt.toNat)) 18 (12 + a.toInt.toNat) 0).1 17 (12 + i) = σ.1 17 i) ∧ (∀ i : Nat, i < 12 → (gsI (gsI (gsI s 16 (12 + a.toInt.toNat) (s.1 16 a.toInt.toNat)) 17 (12 + a.toInt.toNat) (s.1 17 a.toInt.toNat)) 18 (12 + a.toInt.toNat) 0).1 17 i = σ.1 17 i) ∧ (∀ i : Nat, (i : Int) < (a + 1).toInt → (gsI (gsI (gsI s 16 (12 + a.toInt.toNat) (s.1 16 a.toInt.toNat)) 17 (12 + a.toInt.toNat) (s.1 17 a.toInt.toNat)) 18 (12 + a.toInt.toNat) 0).1 18 (12 + i) = (if (σ.1 15 1).toInt ≤ (i : Int) then 0 else σ.1 18 i)) ∧ (∀ i : Nat, i < 12 → (gsI (gsI (gsI s 16 (12 + a.toInt.toNat) (s.1 16 a.toInt.toNat)) 17 (12 + a.toInt.toNat) (s.1 17 a.toInt.toNat)) 18 (12 + a.toInt.toNat) 0).1 18 i = σ.1 18 i)
    refine ⟨rfl, by omega, by omega, (JM_w (JM_w (JM_w jI (show 0 ≤ _ from (jI 16 a.toInt.toNat).1) (show _ ≤ 5 from (jI 16 a.toInt.toNat).2)) (Int32.le_toInt _) (Int32.toInt_le _)) (show (0 : Int) ≤ (0 : Int32).toInt by decide) (show (0 : Int32).toInt ≤ (9999 : Int) by decide)), ?_, ?_, ?_, ?_, ?_, ?_, ?_, ?_⟩
    · intro j q16 q17 q18
      rw [gsI_row q18, gsI_row q17, gsI_row q16]
      exact f0 j q16 q17 q18
    · exact f1
    · intro i hi
      rw [gsI_row (show 16 ≠ 18 by decide), gsI_row (show 16 ≠ 17 by decide), gsI_at]
      by_cases e : i = a.toInt.toNat
      · rw [if_pos (show 12 + i = 12 + a.toInt.toNat by omega), e]; exact f3 _ (by omega)
      · rw [if_neg (show ¬ 12 + i = 12 + a.toInt.toNat by omega)]; exact f2 i (by omega)
    · intro i hi
      rw [gsI_row (show 16 ≠ 18 by decide), gsI_row (show 16 ≠ 17 by decide), gsI_at, if_neg (show ¬ i = 12 + a.toInt.toNat by omega)]
      exact f3 i hi
    · intro i hi
      rw [gsI_row (show 17 ≠ 18 by decide), gsI_at]
      by_cases e : i = a.toInt.toNat
      · rw [if_pos (show 12 + i = 12 + a.toInt.toNat by omega), e]; exact f5 _ (by omega)
      · rw [if_neg (show ¬ 12 + i = 12 + a.toInt.toNat by omega), gsI_row (show 17 ≠ 16 by decide)]; exact f4 i (by omega)
    · intro i hi
      rw [gsI_row (show 17 ≠ 18 by decide), gsI_at, if_neg (show ¬ i = 12 + a.toInt.toNat by omega), gsI_row (show 17 ≠ 16 by decide)]
      exact f5 i hi
    · intro i hi
      rw [gsI_at]
      by_cases e : i = a.toInt.toNat
      · rw [if_pos (show 12 + i = 12 + a.toInt.toNat by omega), e]; exact (if_pos hc2).symm
      · rw [if_neg (show ¬ 12 + i = 12 + a.toInt.toNat by omega), gsI_row (show 18 ≠ 17 by decide), gsI_row (show 18 ≠ 16 by decide)]; exact f6 i (by omega)
    · intro i hi
      rw [gsI_at, if_neg (show ¬ i = 12 + a.toInt.toNat by omega), gsI_row (show 18 ≠ 17 by decide), gsI_row (show 18 ≠ 16 by decide)]
      exact f7 i hi
  · have hc1 := q_gt hc
    have hcx : a.toInt < (s.1 15 1).toInt := hc1
    rw [ec] at hcx
    have hc2 : ¬ (σ.1 15 1).toInt ≤ ((a.toInt.toNat : Nat) : Int) := by omega
    refine ok_gd.mpr ⟨gb_of (by omega) (by omega), ok_nm.mpr (ok_gd.mpr ⟨gb_of (i := 12 + a) (n := 24) (by rw [eh12]; omega) (by rw [eh12]; omega), ok_nm.mpr ?_⟩)⟩
    rw [en12]
    refine ok_nm.mpr (hrec (12 - (a + 1).toInt).toNat (a + 1, _) (by omega) ?_)
    show _ = (12 - (a + 1).toInt).toNat ∧ 0 ≤ (a + 1).toInt ∧ (a + 1).toInt ≤ 12 ∧ JM (gsI (gsI (gsI s 16 (12 + a.toInt.toNat) (s.1 16 a.toInt.toNat)) 17 (12 + a.toInt.toNat) (s.1 17 a.toInt.toNat)) 18 (12 + a.toInt.toNat) (s.1 18 a.toInt.toNat)) ∧ (∀ j, j ≠ 16 → j ≠ 17 → j ≠ 18 → (gsI (gsI (gsI s 16 (12 + a.toInt.toNat) (s.1 16 a.toInt.toNat)) 17 (12 + a.toInt.toNat) (s.1 17 a.toInt.toNat)) 18 (12 + a.toInt.toNat) (s.1 18 a.toInt.toNat)).1 j = σ.1 j) ∧ (gsI (gsI (gsI s 16 (12 + a.toInt.toNat) (s.1 16 a.toInt.toNat)) 17 (12 + a.toInt.toNat) (s.1 17 a.toInt.toNat)) 18 (12 + a.toInt.toNat) (s.1 18 a.toInt.toNat)).2 = σ.2 ∧ (∀ i : Nat, (i : Int) < (a + 1).toInt → (gsI (gsI (gsI s 16 (12 + a.toInt.toNat) (s.1 16 a.toInt.toNat)) 17 (12 + a.toInt.toNat) (s.1 17 a.toInt.toNat)) 18 (12 + a.toInt.toNat) (s.1 18 a.toInt.toNat)).1 16 (12 + i) = σ.1 16 i) ∧ (∀ i : Nat, i < 12 → (gsI (gsI (gsI s 16 (12 + a.toInt.toNat) (s.1 16 a.toInt.toNat)) 17 (12 + a.toInt.toNat) (s.1 17 a.toInt.toNat)) 18 (12 + a.toInt.toNat) (s.1 18 a.toInt.toNat)).1 16 i = σ.1 16 i) ∧ (∀ i : Nat, (i : Int) < (a + 1).toInt → (gsI (gsI (gsI s 16 (12 + a.toInt.toNat) (s.1 16 a.toInt.toNat)) 17 (12 + a.toInt.toNat) (s.1 17 a.toInt.toNat)) 18 (12 + a.toInt.toNat) (s.1 18 a.toInt.toNat)).1 17 (12 + i) = σ.1 17 i) ∧ (∀ i : Nat, i < 12 → (gsI (gsI (gsI s 16 (12 + a.toInt.toNat) (s.1 16 a.toInt.toNat)) 17 (12 + a.toInt.toNat) (s.1 17 a.toInt.toNat)) 18 (12 + a.toInt.toNat) (s.1 18 a.toInt.toNat)).1 17 i = σ.1 17 i) ∧ (∀ i : Nat, (i : Int) < (a + 1).toInt → (gsI (gsI (gsI s 16 (12 + a.toInt.toNat) (s.1 16 a.toInt.toNat)) 17 (12 + a.toInt.toNat) (s.1 17 a.toInt.toNat)) 18 (12 + a.toInt.toNat) (s.1 18 a.toInt.toNat)).1 18 (12 + i) = (if (σ.1 15 1).toInt ≤ (i : Int) then 0 else σ.1 18 i)) ∧ (∀ i : Nat, i < 12 → (gsI (gsI (gsI s 16 (12 + a.toInt.toNat) (s.1 16 a.toInt.toNat)) 17 (12 + a.toInt.toNat) (s.1 17 a.toInt.toNat)) 18 (12 + a.toInt.toNat) (s.1 18 a.toInt.toNat)).1 18 i = σ.1 18 i)
    refine ⟨rfl, by omega, by omega, (JM_w (JM_w (JM_w jI (show 0 ≤ _ from (jI 16 a.toInt.toNat).1) (show _ ≤ 5 from (jI 16 a.toInt.toNat).2)) (Int32.le_toInt _) (Int32.toInt_le _)) (show 0 ≤ _ from (jI 18 a.toInt.toNat).1) (show _ ≤ 9999 from (jI 18 a.toInt.toNat).2)), ?_, ?_, ?_, ?_, ?_, ?_, ?_, ?_⟩
    · intro j q16 q17 q18
      rw [gsI_row q18, gsI_row q17, gsI_row q16]
      exact f0 j q16 q17 q18
    · exact f1
    · intro i hi
      rw [gsI_row (show 16 ≠ 18 by decide), gsI_row (show 16 ≠ 17 by decide), gsI_at]
      by_cases e : i = a.toInt.toNat
      · rw [if_pos (show 12 + i = 12 + a.toInt.toNat by omega), e]; exact f3 _ (by omega)
      · rw [if_neg (show ¬ 12 + i = 12 + a.toInt.toNat by omega)]; exact f2 i (by omega)
    · intro i hi
      rw [gsI_row (show 16 ≠ 18 by decide), gsI_row (show 16 ≠ 17 by decide), gsI_at, if_neg (show ¬ i = 12 + a.toInt.toNat by omega)]
      exact f3 i hi
    · intro i hi
      rw [gsI_row (show 17 ≠ 18 by decide), gsI_at]
      by_cases e : i = a.toInt.toNat
      · rw [if_pos (show 12 + i = 12 + a.toInt.toNat by omega), e]; exact f5 _ (by omega)
      · rw [if_neg (show ¬ 12 + i = 12 + a.toInt.toNat by omega), gsI_row (show 17 ≠ 16 by decide)]; exact f4 i (by omega)
    · intro i hi
      rw [gsI_row (show 17 ≠ 18 by decide), gsI_at, if_neg (show ¬ i = 12 + a.toInt.toNat by omega), gsI_row (show 17 ≠ 16 by decide)]
      exact f5 i hi
    · intro i hi
      rw [gsI_at]
      by_cases e : i = a.toInt.toNat
      · rw [if_pos (show 12 + i = 12 + a.toInt.toNat by omega), e]; exact (f7 _ (by omega)).trans (if_neg hc2).symm
      · rw [if_neg (show ¬ 12 + i = 12 + a.toInt.toNat by omega), gsI_row (show 18 ≠ 17 by decide), gsI_row (show 18 ≠ 16 by decide)]; exact f6 i (by omega)
    · intro i hi
      rw [gsI_at, if_neg (show ¬ i = 12 + a.toInt.toNat by omega), gsI_row (show 18 ≠ 17 by decide), gsI_row (show 18 ≠ 16 by decide)]
      exact f7 i hi
theorem st_133 {σ0 σ : gS} {P : gS → Prop} (hI : JM σ) (k : ∀ ρ, JM ρ → (∀ j, j ≠ 19 → ρ.1 j = σ.1 j) → ρ.2 = σ.2 → (∀ i : Nat, i < 24 → ρ.1 19 (24 + i) = σ.1 19 i) → (∀ i : Nat, i < 24 → ρ.1 19 i = σ.1 19 i) → Ok (lpc (S := Int32 × gS) K9 (fun rec s => bX10_stands_162 ρ (fun a1 σ1 => rec (a1, σ1)) s.1 s.2) (0, ρ)) P) : Ok (lpc (S := Int32 × gS) K9 (fun rec s => bX10_stands_133 σ0 (fun a1 σ1 => rec (a1, σ1)) s.1 s.2) (0, σ)) P := by
  refine ok_lpc (I := fun (n : Nat) (s : Int32 × gS) => n = (24 - s.1.toInt).toNat ∧ 0 ≤ s.1.toInt ∧ s.1.toInt ≤ 24 ∧ JM s.2 ∧ (∀ j, j ≠ 19 → s.2.1 j = σ.1 j) ∧ s.2.2 = σ.2 ∧ (∀ i : Nat, (i : Int) < s.1.toInt → s.2.1 19 (24 + i) = σ.1 19 i) ∧ (∀ i : Nat, i < 24 → s.2.1 19 i = σ.1 19 i)) (fun rec n s hs hrec => ?_) K9 24 (0, σ) ⟨show 24 = (24 - (0 : Int32).toInt).toNat by decide, show 0 ≤ (0 : Int32).toInt by decide, show (0 : Int32).toInt ≤ 24 by decide, hI, fun _ _ => rfl, rfl, fun i h => absurd h (by have := z0; dsimp only; omega), fun _ _ => rfl⟩ (by unfold K9; decide)
  obtain ⟨a, s⟩ := s
  obtain ⟨hn, h0, h1, jI, f0, f1, f2, f3⟩ := hs
  dsimp only at hn h0 h1 jI f0 f1 f2 f3 ⊢
  have lN : (24 : Int32).toInt = 24 := by decide
  unfold bX10_stands_133
  refine ok_ite.mpr ⟨fun h => ok_nm.mpr (k s jI f0 f1 (fun i hi => f2 i (by have := Int32.le_iff_toInt_le.mp h; omega)) f3), fun h => ?_⟩
  have hlt : a.toInt < 24 := by
    have := q_gt h
    omega
  have e1 := i_inc (a := a) (c := 24) (by omega) h1 (by decide)
  have lh24 : (24 : Int32).toInt = 24 := by decide
  have eh24 : (24 + a).toInt = 24 + a.toInt := by rw [iadd_toInt] <;> omega
  have en24 : (24 + a).toNatClampNeg = 24 + a.toInt.toNat := n_add (c := 24) (a := a) (k := 24) (by decide) h0 (by omega)
  refine ok_gd.mpr ⟨gb_of (by omega) (by omega), ok_nm.mpr (ok_gd.mpr ⟨gb_of (i := 24 + a) (n := 48) (by rw [eh24]; omega) (by rw [eh24]; omega), ok_nm.mpr ?_⟩)⟩
  rw [en24]
  refine ok_nm.mpr (hrec (24 - (a + 1).toInt).toNat (a + 1, _) (by omega) ?_)
  show _ = (24 - (a + 1).toInt).toNat ∧ 0 ≤ (a + 1).toInt ∧ (a + 1).toInt ≤ 24 ∧ JM (gsI s 19 (24 + a.toInt.toNat) (s.1 19 a.toInt.toNat)) ∧ (∀ j, j ≠ 19 → (gsI s 19 (24 + a.toInt.toNat) (s.1 19 a.toInt.toNat)).1 j = σ.1 j) ∧ (gsI s 19 (24 + a.toInt.toNat) (s.1 19 a.toInt.toNat)).2 = σ.2 ∧ (∀ i : Nat, (i : Int) < (a + 1).toInt → (gsI s 19 (24 + a.toInt.toNat) (s.1 19 a.toInt.toNat)).1 19 (24 + i) = σ.1 19 i) ∧ (∀ i : Nat, i < 24 → (gsI s 19 (24 + a.toInt.toNat) (s.1 19 a.toInt.toNat)).1 19 i = σ.1 19 i)
  refine ⟨rfl, by omega, by omega, (JM_w jI (Int32.le_toInt _) (Int32.toInt_le _)), ?_, ?_, ?_, ?_⟩
  · intro j q19
    rw [gsI_row q19]
    exact f0 j q19
  · exact f1
  · intro i hi
    rw [gsI_at]
    by_cases e : i = a.toInt.toNat
    · rw [if_pos (show 24 + i = 24 + a.toInt.toNat by omega), e]; exact f3 _ (by omega)
    · rw [if_neg (show ¬ 24 + i = 24 + a.toInt.toNat by omega)]; exact f2 i (by omega)
  · intro i hi
    rw [gsI_at, if_neg (show ¬ i = 24 + a.toInt.toNat by omega)]
    exact f3 i hi
theorem st_162 {σ0 σ : gS} {P : gS → Prop} (hI : JM σ) (k : ∀ ρ, JM ρ → (∀ j, j ≠ 20 → ρ.1 j = σ.1 j) → ρ.2 = σ.2 → (∀ i : Nat, i < 20 → ρ.1 20 (20 + i) = (if (σ.1 15 2).toInt ≤ (i : Int) then 0 else σ.1 20 i)) → (∀ i : Nat, i < 20 → ρ.1 20 i = σ.1 20 i) → Ok (lpc (S := Int32 × gS) K9 (fun rec s => bX10_stands_205 ρ (fun a1 σ1 => rec (a1, σ1)) s.1 s.2) (0, ρ)) P) : Ok (lpc (S := Int32 × gS) K9 (fun rec s => bX10_stands_162 σ0 (fun a1 σ1 => rec (a1, σ1)) s.1 s.2) (0, σ)) P := by
  refine ok_lpc (I := fun (n : Nat) (s : Int32 × gS) => n = (20 - s.1.toInt).toNat ∧ 0 ≤ s.1.toInt ∧ s.1.toInt ≤ 20 ∧ JM s.2 ∧ (∀ j, j ≠ 20 → s.2.1 j = σ.1 j) ∧ s.2.2 = σ.2 ∧ (∀ i : Nat, (i : Int) < s.1.toInt → s.2.1 20 (20 + i) = (if (σ.1 15 2).toInt ≤ (i : Int) then 0 else σ.1 20 i)) ∧ (∀ i : Nat, i < 20 → s.2.1 20 i = σ.1 20 i)) (fun rec n s hs hrec => ?_) K9 20 (0, σ) ⟨show 20 = (20 - (0 : Int32).toInt).toNat by decide, show 0 ≤ (0 : Int32).toInt by decide, show (0 : Int32).toInt ≤ 20 by decide, hI, fun _ _ => rfl, rfl, fun i h => absurd h (by have := z0; dsimp only; omega), fun _ _ => rfl⟩ (by unfold K9; decide)
  obtain ⟨a, s⟩ := s
  obtain ⟨hn, h0, h1, jI, f0, f1, f2, f3⟩ := hs
  dsimp only at hn h0 h1 jI f0 f1 f2 f3 ⊢
  have lN : (20 : Int32).toInt = 20 := by decide
  unfold bX10_stands_162
  refine ok_ite.mpr ⟨fun h => ok_nm.mpr (k s jI f0 f1 (fun i hi => f2 i (by have := Int32.le_iff_toInt_le.mp h; omega)) f3), fun h => ?_⟩
  have hlt : a.toInt < 20 := by
    have := q_gt h
    omega
  have e1 := i_inc (a := a) (c := 20) (by omega) h1 (by decide)
  have lh20 : (20 : Int32).toInt = 20 := by decide
  have eh20 : (20 + a).toInt = 20 + a.toInt := by rw [iadd_toInt] <;> omega
  have en20 : (20 + a).toNatClampNeg = 20 + a.toInt.toNat := n_add (c := 20) (a := a) (k := 20) (by decide) h0 (by omega)
  refine ok_gd.mpr ⟨by decide, ok_nm.mpr ?_⟩
  have ec : s.1 15 2 = σ.1 15 2 := by rw [f0 15 (by decide)]
  refine ok_ite.mpr ⟨fun hc => ?_, fun hc => ?_⟩
  · have hc1 := Int32.le_iff_toInt_le.mp hc
    have hcx : (s.1 15 2).toInt ≤ a.toInt := hc1
    rw [ec] at hcx
    have hc2 : (σ.1 15 2).toInt ≤ ((a.toInt.toNat : Nat) : Int) := by omega
    refine ok_gd.mpr ⟨gb_of (i := 20 + a) (n := 40) (by rw [eh20]; omega) (by rw [eh20]; omega), ok_nm.mpr ?_⟩
    rw [en20]
    refine ok_nm.mpr (hrec (20 - (a + 1).toInt).toNat (a + 1, _) (by omega) ?_)
    show _ = (20 - (a + 1).toInt).toNat ∧ 0 ≤ (a + 1).toInt ∧ (a + 1).toInt ≤ 20 ∧ JM (gsI s 20 (20 + a.toInt.toNat) 0) ∧ (∀ j, j ≠ 20 → (gsI s 20 (20 + a.toInt.toNat) 0).1 j = σ.1 j) ∧ (gsI s 20 (20 + a.toInt.toNat) 0).2 = σ.2 ∧ (∀ i : Nat, (i : Int) < (a + 1).toInt → (gsI s 20 (20 + a.toInt.toNat) 0).1 20 (20 + i) = (if (σ.1 15 2).toInt ≤ (i : Int) then 0 else σ.1 20 i)) ∧ (∀ i : Nat, i < 20 → (gsI s 20 (20 + a.toInt.toNat) 0).1 20 i = σ.1 20 i)
    refine ⟨rfl, by omega, by omega, (JM_w jI (Int32.le_toInt _) (Int32.toInt_le _)), ?_, ?_, ?_, ?_⟩
    · intro j q20
      rw [gsI_row q20]
      exact f0 j q20
    · exact f1
    · intro i hi
      rw [gsI_at]
      by_cases e : i = a.toInt.toNat
      · rw [if_pos (show 20 + i = 20 + a.toInt.toNat by omega), e]; exact (if_pos hc2).symm
      · rw [if_neg (show ¬ 20 + i = 20 + a.toInt.toNat by omega)]; exact f2 i (by omega)
    · intro i hi
      rw [gsI_at, if_neg (show ¬ i = 20 + a.toInt.toNat by omega)]
      exact f3 i hi
  · have hc1 := q_gt hc
    have hcx : a.toInt < (s.1 15 2).toInt := hc1
    rw [ec] at hcx
    have hc2 : ¬ (σ.1 15 2).toInt ≤ ((a.toInt.toNat : Nat) : Int) := by omega
    refine ok_gd.mpr ⟨gb_of (by omega) (by omega), ok_nm.mpr (ok_gd.mpr ⟨gb_of (i := 20 + a) (n := 40) (by rw [eh20]; omega) (by rw [eh20]; omega), ok_nm.mpr ?_⟩)⟩
    rw [en20]
    refine ok_nm.mpr (hrec (20 - (a + 1).toInt).toNat (a + 1, _) (by omega) ?_)
    show _ = (20 - (a + 1).toInt).toNat ∧ 0 ≤ (a + 1).toInt ∧ (a + 1).toInt ≤ 20 ∧ JM (gsI s 20 (20 + a.toInt.toNat) (s.1 20 a.toInt.toNat)) ∧ (∀ j, j ≠ 20 → (gsI s 20 (20 + a.toInt.toNat) (s.1 20 a.toInt.toNat)).1 j = σ.1 j) ∧ (gsI s 20 (20 + a.toInt.toNat) (s.1 20 a.toInt.toNat)).2 = σ.2 ∧ (∀ i : Nat, (i : Int) < (a + 1).toInt → (gsI s 20 (20 + a.toInt.toNat) (s.1 20 a.toInt.toNat)).1 20 (20 + i) = (if (σ.1 15 2).toInt ≤ (i : Int) then 0 else σ.1 20 i)) ∧ (∀ i : Nat, i < 20 → (gsI s 20 (20 + a.toInt.toNat) (s.1 20 a.toInt.toNat)).1 20 i = σ.1 20 i)
    refine ⟨rfl, by omega, by omega, (JM_w jI (Int32.le_toInt _) (Int32.toInt_le _)), ?_, ?_, ?_, ?_⟩
    · intro j q20
      rw [gsI_row q20]
      exact f0 j q20
    · exact f1
    · intro i hi
      rw [gsI_at]
      by_cases e : i = a.toInt.toNat
      · rw [if_pos (show 20 + i = 20 + a.toInt.toNat by omega), e]; exact (f3 _ (by omega)).trans (if_neg hc2).symm
      · rw [if_neg (show ¬ 20 + i = 20 + a.toInt.toNat by omega)]; exact f2 i (by omega)
    · intro i hi
      rw [gsI_at, if_neg (show ¬ i = 20 + a.toInt.toNat by omega)]
      exact f3 i hi
theorem st_205 {σ0 σ : gS} {P : gS → Prop} (hI : JM σ) (k : ∀ ρ, JM ρ → (∀ j, j ≠ 21 → ρ.1 j = σ.1 j) → ρ.2 = σ.2 → (∀ i : Nat, i < 40 → ρ.1 21 (40 + i) = σ.1 21 i) → (∀ i : Nat, i < 40 → ρ.1 21 i = σ.1 21 i) → Ok (lpc (S := Int32 × gS) K9 (fun rec s => bX10_stands_234 ρ (fun a1 σ1 => rec (a1, σ1)) s.1 s.2) (0, ρ)) P) : Ok (lpc (S := Int32 × gS) K9 (fun rec s => bX10_stands_205 σ0 (fun a1 σ1 => rec (a1, σ1)) s.1 s.2) (0, σ)) P := by
  refine ok_lpc (I := fun (n : Nat) (s : Int32 × gS) => n = (40 - s.1.toInt).toNat ∧ 0 ≤ s.1.toInt ∧ s.1.toInt ≤ 40 ∧ JM s.2 ∧ (∀ j, j ≠ 21 → s.2.1 j = σ.1 j) ∧ s.2.2 = σ.2 ∧ (∀ i : Nat, (i : Int) < s.1.toInt → s.2.1 21 (40 + i) = σ.1 21 i) ∧ (∀ i : Nat, i < 40 → s.2.1 21 i = σ.1 21 i)) (fun rec n s hs hrec => ?_) K9 40 (0, σ) ⟨show 40 = (40 - (0 : Int32).toInt).toNat by decide, show 0 ≤ (0 : Int32).toInt by decide, show (0 : Int32).toInt ≤ 40 by decide, hI, fun _ _ => rfl, rfl, fun i h => absurd h (by have := z0; dsimp only; omega), fun _ _ => rfl⟩ (by unfold K9; decide)
  obtain ⟨a, s⟩ := s
  obtain ⟨hn, h0, h1, jI, f0, f1, f2, f3⟩ := hs
  dsimp only at hn h0 h1 jI f0 f1 f2 f3 ⊢
  have lN : (40 : Int32).toInt = 40 := by decide
  unfold bX10_stands_205
  refine ok_ite.mpr ⟨fun h => ok_nm.mpr (k s jI f0 f1 (fun i hi => f2 i (by have := Int32.le_iff_toInt_le.mp h; omega)) f3), fun h => ?_⟩
  have hlt : a.toInt < 40 := by
    have := q_gt h
    omega
  have e1 := i_inc (a := a) (c := 40) (by omega) h1 (by decide)
  have lh40 : (40 : Int32).toInt = 40 := by decide
  have eh40 : (40 + a).toInt = 40 + a.toInt := by rw [iadd_toInt] <;> omega
  have en40 : (40 + a).toNatClampNeg = 40 + a.toInt.toNat := n_add (c := 40) (a := a) (k := 40) (by decide) h0 (by omega)
  refine ok_gd.mpr ⟨gb_of (by omega) (by omega), ok_nm.mpr (ok_gd.mpr ⟨gb_of (i := 40 + a) (n := 80) (by rw [eh40]; omega) (by rw [eh40]; omega), ok_nm.mpr ?_⟩)⟩
  rw [en40]
  refine ok_nm.mpr (hrec (40 - (a + 1).toInt).toNat (a + 1, _) (by omega) ?_)
  show _ = (40 - (a + 1).toInt).toNat ∧ 0 ≤ (a + 1).toInt ∧ (a + 1).toInt ≤ 40 ∧ JM (gsI s 21 (40 + a.toInt.toNat) (s.1 21 a.toInt.toNat)) ∧ (∀ j, j ≠ 21 → (gsI s 21 (40 + a.toInt.toNat) (s.1 21 a.toInt.toNat)).1 j = σ.1 j) ∧ (gsI s 21 (40 + a.toInt.toNat) (s.1 21 a.toInt.toNat)).2 = σ.2 ∧ (∀ i : Nat, (i : Int) < (a + 1).toInt → (gsI s 21 (40 + a.toInt.toNat) (s.1 21 a.toInt.toNat)).1 21 (40 + i) = σ.1 21 i) ∧ (∀ i : Nat, i < 40 → (gsI s 21 (40 + a.toInt.toNat) (s.1 21 a.toInt.toNat)).1 21 i = σ.1 21 i)
  refine ⟨rfl, by omega, by omega, (JM_w jI (Int32.le_toInt _) (Int32.toInt_le _)), ?_, ?_, ?_, ?_⟩
  · intro j q21
    rw [gsI_row q21]
    exact f0 j q21
  · exact f1
  · intro i hi
    rw [gsI_at]
    by_cases e : i = a.toInt.toNat
    · rw [if_pos (show 40 + i = 40 + a.toInt.toNat by omega), e]; exact f3 _ (by omega)
    · rw [if_neg (show ¬ 40 + i = 40 + a.toInt.toNat by omega)]; exact f2 i (by omega)
  · intro i hi
    rw [gsI_at, if_neg (show ¬ i = 40 + a.toInt.toNat by omega)]
    exact f3 i hi
theorem st_234 {σ0 σ : gS} {P : gS → Prop} (hI : JM σ) (k : ∀ ρ, JM ρ → (∀ j, j ≠ 22 → j ≠ 23 → j ≠ 25 → j ≠ 26 → ρ.1 j = σ.1 j) → ρ.2 = σ.2 → (∀ i : Nat, i < 60 → ρ.1 22 (60 + i) = σ.1 22 i) → (∀ i : Nat, i < 60 → ρ.1 22 i = σ.1 22 i) → (∀ i : Nat, i < 60 → ρ.1 23 (60 + i) = σ.1 23 i) → (∀ i : Nat, i < 60 → ρ.1 23 i = σ.1 23 i) → (∀ i : Nat, i < 60 → ρ.1 25 (60 + i) = σ.1 25 i) → (∀ i : Nat, i < 60 → ρ.1 25 i = σ.1 25 i) → (∀ i : Nat, i < 60 → ρ.1 26 i = 0) → Ok (lpc (S := Int32 × gS) K9 (fun rec s => bX10_stands_300 ρ (fun a1 σ1 => rec (a1, σ1)) s.1 s.2) (0, ρ)) P) : Ok (lpc (S := Int32 × gS) K9 (fun rec s => bX10_stands_234 σ0 (fun a1 σ1 => rec (a1, σ1)) s.1 s.2) (0, σ)) P := by
  refine ok_lpc (I := fun (n : Nat) (s : Int32 × gS) => n = (60 - s.1.toInt).toNat ∧ 0 ≤ s.1.toInt ∧ s.1.toInt ≤ 60 ∧ JM s.2 ∧ (∀ j, j ≠ 22 → j ≠ 23 → j ≠ 25 → j ≠ 26 → s.2.1 j = σ.1 j) ∧ s.2.2 = σ.2 ∧ (∀ i : Nat, (i : Int) < s.1.toInt → s.2.1 22 (60 + i) = σ.1 22 i) ∧ (∀ i : Nat, i < 60 → s.2.1 22 i = σ.1 22 i) ∧ (∀ i : Nat, (i : Int) < s.1.toInt → s.2.1 23 (60 + i) = σ.1 23 i) ∧ (∀ i : Nat, i < 60 → s.2.1 23 i = σ.1 23 i) ∧ (∀ i : Nat, (i : Int) < s.1.toInt → s.2.1 25 (60 + i) = σ.1 25 i) ∧ (∀ i : Nat, i < 60 → s.2.1 25 i = σ.1 25 i) ∧ (∀ i : Nat, (i : Int) < s.1.toInt → s.2.1 26 i = 0)) (fun rec n s hs hrec => ?_) K9 60 (0, σ) ⟨show 60 = (60 - (0 : Int32).toInt).toNat by decide, show 0 ≤ (0 : Int32).toInt by decide, show (0 : Int32).toInt ≤ 60 by decide, hI, fun _ _ _ _ _ => rfl, rfl, fun i h => absurd h (by have := z0; dsimp only; omega), fun _ _ => rfl, fun i h => absurd h (by have := z0; dsimp only; omega), fun _ _ => rfl, fun i h => absurd h (by have := z0; dsimp only; omega), fun _ _ => rfl, fun i h => absurd h (by have := z0; dsimp only; omega)⟩ (by unfold K9; decide)
  obtain ⟨a, s⟩ := s
  obtain ⟨hn, h0, h1, jI, f0, f1, f2, f3, f4, f5, f6, f7, f8⟩ := hs
  dsimp only at hn h0 h1 jI f0 f1 f2 f3 f4 f5 f6 f7 f8 ⊢
  have lN : (60 : Int32).toInt = 60 := by decide
  unfold bX10_stands_234
  refine ok_ite.mpr ⟨fun h => ok_nm.mpr (k s jI f0 f1 (fun i hi => f2 i (by have := Int32.le_iff_toInt_le.mp h; omega)) f3 (fun i hi => f4 i (by have := Int32.le_iff_toInt_le.mp h; omega)) f5 (fun i hi => f6 i (by have := Int32.le_iff_toInt_le.mp h; omega)) f7 (fun i hi => f8 i (by have := Int32.le_iff_toInt_le.mp h; omega))), fun h => ?_⟩
  have hlt : a.toInt < 60 := by
    have := q_gt h
    omega
  have e1 := i_inc (a := a) (c := 60) (by omega) h1 (by decide)
  have lh60 : (60 : Int32).toInt = 60 := by decide
  have eh60 : (60 + a).toInt = 60 + a.toInt := by rw [iadd_toInt] <;> omega
  have en60 : (60 + a).toNatClampNeg = 60 + a.toInt.toNat := n_add (c := 60) (a := a) (k := 60) (by decide) h0 (by omega)
  refine ok_gd.mpr ⟨gb_of (by omega) (by omega), ok_nm.mpr (ok_gd.mpr ⟨gb_of (i := 60 + a) (n := 120) (by rw [eh60]; omega) (by rw [eh60]; omega), ok_nm.mpr ?_⟩)⟩
  refine ok_gd.mpr ⟨gb_of (by omega) (by omega), ok_nm.mpr (ok_gd.mpr ⟨gb_of (i := 60 + a) (n := 120) (by rw [eh60]; omega) (by rw [eh60]; omega), ok_nm.mpr ?_⟩)⟩
  refine ok_gd.mpr ⟨gb_of (by omega) (by omega), ok_nm.mpr (ok_gd.mpr ⟨gb_of (i := 60 + a) (n := 120) (by rw [eh60]; omega) (by rw [eh60]; omega), ok_nm.mpr ?_⟩)⟩
  refine ok_gd.mpr ⟨gb_of (by omega) (by omega), ok_nm.mpr ?_⟩
  rw [en60]
  refine ok_nm.mpr (hrec (60 - (a + 1).toInt).toNat (a + 1, _) (by omega) ?_)
  show _ = (60 - (a + 1).toInt).toNat ∧ 0 ≤ (a + 1).toInt ∧ (a + 1).toInt ≤ 60 ∧ JM (gsI (gsI (gsI (gsI s 22 (60 + a.toInt.toNat) (s.1 22 a.toInt.toNat)) 23 (60 + a.toInt.toNat) (s.1 23 a.toInt.toNat)) 25 (60 + a.toInt.toNat) (s.1 25 a.toInt.toNat)) 26 (a.toInt.toNat) (vp_nar .boolean 0)) ∧ (∀ j, j ≠ 22 → j ≠ 23 → j ≠ 25 → j ≠ 26 → (gsI (gsI (gsI (gsI s 22 (60 + a.toInt.toNat) (s.1 22 a.toInt.toNat)) 23 (60 + a.toInt.toNat) (s.1 23 a.toInt.toNat)) 25 (60 + a.toInt.toNat) (s.1 25 a.toInt.toNat)) 26 (a.toInt.toNat) (vp_nar .boolean 0)).1 j = σ.1 j) ∧ (gsI (gsI (gsI (gsI s 22 (60 + a.toInt.toNat) (s.1 22 a.toInt.toNat)) 23 (60 + a.toInt.toNat) (s.1 23 a.toInt.toNat)) 25 (60 + a.toInt.toNat) (s.1 25 a.toInt.toNat)) 26 (a.toInt.toNat) (vp_nar .boolean 0)).2 = σ.2 ∧ (∀ i : Nat, (i : Int) < (a + 1).toInt → (gsI (gsI (gsI (gsI s 22 (60 + a.toInt.toNat) (s.1 22 a.toInt.toNat)) 23 (60 + a.toInt.toNat) (s.1 23 a.toInt.toNat)) 25 (60 + a.toInt.toNat) (s.1 25 a.toInt.toNat)) 26 (a.toInt.toNat) (vp_nar .boolean 0)).1 22 (60 + i) = σ.1 22 i) ∧ (∀ i : Nat, i < 60 → (gsI (gsI (gsI (gsI s 22 (60 + a.toInt.toNat) (s.1 22 a.toInt.toNat)) 23 (60 + a.toInt.toNat) (s.1 23 a.toInt.toNat)) 25 (60 + a.toInt.toNat) (s.1 25 a.toInt.toNat)) 26 (a.toInt.toNat) (vp_nar .boolean 0)).1 22 i = σ.1 22 i) ∧ (∀ i : Nat, (i : Int) < (a + 1).toInt → (gsI (gsI (gsI (gsI s 22 (60 + a.toInt.toNat) (s.1 22 a.toInt.toNat)) 23 (60 + a.toInt.toNat) (s.1 23 a.toInt.toNat)) 25 (60 + a.toInt.toNat) (s.1 25 a.toInt.toNat)) 26 (a.toInt.toNat) (vp_nar .boolean 0)).1 23 (60 + i) = σ.1 23 i) ∧ (∀ i : Nat, i < 60 → (gsI (gsI (gsI (gsI s 22 (60 + a.toInt.toNat) (s.1 22 a.toInt.toNat)) 23 (60 + a.toInt.toNat) (s.1 23 a.toInt.toNat)) 25 (60 + a.toInt.toNat) (s.1 25 a.toInt.toNat)) 26 (a.toInt.toNat) (vp_nar .boolean 0)).1 23 i = σ.1 23 i) ∧ (∀ i : Nat, (i : Int) < (a + 1).toInt → (gsI (gsI (gsI (gsI s 22 (60 + a.toInt.toNat) (s.1 22 a.toInt.toNat)) 23 (60 + a.toInt.toNat) (s.1 23 a.toInt.toNat)) 25 (60 + a.toInt.toNat) (s.1 25 a.toInt.toNat)) 26 (a.toInt.toNat) (vp_nar .boolean 0)).1 25 (60 + i) = σ.1 25 i) ∧ (∀ i : Nat, i < 60 → (gsI (gsI (gsI (gsI s 22 (60 + a.toInt.toNat) (s.1 22 a.toInt.toNat)) 23 (60 + a.toInt.toNat) (s.1 23 a.toInt.toNat)) 25 (60 + a.toInt.toNat) (s.1 25 a.toInt.toNat)) 26 (a.toInt.toNat) (vp_nar .boolean 0)).1 25 i = σ.1 25 i) ∧ (∀ i : Nat, (i : Int) < (a + 1).toInt → (gsI (gsI (gsI (gsI s 22 (60 + a.toInt.toNat) (s.1 22 a.toInt.toNat)) 23 (60 + a.toInt.toNat) (s.1 23 a.toInt.toNat)) 25 (60 + a.toInt.toNat) (s.1 25 a.toInt.toNat)) 26 (a.toInt.toNat) (vp_nar .boolean 0)).1 26 i = 0)
  refine ⟨rfl, by omega, by omega, (JM_w (JM_w (JM_w (JM_w jI (show 0 ≤ _ from (jI 22 a.toInt.toNat).1) (show _ ≤ 11 from (jI 22 a.toInt.toNat).2)) (show 0 ≤ _ from (jI 23 a.toInt.toNat).1) (show _ ≤ 19 from (jI 23 a.toInt.toNat).2)) (Int32.le_toInt _) (Int32.toInt_le _)) (Int32.le_toInt _) (Int32.toInt_le _)), ?_, ?_, ?_, ?_, ?_, ?_, ?_, ?_, ?_⟩
  · intro j q22 q23 q25 q26
    rw [gsI_row q26, gsI_row q25, gsI_row q23, gsI_row q22]
    exact f0 j q22 q23 q25 q26
  · exact f1
  · intro i hi
    rw [gsI_row (show 22 ≠ 26 by decide), gsI_row (show 22 ≠ 25 by decide), gsI_row (show 22 ≠ 23 by decide), gsI_at]
    by_cases e : i = a.toInt.toNat
    · rw [if_pos (show 60 + i = 60 + a.toInt.toNat by omega), e]; exact f3 _ (by omega)
    · rw [if_neg (show ¬ 60 + i = 60 + a.toInt.toNat by omega)]; exact f2 i (by omega)
  · intro i hi
    rw [gsI_row (show 22 ≠ 26 by decide), gsI_row (show 22 ≠ 25 by decide), gsI_row (show 22 ≠ 23 by decide), gsI_at, if_neg (show ¬ i = 60 + a.toInt.toNat by omega)]
    exact f3 i hi
  · intro i hi
    rw [gsI_row (show 23 ≠ 26 by decide), gsI_row (show 23 ≠ 25 by decide), gsI_at]
    by_cases e : i = a.toInt.toNat
    · rw [if_pos (show 60 + i = 60 + a.toInt.toNat by omega), e]; exact f5 _ (by omega)
    · rw [if_neg (show ¬ 60 + i = 60 + a.toInt.toNat by omega), gsI_row (show 23 ≠ 22 by decide)]; exact f4 i (by omega)
  · intro i hi
    rw [gsI_row (show 23 ≠ 26 by decide), gsI_row (show 23 ≠ 25 by decide), gsI_at, if_neg (show ¬ i = 60 + a.toInt.toNat by omega), gsI_row (show 23 ≠ 22 by decide)]
    exact f5 i hi
  · intro i hi
    rw [gsI_row (show 25 ≠ 26 by decide), gsI_at]
    by_cases e : i = a.toInt.toNat
    · rw [if_pos (show 60 + i = 60 + a.toInt.toNat by omega), e]; exact f7 _ (by omega)
    · rw [if_neg (show ¬ 60 + i = 60 + a.toInt.toNat by omega), gsI_row (show 25 ≠ 23 by decide), gsI_row (show 25 ≠ 22 by decide)]; exact f6 i (by omega)
  · intro i hi
    rw [gsI_row (show 25 ≠ 26 by decide), gsI_at, if_neg (show ¬ i = 60 + a.toInt.toNat by omega), gsI_row (show 25 ≠ 23 by decide), gsI_row (show 25 ≠ 22 by decide)]
    exact f7 i hi
  · intro i hi
    rw [gsI_at, nb0]
    by_cases e : i = a.toInt.toNat
    · rw [if_pos e]
    · rw [if_neg e, gsI_row (show 26 ≠ 25 by decide), gsI_row (show 26 ≠ 23 by decide), gsI_row (show 26 ≠ 22 by decide)]; exact f8 i (by omega)
theorem st_300 {σ0 σ : gS} {P : gS → Prop} (hI : JM σ) (k : ∀ ρ, JM ρ → (∀ j, j ≠ 24 → ρ.1 j = σ.1 j) → ρ.2 = σ.2 → (∀ i : Nat, i < 120 → ρ.1 24 (120 + i) = σ.1 24 i) → (∀ i : Nat, i < 120 → ρ.1 24 i = σ.1 24 i) → Ok (bd2 (fX10_starts (gsI ρ 0 36 3)) fun r19 σ20 => some σ20) P) : Ok (lpc (S := Int32 × gS) K9 (fun rec s => bX10_stands_300 σ0 (fun a1 σ1 => rec (a1, σ1)) s.1 s.2) (0, σ)) P := by
  refine ok_lpc (I := fun (n : Nat) (s : Int32 × gS) => n = (120 - s.1.toInt).toNat ∧ 0 ≤ s.1.toInt ∧ s.1.toInt ≤ 120 ∧ JM s.2 ∧ (∀ j, j ≠ 24 → s.2.1 j = σ.1 j) ∧ s.2.2 = σ.2 ∧ (∀ i : Nat, (i : Int) < s.1.toInt → s.2.1 24 (120 + i) = σ.1 24 i) ∧ (∀ i : Nat, i < 120 → s.2.1 24 i = σ.1 24 i)) (fun rec n s hs hrec => ?_) K9 120 (0, σ) ⟨show 120 = (120 - (0 : Int32).toInt).toNat by decide, show 0 ≤ (0 : Int32).toInt by decide, show (0 : Int32).toInt ≤ 120 by decide, hI, fun _ _ => rfl, rfl, fun i h => absurd h (by have := z0; dsimp only; omega), fun _ _ => rfl⟩ (by unfold K9; decide)
  obtain ⟨a, s⟩ := s
  obtain ⟨hn, h0, h1, jI, f0, f1, f2, f3⟩ := hs
  dsimp only at hn h0 h1 jI f0 f1 f2 f3 ⊢
  have lN : (120 : Int32).toInt = 120 := by decide
  unfold bX10_stands_300
  refine ok_ite.mpr ⟨fun h => ok_nm.mpr (k s jI f0 f1 (fun i hi => f2 i (by have := Int32.le_iff_toInt_le.mp h; omega)) f3), fun h => ?_⟩
  have hlt : a.toInt < 120 := by
    have := q_gt h
    omega
  have e1 := i_inc (a := a) (c := 120) (by omega) h1 (by decide)
  have lh120 : (120 : Int32).toInt = 120 := by decide
  have eh120 : (120 + a).toInt = 120 + a.toInt := by rw [iadd_toInt] <;> omega
  have en120 : (120 + a).toNatClampNeg = 120 + a.toInt.toNat := n_add (c := 120) (a := a) (k := 120) (by decide) h0 (by omega)
  refine ok_gd.mpr ⟨gb_of (by omega) (by omega), ok_nm.mpr (ok_gd.mpr ⟨gb_of (i := 120 + a) (n := 240) (by rw [eh120]; omega) (by rw [eh120]; omega), ok_nm.mpr ?_⟩)⟩
  rw [en120]
  refine ok_nm.mpr (hrec (120 - (a + 1).toInt).toNat (a + 1, _) (by omega) ?_)
  show _ = (120 - (a + 1).toInt).toNat ∧ 0 ≤ (a + 1).toInt ∧ (a + 1).toInt ≤ 120 ∧ JM (gsI s 24 (120 + a.toInt.toNat) (s.1 24 a.toInt.toNat)) ∧ (∀ j, j ≠ 24 → (gsI s 24 (120 + a.toInt.toNat) (s.1 24 a.toInt.toNat)).1 j = σ.1 j) ∧ (gsI s 24 (120 + a.toInt.toNat) (s.1 24 a.toInt.toNat)).2 = σ.2 ∧ (∀ i : Nat, (i : Int) < (a + 1).toInt → (gsI s 24 (120 + a.toInt.toNat) (s.1 24 a.toInt.toNat)).1 24 (120 + i) = σ.1 24 i) ∧ (∀ i : Nat, i < 120 → (gsI s 24 (120 + a.toInt.toNat) (s.1 24 a.toInt.toNat)).1 24 i = σ.1 24 i)
  refine ⟨rfl, by omega, by omega, (JM_w jI (Int32.le_toInt _) (Int32.toInt_le _)), ?_, ?_, ?_, ?_⟩
  · intro j q24
    rw [gsI_row q24]
    exact f0 j q24
  · exact f1
  · intro i hi
    rw [gsI_at]
    by_cases e : i = a.toInt.toNat
    · rw [if_pos (show 120 + i = 120 + a.toInt.toNat by omega), e]; exact f3 _ (by omega)
    · rw [if_neg (show ¬ 120 + i = 120 + a.toInt.toNat by omega)]; exact f2 i (by omega)
  · intro i hi
    rw [gsI_at, if_neg (show ¬ i = 120 + a.toInt.toNat by omega)]
    exact f3 i hi
end PM
