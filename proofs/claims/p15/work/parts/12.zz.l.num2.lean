/-! WHOLE, 5: the unknowns numbered: the class's loops -/
section P12ZZL
/-- marks: row 97 holds 0 where marked, -1 elsewhere -/
def mk97 (τ : gS) (D : Nat → Prop) : Prop := ∀ k : Nat, k < 38 → (τ.1 97 k = 0 ∨ τ.1 97 k = -1) ∧ (τ.1 97 k = 0 ↔ D k)
theorem mk97_w {τ : gS} {D E : Nat → Prop} {i : Nat} (h : mk97 τ D) (e : ∀ k, k < 38 → (E k ↔ D k ∨ i = k)) : mk97 (gsI τ 97 i 0) E := fun k hk => by
  rw [gsI_at]
  by_cases z : k = i
  · rw [if_pos z]
    exact ⟨.inl rfl, fun _ => (e k hk).mpr (.inr z.symm), fun _ => rfl⟩
  · rw [if_neg z]
    refine ⟨(h k hk).1, fun y => (e k hk).mpr (.inl ((h k hk).2.mp y)), fun y => ?_⟩
    rcases (e k hk).mp y with y | y
    · exact (h k hk).2.mpr y
    · exact absurd y.symm z
theorem mk97_e {τ : gS} {D E : Nat → Prop} (h : mk97 τ D) (e : ∀ k, k < 38 → (E k ↔ D k)) : mk97 τ E := fun k hk => ⟨(h k hk).1, (h k hk).2.trans (e k hk).symm⟩
def st97 (σ τ : gS) : Prop := (∀ k, k ≠ 97 → τ.1 k = σ.1 k) ∧ τ.2 = σ.2
theorem st97_w {σ τ : gS} {i : Nat} {x : Int32} (h : st97 σ τ) : st97 σ (gsI τ 97 i x) := ⟨fun k hk => (gsI_row hk).trans (h.1 k hk), h.2⟩
theorem k_num1 {σ s τ : gS} (h : GT σ s) (h1 : st97 σ τ) (h2 : mk97 τ (fun _ => False)) : ∃ ρ : gS, (st97 σ ρ ∧ mk97 ρ (MK9 s (s.1 15 9).toInt.toNat 0)) ∧ lpc (S := Int32 × gS) K9 (fun rec u => bX4_numberUnknowns_10 τ (fun a1 σ1 => rec (a1, σ1)) u.1 u.2) (0, τ) = lpc (S := Int32 × gS) K9 (fun rec u => bX4_numberUnknowns_97 ρ (fun a1 σ1 => rec (a1, σ1)) u.1 u.2) (0, ρ) := by
  have z0' := z0
  have l12 : (12 : Int32).toInt = 12 := by decide
  obtain ⟨⟨b9, b8, b7, b6⟩, wr, wp⟩ := wf_gt h
  have fx := fx_gt h
  have T := h.2.2.1
  have G := h.2.2.2
  refine lpc_ex (F := fun ρ => lpc (S := Int32 × gS) K9 (fun rec u => bX4_numberUnknowns_97 ρ (fun a1 σ1 => rec (a1, σ1)) u.1 u.2) (0, ρ)) (I := fun (n : Nat) (u : Int32 × gS) => n = ((s.1 15 9).toInt - u.1.toInt).toNat ∧ 0 ≤ u.1.toInt ∧ u.1.toInt ≤ (s.1 15 9).toInt ∧ st97 σ u.2 ∧ mk97 u.2 (MK9 s u.1.toInt.toNat 0)) (fun rec n u hs => ?_) K9 (s.1 15 9).toInt.toNat (0, τ) ⟨by dsimp only; omega, by dsimp only; omega, by dsimp only; omega, h1, mk97_e h2 (fun k _ => ⟨fun y => absurd y (by dsimp only; rw [n_0]; exact MK9_0), fun y => absurd y (fun z => z)⟩)⟩ (by unfold K9; omega)
  obtain ⟨a, ρ⟩ := u
  obtain ⟨hn, a0, a1, g1, g2⟩ := hs
  dsimp only at hn a0 a1 g1 g2 ⊢
  unfold bX4_numberUnknowns_10
  have e3 : ρ.1 3 ((3 : Int32).toNatClampNeg) = s.1 15 9 := by rw [g1.1 3 (by decide)]; exact T.1 3 (by decide)
  rw [q_gd (by decide), nm_eq, e3]
  by_cases c : s.1 15 9 ≤ a
  · have c' := Int32.le_iff_toInt_le.mp c
    rw [if_pos c, nm_eq]
    refine .inl ⟨ρ, ⟨g1, ?_⟩, rfl⟩
    rw [show (s.1 15 9).toInt.toNat = a.toInt.toNat by omega]
    exact g2
  · have c' := q_gt c
    have ei := i_inc (a := a) (c := 60) (by omega) (by omega) (by decide)
    have en : (a + 1).toInt.toNat = a.toInt.toNat + 1 := by omega
    have R := T.2.2.2.2 a.toInt.toNat (by omega)
    have W := wr a.toInt.toNat (by omega)
    have D7 := G.2.2.2.2.2.2.1 a.toInt.toNat (by omega)
    have us := c_usesK ρ (r := a) a0 (by omega)
    rw [g1.1 58 (by decide), D7.1] at us
    rw [if_neg c, q_bd us]
    by_cases y : s.1 26 a.toInt.toNat = 0
    · rw [if_pos y, if_neg one_ne, q_gd (gb_of a0 (by omega)), nm_eq, n_toInt]
      have e10 : ρ.1 10 a.toInt.toNat = s.1 22 (60 + a.toInt.toNat) := by rw [g1.1 10 (by decide)]; exact R.1
      have e11 : ∀ v, gsI ρ 97 (s.1 22 (60 + a.toInt.toNat)).toInt.toNat 0 = v → v.1 11 a.toInt.toNat = s.1 23 (60 + a.toInt.toNat) := fun v hv => by rw [← hv, gsI_row (show 11 ≠ 97 by decide), g1.1 11 (by decide)]; exact R.2.1
      rw [e10, q_gd (gb_of W.1.1 (by omega)), nm_eq, n_toInt]
      obtain ⟨v, hv⟩ : ∃ v, gsI ρ 97 (s.1 22 (60 + a.toInt.toNat)).toInt.toNat 0 = v := ⟨_, rfl⟩
      have v1 : st97 σ v := by rw [← hv]; exact st97_w g1
      rw [hv, q_gd (gb_of a0 (by omega)), nm_eq, e11 v hv]
      have fk : fixK v (s.1 23 (60 + a.toInt.toNat)).toInt.toNat ↔ ¬ freeM s (s.1 23 (60 + a.toInt.toNat)).toInt.toNat := by
        unfold fixK
        rw [v1.1 16 (by decide), v1.1 47 (by decide), fx _ (by omega)]
      rcases c_fixK v (q := s.1 23 (60 + a.toInt.toNat)) W.2.1.1 (by omega) with ⟨f1, f2⟩ | ⟨f1, f2⟩
      · have fm : freeM s (s.1 23 (60 + a.toInt.toNat)).toInt.toNat := Classical.byContradiction (fun z => f2 (fk.mpr z))
        have e12 : (12 + s.1 23 (60 + a.toInt.toNat)).toInt = 12 + (s.1 23 (60 + a.toInt.toNat)).toInt := by rw [iadd_toInt] <;> omega
        have n12 : (12 + s.1 23 (60 + a.toInt.toNat)).toNatClampNeg = 12 + (s.1 23 (60 + a.toInt.toNat)).toInt.toNat := by rw [n_toInt]; omega
        rw [q_bd f1, if_pos rfl, q_gd (gb_of a0 (by omega)), nm_eq, q_gd (gb_of (by omega) (by omega)), nm_eq, nm_eq, n12]
        refine .inr ⟨_, rfl, ((s.1 15 9).toInt - (a + 1).toInt).toNat, by omega, ⟨rfl, by dsimp only; omega, by dsimp only; omega, st97_w v1, ?_⟩⟩
        dsimp only
        rw [en, ← hv]
        refine mk97_w (D := fun k => MK9 s a.toInt.toNat 0 k ∨ (s.1 22 (60 + a.toInt.toNat)).toInt.toNat = k) (mk97_w g2 (fun k _ => Iff.rfl)) (fun k _ => ?_)
        rw [MK9_r]
        constructor
        · rintro (u | ⟨-, u | ⟨u, -⟩⟩)
          · exact .inl (.inl u)
          · exact .inl (.inr u)
          · exact .inr u
        · rintro ((u | u) | u)
          · exact .inl u
          · exact .inr ⟨y, .inl u⟩
          · exact .inr ⟨y, .inr ⟨u, fm⟩⟩
      · have fm := fk.mp f2
        rw [q_bd f1, if_neg one_ne, nm_eq]
        refine .inr ⟨_, rfl, ((s.1 15 9).toInt - (a + 1).toInt).toNat, by omega, ⟨rfl, by dsimp only; omega, by dsimp only; omega, v1, ?_⟩⟩
        dsimp only
        rw [en, ← hv]
        refine mk97_w g2 (fun k _ => ?_)
        rw [MK9_r]
        constructor
        · rintro (u | ⟨-, u | ⟨u, u2⟩⟩)
          · exact .inl u
          · exact .inr u
          · exact absurd u2 fm
        · rintro (u | u)
          · exact .inl u
          · exact .inr ⟨y, .inl u⟩
    · rw [if_neg y, if_pos rfl, nm_eq]
      refine .inr ⟨_, rfl, ((s.1 15 9).toInt - (a + 1).toInt).toNat, by omega, ⟨rfl, by dsimp only; omega, by dsimp only; omega, g1, ?_⟩⟩
      dsimp only
      rw [en]
      refine mk97_e g2 (fun k _ => ?_)
      rw [MK9_r]
      exact ⟨fun u => by
        rcases u with u | u
        · exact u
        · exact absurd u.1 y, .inl⟩
theorem k_num2 {σ s τ0 τ : gS} {R : Nat} (h : GT σ s) (h1 : st97 σ τ) (h2 : mk97 τ (MK9 s R 0)) : ∃ ρ : gS, (st97 σ ρ ∧ mk97 ρ (MK9 s R (s.1 15 7).toInt.toNat)) ∧ lpc (S := Int32 × gS) K9 (fun rec u => bX4_numberUnknowns_97 τ0 (fun a1 σ1 => rec (a1, σ1)) u.1 u.2) (0, τ) = lpc (S := Int32 × gS) K9 (fun rec u => bX4_numberUnknowns_156 (gsI ρ 96 4 0) (fun a1 σ1 => rec (a1, σ1)) u.1 u.2) (0, gsI ρ 96 4 0) := by
  have z0' := z0
  have l32 : (32 : Int32).toInt = 32 := by decide
  obtain ⟨⟨b9, b8, b7, b6⟩, wr, wp⟩ := wf_gt h
  have T := h.2.2.1
  refine lpc_ex (F := fun ρ => lpc (S := Int32 × gS) K9 (fun rec u => bX4_numberUnknowns_156 (gsI ρ 96 4 0) (fun a1 σ1 => rec (a1, σ1)) u.1 u.2) (0, gsI ρ 96 4 0)) (I := fun (n : Nat) (u : Int32 × gS) => n = ((s.1 15 7).toInt - u.1.toInt).toNat ∧ 0 ≤ u.1.toInt ∧ u.1.toInt ≤ (s.1 15 7).toInt ∧ st97 σ u.2 ∧ mk97 u.2 (MK9 s R u.1.toInt.toNat)) (fun rec n u hs => ?_) K9 (s.1 15 7).toInt.toNat (0, τ) ⟨by dsimp only; omega, by dsimp only; omega, by dsimp only; omega, h1, by dsimp only; rw [n_0]; exact h2⟩ (by unfold K9; omega)
  obtain ⟨a, ρ⟩ := u
  obtain ⟨hn, a0, a1, g1, g2⟩ := hs
  dsimp only at hn a0 a1 g1 g2 ⊢
  unfold bX4_numberUnknowns_97
  have e3 : ρ.1 3 ((1 : Int32).toNatClampNeg) = s.1 15 7 := by rw [g1.1 3 (by decide)]; exact T.1 1 (by decide)
  rw [q_gd (by decide), nm_eq, e3]
  by_cases c : s.1 15 7 ≤ a
  · have c' := Int32.le_iff_toInt_le.mp c
    rw [if_pos c, nm_eq, nm_eq]
    refine .inl ⟨ρ, ⟨g1, ?_⟩, rfl⟩
    rw [show (s.1 15 7).toInt.toNat = a.toInt.toNat by omega]
    exact g2
  · have c' := q_gt c
    have ei := i_inc (a := a) (c := 60) (by omega) (by omega) (by decide)
    have en : (a + 1).toInt.toNat = a.toInt.toNat + 1 := by omega
    have Q := T.2.2.1 a.toInt.toNat (by omega)
    have W := wp a.toInt.toNat (by omega)
    have e20 : ρ.1 20 a.toInt.toNat = s.1 18 (12 + a.toInt.toNat) := by rw [g1.1 20 (by decide)]; exact Q.2.2.1
    rw [if_neg c, q_gd (gb_of a0 (by omega)), nm_eq, n_toInt, e20]
    by_cases y : s.1 18 (12 + a.toInt.toNat) = 0
    · rw [if_pos y, nm_eq]
      refine .inr ⟨_, rfl, ((s.1 15 7).toInt - (a + 1).toInt).toNat, by omega, ⟨rfl, by dsimp only; omega, by dsimp only; omega, g1, ?_⟩⟩
      dsimp only
      rw [en]
      refine mk97_e g2 (fun k _ => ?_)
      rw [MK9_p]
      exact ⟨fun u => by
        rcases u with u | u
        · exact u
        · exact absurd y u.1, .inl⟩
    · rw [if_neg y, q_gd (gb_of a0 (by omega)), nm_eq]
      obtain ⟨v, hv⟩ : ∃ v, gsI ρ 97 a.toInt.toNat 0 = v := ⟨_, rfl⟩
      have v1 : st97 σ v := by rw [← hv]; exact st97_w g1
      have ed : fX4_driftOf v a = some (32 + s.1 16 (12 + a.toInt.toNat)) := by
        unfold fX4_driftOf
        rw [q_gd (gb_of a0 (by omega)), nm_eq, n_toInt, v1.1 8 (by decide), Q.1]
      have e32 : (32 + s.1 16 (12 + a.toInt.toNat)).toInt = 32 + (s.1 16 (12 + a.toInt.toNat)).toInt := by rw [iadd_toInt] <;> omega
      have n32 : (32 + s.1 16 (12 + a.toInt.toNat)).toNatClampNeg = 32 + (s.1 16 (12 + a.toInt.toNat)).toInt.toNat := by rw [n_toInt]; omega
      rw [hv, q_bd ed, q_gd (gb_of (by omega) (by omega)), nm_eq, nm_eq, n32]
      refine .inr ⟨_, rfl, ((s.1 15 7).toInt - (a + 1).toInt).toNat, by omega, ⟨rfl, by dsimp only; omega, by dsimp only; omega, st97_w v1, ?_⟩⟩
      dsimp only
      rw [en, ← hv]
      refine mk97_w (D := fun k => MK9 s R a.toInt.toNat k ∨ a.toInt.toNat = k) (mk97_w g2 (fun k _ => Iff.rfl)) (fun k _ => ?_)
      rw [MK9_p]
      constructor
      · rintro (u | ⟨-, u | u⟩)
        · exact .inl (.inl u)
        · exact .inl (.inr u)
        · exact .inr u
      · rintro ((u | u) | u)
        · exact .inl u
        · exact .inr ⟨y, .inl u⟩
        · exact .inr ⟨y, .inr u⟩
/-- numbered: the class -/
def NC9 (σ τ : gS) (c : Nat → Bool) : Prop := (∀ k, k ≠ 96 → k ≠ 97 → τ.1 k = σ.1 k) ∧ τ.2 = σ.2 ∧ (τ.1 96 4).toInt = nU9 c 38 ∧ ∀ k : Nat, k < 38 → (c k = true → (τ.1 97 k).toInt = nU9 c k) ∧ (¬ c k = true → τ.1 97 k = -1)
theorem k_num3 {σ ρ ρ0 : gS} {c : Nat → Bool} (h1 : st97 σ ρ) (h2 : mk97 ρ (fun k => c k = true)) : ∃ τ : gS, NC9 σ τ c ∧ lpc (S := Int32 × gS) K9 (fun rec u => bX4_numberUnknowns_156 ρ0 (fun a1 σ1 => rec (a1, σ1)) u.1 u.2) (0, gsI ρ 96 4 0) = some τ := by
  have z0' := z0
  have l38 : (38 : Int32).toInt = 38 := by decide
  refine lpc_ex (F := some) (I := fun (n : Nat) (u : Int32 × gS) => n = (38 - u.1.toInt).toNat ∧ 0 ≤ u.1.toInt ∧ u.1.toInt ≤ 38 ∧ (∀ k, k ≠ 96 → k ≠ 97 → u.2.1 k = σ.1 k) ∧ u.2.2 = σ.2 ∧ (u.2.1 96 4).toInt = nU9 c u.1.toInt.toNat ∧ (∀ k : Nat, (k : Int) < u.1.toInt → (c k = true → (u.2.1 97 k).toInt = nU9 c k) ∧ (¬ c k = true → u.2.1 97 k = -1)) ∧ ∀ k : Nat, k < 38 → u.1.toInt ≤ k → (u.2.1 97 k = 0 ∨ u.2.1 97 k = -1) ∧ (u.2.1 97 k = 0 ↔ c k = true)) (fun rec n u hs => ?_) K9 38 (0, gsI ρ 96 4 0) ⟨by dsimp only; omega, by dsimp only; omega, by dsimp only; omega, fun k k1 k2 => by dsimp only; rw [gsI_row k1]; exact h1.1 k k2, h1.2, by dsimp only; rw [gsI_at, if_pos rfl, n_0]; rfl, fun k hk => absurd hk (by dsimp only; omega), fun k hk _ => by dsimp only; rw [gsI_row (show 97 ≠ 96 by decide)]; exact h2 k hk⟩ (by unfold K9; omega)
  obtain ⟨a, τ⟩ := u
  obtain ⟨hn, a0, a1, g1, g2, g3, g4, g5⟩ := hs
  dsimp only at hn a0 a1 g1 g2 g3 g4 g5 ⊢
  unfold bX4_numberUnknowns_156
  by_cases y : 38 ≤ a
  · have y' := Int32.le_iff_toInt_le.mp y
    rw [if_pos y]
    exact .inl ⟨τ, ⟨g1, g2, by rw [g3, show a.toInt.toNat = 38 by omega], fun k hk => g4 k (by omega)⟩, rfl⟩
  · have y' := q_gt y
    have ei := i_inc (a := a) (c := 60) (by omega) (by omega) (by decide)
    have en : (a + 1).toInt.toNat = a.toInt.toNat + 1 := by omega
    obtain ⟨m1, m2⟩ := g5 a.toInt.toNat (by omega) (by omega)
    have le := nU9_le c a.toInt.toNat
    rw [if_neg y, q_gd (gb_of a0 (by omega)), nm_eq, n_toInt]
    by_cases z : τ.1 97 a.toInt.toNat = -1
    · have nc : ¬ c a.toInt.toNat = true := fun w => by
        have := m2.mpr w
        rw [z] at this
        exact absurd this (by decide)
      rw [if_pos z, nm_eq]
      refine .inr ⟨_, rfl, (38 - (a + 1).toInt).toNat, by omega, ⟨rfl, by dsimp only; omega, by dsimp only; omega, g1, g2, by dsimp only; rw [en, nU9_f nc]; exact g3, fun k hk => ?_, fun k hk ha => g5 k hk (by dsimp only at ha; omega)⟩⟩
      dsimp only at hk ⊢
      by_cases w : k = a.toInt.toNat
      · subst w
        exact ⟨fun v => absurd v nc, fun _ => z⟩
      · exact g4 k (by omega)
    · have cc : c a.toInt.toNat = true := m2.mp (by rcases m1 with w | w; exact w; exact absurd w z)
      have eu : (τ.1 96 4 + 1).toInt = (τ.1 96 4).toInt + 1 := i_inc (c := 60) (by omega) (by omega) (by decide)
      have e4 : (gsI τ 97 a.toInt.toNat (τ.1 96 4)).1 96 4 = τ.1 96 4 := by rw [gsI_row (show 96 ≠ 97 by decide)]
      rw [if_neg z, q_gd (gb_of a0 (by omega)), nm_eq, nm_eq, nm_eq, e4]
      refine .inr ⟨_, rfl, (38 - (a + 1).toInt).toNat, by omega, ⟨rfl, by dsimp only; omega, by dsimp only; omega, fun k k1 k2 => ?_, g2, ?_, fun k hk => ?_, fun k hk ha => ?_⟩⟩
      · dsimp only
        rw [gsI_row k1, gsI_row k2]
        exact g1 k k1 k2
      · dsimp only
        rw [gsI_at, if_pos rfl, en, nU9_t cc, eu, g3]
        rfl
      · dsimp only at hk ⊢
        rw [gsI_row (show 97 ≠ 96 by decide), gsI_at]
        by_cases w : k = a.toInt.toNat
        · rw [if_pos w, w]
          exact ⟨fun _ => g3, fun v => absurd cc v⟩
        · rw [if_neg w]
          exact g4 k (by omega)
      · dsimp only at ha ⊢
        rw [gsI_row (show 97 ≠ 96 by decide), gsI_at, if_neg (by omega)]
        exact g5 k hk (by omega)
theorem k_number {σ s : gS} (h : GT σ s) : ∃ τ : gS, NC9 σ τ (ub9 s) ∧ fX4_numberUnknowns σ = some τ := by
  unfold fX4_numberUnknowns
  obtain ⟨κ, eκ, k1, k2, k3⟩ := k_fill (σ := σ) (c := 97) (v := -1) (n := 38) (by decide +kernel) (by decide +kernel) (by decide)
  rw [q_bd eκ, nm_eq]
  have s1 : st97 σ κ := ⟨k1, k2⟩
  obtain ⟨ρ, ⟨r1, r2⟩, r3⟩ := k_num1 h s1 (fun k hk => by
    rw [k3 k hk]
    exact ⟨.inr rfl, fun y => absurd y (by decide), fun y => absurd y (fun z => z)⟩)
  obtain ⟨μ, ⟨m1, m2⟩, m3⟩ := k_num2 (τ0 := ρ) h r1 r2
  obtain ⟨τ, t1, t2⟩ := k_num3 (ρ0 := gsI μ 96 4 0) (c := ub9 s) m1 (mk97_e m2 (fun k hk => by
    rw [ub9_t]
    exact UT9_iff (wf_gt h) hk))
  exact ⟨τ, t1, r3.trans (m3.trans t2)⟩
end P12ZZL
