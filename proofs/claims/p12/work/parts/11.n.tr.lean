/-! THE TWO READERS, 14: what stands told, on both sides -/
section PN
noncomputable def STF (σ τ : gS) : Prop := JM τ ∧ (∀ i : Nat, i < 6 → τ.1 15 (6 + i) = σ.1 15 i) ∧ (∀ i : Nat, i < 60 → τ.2 14 (60 + i) = σ.2 14 i) ∧ (∀ i : Nat, i < 12 → τ.1 16 (12 + i) = σ.1 16 i) ∧ (∀ i : Nat, i < 12 → τ.1 17 (12 + i) = σ.1 17 i) ∧ (∀ i : Nat, i < 12 → τ.1 18 (12 + i) = if (σ.1 15 1).toInt ≤ (i : Int) then 0 else σ.1 18 i) ∧ (∀ i : Nat, i < 20 → τ.1 20 (20 + i) = if (σ.1 15 2).toInt ≤ (i : Int) then 0 else σ.1 20 i) ∧ (∀ i : Nat, i < 40 → τ.1 21 (40 + i) = σ.1 21 i) ∧ (∀ i : Nat, i < 60 → τ.1 22 (60 + i) = σ.1 22 i) ∧ (∀ i : Nat, i < 60 → τ.1 23 (60 + i) = σ.1 23 i) ∧ (∀ i : Nat, i < 24 → τ.1 19 (24 + i) = σ.1 19 i) ∧ (∀ i : Nat, i < 60 → τ.1 25 (60 + i) = σ.1 25 i) ∧ (∀ i : Nat, i < 120 → τ.1 24 (120 + i) = σ.1 24 i)
set_option maxHeartbeats 1000000 in
theorem r_stands {σ : gS} (hI : JM σ) : Ok (fX10_stands σ) (STF σ) := by
  unfold fX10_stands
  refine ok_nm.mpr (st_2 hI (fun ρ1 j1 r1 s1 a1 b1 => st_31 j1 (fun ρ2 j2 r2 a2 _ => st_60 j2 (fun ρ3 j3 r3 s3 a3 _ b3 _ c3 _ => st_133 j3 (fun ρ4 j4 r4 s4 a4 _ => st_162 j4 (fun ρ5 j5 r5 s5 a5 _ => st_205 j5 (fun ρ6 j6 r6 s6 a6 _ => st_234 j6 (fun ρ7 j7 r7 s7 a7 _ b7 _ c7 _ d7 => st_300 j7 (fun ρ8 j8 r8 s8 a8 _ => ?_)))))))))
  have j9 : JM (gsI ρ8 0 36 3) := JM_w j8 (Int32.le_toInt _) (Int32.toInt_le _)
  refine ok_bd2.mpr ((o_fX10_starts j9).mono (fun o ho => ok_some.mpr ?_))
  obtain ⟨x, τ⟩ := o
  obtain ⟨jI, jF⟩ := ho
  dsimp only at jI jF ⊢
  have e8 : ∀ j, j ≠ 0 → j ≠ 27 → j ≠ 28 → j ≠ 29 → τ.1 j = ρ8.1 j := fun j h0 h2 h3 h4 => by
    rw [Fr_row jF j (fun q hq => by simp [fr_fX10_starts] at hq; rcases hq with rfl | rfl | rfl <;> dsimp only <;> omega), gsI_row h0]
  have l2 : τ.2 14 = ρ2.2 14 := by
    rw [Fr_row2 jF 14 (by decide)]
    show ρ8.2 14 = _
    rw [s8, s7, s6, s5, s4, s3]
  have d1 : ∀ j, j ≠ 15 → ρ2.1 j = σ.1 j := fun j h => by rw [r2, r1 j h]
  have d15 : ∀ i : Nat, i < 6 → ρ2.1 15 i = σ.1 15 i := fun i hi => by rw [r2]; exact b1 i hi
  have u7 : ∀ j, j ≠ 0 → j ≠ 27 → j ≠ 28 → j ≠ 29 → j ≠ 24 → τ.1 j = ρ7.1 j := fun j h0 h2 h3 h4 h5 => by rw [e8 j h0 h2 h3 h4, r8 j h5]
  have u6 : ∀ j, j < 22 → j ≠ 0 → τ.1 j = ρ6.1 j := fun j h h0 => by rw [u7 j h0 (by omega) (by omega) (by omega) (by omega), r7 j (by omega) (by omega) (by omega) (by omega)]
  have v5 : ∀ j, j ≠ 21 → j ≠ 20 → j ≠ 19 → j ≠ 16 → j ≠ 17 → j ≠ 18 → ρ6.1 j = ρ2.1 j := fun j h1 h2 h3 h4 h5 h6 => by rw [r6 j h1, r5 j h2, r4 j h3, r3 j h4 h5 h6]
  refine ⟨jI, fun i hi => ?_, fun i hi => ?_, fun i hi => ?_, fun i hi => ?_, fun i hi => ?_, fun i hi => ?_, fun i hi => ?_, fun i hi => ?_, fun i hi => ?_, fun i hi => ?_, fun i hi => ?_, fun i hi => ?_⟩
  · rw [u6 15 (by decide) (by decide), v5 15 (by decide) (by decide) (by decide) (by decide) (by decide) (by decide), r2]
    exact a1 i hi
  · rw [l2, a2 i hi, s1]
  · rw [u6 16 (by decide) (by decide), r6 16 (by decide), r5 16 (by decide), r4 16 (by decide), a3 i hi, d1 16 (by decide)]
  · rw [u6 17 (by decide) (by decide), r6 17 (by decide), r5 17 (by decide), r4 17 (by decide), b3 i hi, d1 17 (by decide)]
  · rw [u6 18 (by decide) (by decide), r6 18 (by decide), r5 18 (by decide), r4 18 (by decide), c3 i hi, d1 18 (by decide), d15 1 (by decide)]
  · rw [u6 20 (by decide) (by decide), r6 20 (by decide), a5 i hi, r4 20 (by decide), r3 20 (by decide) (by decide) (by decide), d1 20 (by decide), r4 15 (by decide), r3 15 (by decide) (by decide) (by decide), d15 2 (by decide)]
  · rw [u6 21 (by decide) (by decide), a6 i hi, r5 21 (by decide), r4 21 (by decide), r3 21 (by decide) (by decide) (by decide), d1 21 (by decide)]
  · rw [u7 22 (by decide) (by decide) (by decide) (by decide) (by decide), a7 i hi, v5 22 (by decide) (by decide) (by decide) (by decide) (by decide) (by decide), d1 22 (by decide)]
  · rw [u7 23 (by decide) (by decide) (by decide) (by decide) (by decide), b7 i hi, v5 23 (by decide) (by decide) (by decide) (by decide) (by decide) (by decide), d1 23 (by decide)]
  · rw [u6 19 (by decide) (by decide), r6 19 (by decide), r5 19 (by decide), a4 i hi, r3 19 (by decide) (by decide) (by decide), d1 19 (by decide)]
  · rw [u7 25 (by decide) (by decide) (by decide) (by decide) (by decide), c7 i hi, v5 25 (by decide) (by decide) (by decide) (by decide) (by decide) (by decide), d1 25 (by decide)]
  · rw [e8 24 (by decide) (by decide) (by decide) (by decide), a8 i hi, r7 24 (by decide) (by decide) (by decide) (by decide), v5 24 (by decide) (by decide) (by decide) (by decide) (by decide) (by decide), d1 24 (by decide)]
set_option maxHeartbeats 1000000 in
theorem r_stands2 {σ : gS} (hI : JM σ) : Ok (fX10_stands σ) (fun x => ∃ ω r, STF σ ω ∧ (∀ i : Nat, i < 60 → ω.1 26 i = 0) ∧ ω.1 0 36 = 3 ∧ fX10_starts ω = some (r, x)) := by
  unfold fX10_stands
  refine ok_nm.mpr (st_2 hI (fun ρ1 j1 r1 s1 a1 b1 => st_31 j1 (fun ρ2 j2 r2 a2 _ => st_60 j2 (fun ρ3 j3 r3 s3 a3 _ b3 _ c3 _ => st_133 j3 (fun ρ4 j4 r4 s4 a4 _ => st_162 j4 (fun ρ5 j5 r5 s5 a5 _ => st_205 j5 (fun ρ6 j6 r6 s6 a6 _ => st_234 j6 (fun ρ7 j7 r7 s7 a7 _ b7 _ c7 _ d7 => st_300 j7 (fun ρ8 j8 r8 s8 a8 _ => ?_)))))))))
  have j9 : JM (gsI ρ8 0 36 3) := JM_w j8 (Int32.le_toInt _) (Int32.toInt_le _)
  obtain ⟨τ, hτ⟩ : ∃ τ, τ = gsI ρ8 0 36 3 := ⟨_, rfl⟩
  rw [← hτ] at j9 ⊢
  obtain ⟨o, eo, -⟩ := o_fX10_starts j9
  refine ok_bd2.mpr ⟨o, eo, ok_some.mpr ⟨τ, o.1, ?_, ?_, by rw [hτ]; rfl, eo⟩⟩
  rotate_left
  · intro i hi
    rw [hτ, gsI_row (by decide), r8 26 (by decide)]
    exact d7 i hi
  have jI := j9
  have e8 : ∀ j, j ≠ 0 → j ≠ 27 → j ≠ 28 → j ≠ 29 → τ.1 j = ρ8.1 j := fun j h0 h2 h3 h4 => by
    rw [hτ, gsI_row h0]
  have l2 : τ.2 14 = ρ2.2 14 := by
    rw [hτ]
    show ρ8.2 14 = _
    rw [s8, s7, s6, s5, s4, s3]
  have d1 : ∀ j, j ≠ 15 → ρ2.1 j = σ.1 j := fun j h => by rw [r2, r1 j h]
  have d15 : ∀ i : Nat, i < 6 → ρ2.1 15 i = σ.1 15 i := fun i hi => by rw [r2]; exact b1 i hi
  have u7 : ∀ j, j ≠ 0 → j ≠ 27 → j ≠ 28 → j ≠ 29 → j ≠ 24 → τ.1 j = ρ7.1 j := fun j h0 h2 h3 h4 h5 => by rw [e8 j h0 h2 h3 h4, r8 j h5]
  have u6 : ∀ j, j < 22 → j ≠ 0 → τ.1 j = ρ6.1 j := fun j h h0 => by rw [u7 j h0 (by omega) (by omega) (by omega) (by omega), r7 j (by omega) (by omega) (by omega) (by omega)]
  have v5 : ∀ j, j ≠ 21 → j ≠ 20 → j ≠ 19 → j ≠ 16 → j ≠ 17 → j ≠ 18 → ρ6.1 j = ρ2.1 j := fun j h1 h2 h3 h4 h5 h6 => by rw [r6 j h1, r5 j h2, r4 j h3, r3 j h4 h5 h6]
  refine ⟨jI, fun i hi => ?_, fun i hi => ?_, fun i hi => ?_, fun i hi => ?_, fun i hi => ?_, fun i hi => ?_, fun i hi => ?_, fun i hi => ?_, fun i hi => ?_, fun i hi => ?_, fun i hi => ?_, fun i hi => ?_⟩
  · rw [u6 15 (by decide) (by decide), v5 15 (by decide) (by decide) (by decide) (by decide) (by decide) (by decide), r2]
    exact a1 i hi
  · rw [l2, a2 i hi, s1]
  · rw [u6 16 (by decide) (by decide), r6 16 (by decide), r5 16 (by decide), r4 16 (by decide), a3 i hi, d1 16 (by decide)]
  · rw [u6 17 (by decide) (by decide), r6 17 (by decide), r5 17 (by decide), r4 17 (by decide), b3 i hi, d1 17 (by decide)]
  · rw [u6 18 (by decide) (by decide), r6 18 (by decide), r5 18 (by decide), r4 18 (by decide), c3 i hi, d1 18 (by decide), d15 1 (by decide)]
  · rw [u6 20 (by decide) (by decide), r6 20 (by decide), a5 i hi, r4 20 (by decide), r3 20 (by decide) (by decide) (by decide), d1 20 (by decide), r4 15 (by decide), r3 15 (by decide) (by decide) (by decide), d15 2 (by decide)]
  · rw [u6 21 (by decide) (by decide), a6 i hi, r5 21 (by decide), r4 21 (by decide), r3 21 (by decide) (by decide) (by decide), d1 21 (by decide)]
  · rw [u7 22 (by decide) (by decide) (by decide) (by decide) (by decide), a7 i hi, v5 22 (by decide) (by decide) (by decide) (by decide) (by decide) (by decide), d1 22 (by decide)]
  · rw [u7 23 (by decide) (by decide) (by decide) (by decide) (by decide), b7 i hi, v5 23 (by decide) (by decide) (by decide) (by decide) (by decide) (by decide), d1 23 (by decide)]
  · rw [u6 19 (by decide) (by decide), r6 19 (by decide), r5 19 (by decide), a4 i hi, r3 19 (by decide) (by decide) (by decide), d1 19 (by decide)]
  · rw [u7 25 (by decide) (by decide) (by decide) (by decide) (by decide), c7 i hi, v5 25 (by decide) (by decide) (by decide) (by decide) (by decide) (by decide), d1 25 (by decide)]
  · rw [e8 24 (by decide) (by decide) (by decide) (by decide), a8 i hi, r7 24 (by decide) (by decide) (by decide) (by decide), v5 24 (by decide) (by decide) (by decide) (by decide) (by decide) (by decide), d1 24 (by decide)]
/-- what stands told -/
noncomputable def PTd (σC σM : gS) (p : Nat) : Prop := σC.1 8 p = σM.1 16 (12 + p) ∧ σC.1 9 p = σM.1 17 (12 + p) ∧ σC.1 20 p = σM.1 18 (12 + p) ∧ (σM.1 16 (12 + p)).toInt < (σM.1 15 6).toInt ∧ (0 ≤ (σM.1 17 (12 + p)).toInt ∧ (σM.1 17 (12 + p)).toInt ≤ 4) ∧ (0 ≤ (σM.1 18 (12 + p)).toInt ∧ (σM.1 18 (12 + p)).toInt ≤ 9) ∧ (σM.1 18 (12 + p) ≠ 0 → σC.1 22 p = σM.1 19 (24 + 2 * p) ∧ σC.1 23 p = σM.1 19 (24 + (2 * p + 1)))
noncomputable def QTd (σC σM : gS) (q : Nat) : Prop := σC.1 16 q = σM.1 20 (20 + q) ∧ 0 ≤ (σM.1 20 (20 + q)).toInt ∧ (σM.1 20 (20 + q)).toInt ≤ 2 ∧ (σM.1 20 (20 + q) ≠ 0 → σC.1 18 q = σM.1 21 (40 + 2 * q) ∧ σC.1 19 q = σM.1 21 (40 + (2 * q + 1)) ∧ (0 ≤ (σM.1 21 (40 + 2 * q)).toInt ∧ (σM.1 21 (40 + 2 * q)).toInt ≤ 9999) ∧ (0 ≤ (σM.1 21 (40 + (2 * q + 1))).toInt ∧ (σM.1 21 (40 + (2 * q + 1))).toInt ≤ 9999))
noncomputable def RTd (σC σM : gS) (r : Nat) : Prop := σC.1 10 r = σM.1 22 (60 + r) ∧ σC.1 11 r = σM.1 23 (60 + r) ∧ (σM.1 22 (60 + r)).toInt < (σM.1 15 7).toInt ∧ (σM.1 23 (60 + r)).toInt < (σM.1 15 8).toInt ∧ σC.1 15 r = σM.1 25 (60 + r) ∧ (1 ≤ (σM.1 25 (60 + r)).toInt ∧ (σM.1 25 (60 + r)).toInt ≤ 9) ∧ ∀ i : Nat, i < r → ¬ (σM.1 22 (60 + i) = σM.1 22 (60 + r) ∧ σM.1 23 (60 + i) = σM.1 23 (60 + r))
noncomputable def TRd (σC σM : gS) : Prop := (∀ k : Nat, k < 6 → σC.1 3 k = σM.1 15 (6 + k)) ∧ (∀ K i : Nat, K ≤ 2 → (i : Int) < (σM.1 15 (6 + K)).toInt → NR (σC.1 (5 + K) i) (σM.2 14 (60 + (20 * K + i)))) ∧ (∀ p : Nat, (p : Int) < (σM.1 15 7).toInt → PTd σC σM p) ∧ (∀ q : Nat, (q : Int) < (σM.1 15 8).toInt → QTd σC σM q) ∧ ∀ r : Nat, (r : Int) < (σM.1 15 9).toInt → RTd σC σM r
theorem TR_RM {σC σM : gS} (h : TRd σC σM) : RM σM := ⟨fun r hr => ⟨(h.2.2.2.2 r hr).2.2.1, (h.2.2.2.2 r hr).2.2.2.1⟩, fun p hp => (h.2.2.1 p hp).2.2.2.1⟩
theorem TR_eq {σC σM τC τM : gS} (h : TRd σC σM) (a : ∀ k, k ∈ [3, 5, 6, 7, 8, 9, 10, 11, 15, 16, 18, 19, 20, 22, 23] → τC.1 k = σC.1 k) (b : UP σM τM) : TRd τC τM := by
  obtain ⟨h1, h2, h3, h4, h5⟩ := h
  have bb : ∀ k i, 14 ≤ k → k ≤ 25 → upL k ≤ i → τM.1 k i = σM.1 k i := fun k i x y z => (b k i x y z).1
  have b15 : ∀ i, τM.1 15 (6 + i) = σM.1 15 (6 + i) := fun i => bb 15 _ (by decide) (by decide) (by show 6 ≤ _; omega)
  have b16 : ∀ i, τM.1 16 (12 + i) = σM.1 16 (12 + i) := fun i => bb 16 _ (by decide) (by decide) (by show 12 ≤ _; omega)
  have b17 : ∀ i, τM.1 17 (12 + i) = σM.1 17 (12 + i) := fun i => bb 17 _ (by decide) (by decide) (by show 12 ≤ _; omega)
  have b18 : ∀ i, τM.1 18 (12 + i) = σM.1 18 (12 + i) := fun i => bb 18 _ (by decide) (by decide) (by show 12 ≤ _; omega)
  have b20 : ∀ i, τM.1 20 (20 + i) = σM.1 20 (20 + i) := fun i => bb 20 _ (by decide) (by decide) (by show 20 ≤ _; omega)
  have b21 : ∀ i, τM.1 21 (40 + i) = σM.1 21 (40 + i) := fun i => bb 21 _ (by decide) (by decide) (by show 40 ≤ _; omega)
  have b22 : ∀ i, τM.1 22 (60 + i) = σM.1 22 (60 + i) := fun i => bb 22 _ (by decide) (by decide) (by show 60 ≤ _; omega)
  have b23 : ∀ i, τM.1 23 (60 + i) = σM.1 23 (60 + i) := fun i => bb 23 _ (by decide) (by decide) (by show 60 ≤ _; omega)
  have b19 : ∀ i, τM.1 19 (24 + i) = σM.1 19 (24 + i) := fun i => bb 19 _ (by decide) (by decide) (by show 24 ≤ _; omega)
  have b25 : ∀ i, τM.1 25 (60 + i) = σM.1 25 (60 + i) := fun i => bb 25 _ (by decide) (by decide) (by show 60 ≤ _; omega)
  have b14 : ∀ i, τM.2 14 (60 + i) = σM.2 14 (60 + i) := fun i => (b 14 _ (by decide) (by decide) (by show 60 ≤ _; omega)).2
  have c6 : τM.1 15 6 = σM.1 15 6 := b15 0
  have c7 : τM.1 15 7 = σM.1 15 7 := b15 1
  have c8 : τM.1 15 8 = σM.1 15 8 := b15 2
  have c9 : τM.1 15 9 = σM.1 15 9 := b15 3
  refine ⟨fun k hk => by rw [a 3 (by decide), b15]; exact h1 k hk, fun K i hK hi => ?_, fun p hp => ?_, fun q hq => ?_, fun r hr => ?_⟩
  · rw [b15] at hi
    rw [b14, a (5 + K) (by have hj : K = 0 ∨ K = 1 ∨ K = 2 := by omega
                           rcases hj with rfl | rfl | rfl <;> decide)]
    exact h2 K i hK hi
  · rw [c7] at hp
    unfold PTd
    rw [a 8 (by decide), a 9 (by decide), a 20 (by decide), a 22 (by decide), a 23 (by decide), b16, b17, b18, b19, b19, c6]
    exact h3 p hp
  · rw [c8] at hq
    unfold QTd
    rw [a 16 (by decide), a 18 (by decide), a 19 (by decide), b20, b21, b21]
    exact h4 q hq
  · rw [c9] at hr
    unfold RTd
    rw [a 10 (by decide), a 11 (by decide), a 15 (by decide), b22, b23, b25, c7, c8]
    obtain ⟨r1, r2, r3, r4, r5, r6, r7⟩ := h5 r hr
    refine ⟨r1, r2, r3, r4, r5, r6, fun i hi z => ?_⟩
    rw [b22, b23] at z
    exact r7 i hi z
theorem TR_of {σC σM ρ τC τM : gS} (hI : JM σM) (hD : DS σC σM) (hC : CPs [(45, 23), (41, 19), (36, 14), (44, 22), (40, 18), (35, 13), (42, 20), (38, 16), (37, 15), (33, 11), (32, 10), (31, 9), (30, 8), (29, 7), (28, 6), (27, 5), (25, 3)] σC ρ) (hT : ∀ k, k ∈ [3, 5, 6, 7, 8, 9, 10, 11, 15, 16, 18, 19, 20, 22, 23] → τC.1 k = ρ.1 k) (hM : STF σM τM) : TRd τC τM := by
  obtain ⟨-, -, cc⟩ := hC
  obtain ⟨-, s15, s14, s16, s17, s18, s20, s21, s22, s23, s19, s25, s24⟩ := hM
  obtain ⟨d1, d2, d3, d4, d5, d6, d7, d8⟩ := hD
  have b := jm_many hI
  have n6 : τM.1 15 6 = σM.1 15 0 := s15 0 (by decide)
  have n7 : τM.1 15 7 = σM.1 15 1 := s15 1 (by decide)
  have n8 : τM.1 15 8 = σM.1 15 2 := s15 2 (by decide)
  have n9 : τM.1 15 9 = σM.1 15 3 := s15 3 (by decide)
  have c3 : ∀ i : Nat, i < 6 → τC.1 3 i = σC.1 25 i := fun i hi => by rw [hT 3 (by decide)]; exact cc (25, 3) (by decide) i hi
  have c5 : ∀ i : Nat, i < 20 → τC.1 5 i = σC.1 27 i := fun i hi => by rw [hT 5 (by decide)]; exact cc (27, 5) (by decide) i hi
  have c6 : ∀ i : Nat, i < 20 → τC.1 6 i = σC.1 28 i := fun i hi => by rw [hT 6 (by decide)]; exact cc (28, 6) (by decide) i hi
  have c7 : ∀ i : Nat, i < 20 → τC.1 7 i = σC.1 29 i := fun i hi => by rw [hT 7 (by decide)]; exact cc (29, 7) (by decide) i hi
  have c8 : ∀ i : Nat, i < 12 → τC.1 8 i = σC.1 30 i := fun i hi => by rw [hT 8 (by decide)]; exact cc (30, 8) (by decide) i hi
  have c9 : ∀ i : Nat, i < 12 → τC.1 9 i = σC.1 31 i := fun i hi => by rw [hT 9 (by decide)]; exact cc (31, 9) (by decide) i hi
  have c10 : ∀ i : Nat, i < 60 → τC.1 10 i = σC.1 32 i := fun i hi => by rw [hT 10 (by decide)]; exact cc (32, 10) (by decide) i hi
  have c11 : ∀ i : Nat, i < 60 → τC.1 11 i = σC.1 33 i := fun i hi => by rw [hT 11 (by decide)]; exact cc (33, 11) (by decide) i hi
  have c16 : ∀ i : Nat, i < 20 → τC.1 16 i = σC.1 38 i := fun i hi => by rw [hT 16 (by decide)]; exact cc (38, 16) (by decide) i hi
  have c18 : ∀ i : Nat, i < 20 → τC.1 18 i = σC.1 40 i := fun i hi => by rw [hT 18 (by decide)]; exact cc (40, 18) (by decide) i hi
  have c19 : ∀ i : Nat, i < 20 → τC.1 19 i = σC.1 41 i := fun i hi => by rw [hT 19 (by decide)]; exact cc (41, 19) (by decide) i hi
  have c20 : ∀ i : Nat, i < 12 → τC.1 20 i = σC.1 42 i := fun i hi => by rw [hT 20 (by decide)]; exact cc (42, 20) (by decide) i hi
  have c22 : ∀ i : Nat, i < 12 → τC.1 22 i = σC.1 44 i := fun i hi => by rw [hT 22 (by decide)]; exact cc (44, 22) (by decide) i hi
  have c23 : ∀ i : Nat, i < 12 → τC.1 23 i = σC.1 45 i := fun i hi => by rw [hT 23 (by decide)]; exact cc (45, 23) (by decide) i hi
  have c15 : ∀ i : Nat, i < 60 → τC.1 15 i = σC.1 37 i := fun i hi => by rw [hT 15 (by decide)]; exact cc (37, 15) (by decide) i hi
  refine ⟨fun k hk => by rw [c3 k hk, s15 k hk, d1 k hk], fun K i hK hi => ?_, fun p hp => ?_, fun q hq => ?_, fun r hr => ?_⟩
  · rw [s15 K (by omega)] at hi
    have hj : K = 0 ∨ K = 1 ∨ K = 2 := by omega
    rcases hj with rfl | rfl | rfl
    · rw [s14 _ (by omega), c5 i (by omega)]
      exact (d3 0 (by decide)).2 i hi
    · rw [s14 _ (by omega), c6 i (by omega)]
      exact (d3 1 (by decide)).2 i hi
    · rw [s14 _ (by omega), c7 i (by omega)]
      exact (d3 2 (by decide)).2 i hi
  · rw [n7] at hp
    obtain ⟨a1, a2, a3, a4, a5⟩ := d4 p hp
    unfold PTd
    rw [c8 p (by omega), c9 p (by omega), c20 p (by omega), c22 p (by omega), c23 p (by omega), s19 (2 * p) (by omega), s19 (2 * p + 1) (by omega), s16 p (by omega), s17 p (by omega), s18 p (by omega), if_neg (by omega), n6]
    exact ⟨a1, a2, a3, a4, a5⟩
  · rw [n8] at hq
    unfold QTd
    rw [c16 q (by omega), c18 q (by omega), c19 q (by omega), s20 q (by omega), if_neg (by omega), s21 (2 * q) (by omega), s21 (2 * q + 1) (by omega)]
    exact d5 q hq
  · rw [n9] at hr
    unfold RTd
    rw [c10 r (by omega), c11 r (by omega), c15 r (by omega), s22 r (by omega), s23 r (by omega), s25 r (by omega), n7, n8]
    obtain ⟨a1, a2, a3, a4, -, -, a7, -, -, a8, a9⟩ := d6 r hr
    refine ⟨a1, a2, a3, a4, a7, a8, fun i hi z => ?_⟩
    rw [s22 i (by omega), s23 i (by omega)] at z
    exact a9 i hi z
end PN
