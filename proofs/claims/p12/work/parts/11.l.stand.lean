/-! THE TWO READERS, 12: what was told stands -/
section PL
noncomputable def CPs (L : List (Nat × Nat)) (σ τ : gS) : Prop := JC τ ∧ Fr fr_fX8_takeFrom_2_24 σ τ ∧ ∀ q ∈ L, ∀ i : Nat, i < gsz zC.1 0 0 q.2 → τ.1 q.2 i = σ.1 q.1 i
theorem CPs_step {L : List (Nat × Nat)} {σ τ : gS} {γ : Type} {E : gS → Option γ} {P : γ → Prop} {a b : Nat} (h : CPs L σ τ) (ha : ∀ q ∈ fr_fX8_takeFrom_2_24, q.1 ≠ a) (hb : (b, 0) ∈ fr_fX8_takeFrom_2_24) (hL : ∀ q ∈ L, q.2 ≠ b) (hz : 0 < gsz zC.1 0 0 a ∧ gsz zC.1 0 0 b = gsz zC.1 0 0 a ∧ gsz zC.1 0 0 a ≤ 2000) (hk : ∀ i, (kbC b i).1 ≤ (kbC a i).1 ∧ (kbC a i).2 ≤ (kbC b i).2) (k : ∀ ρ, CPs ((a, b) :: L) σ ρ → Ok (E ρ) P) : Ok (bd (fX9_copyAll τ a b) E) P := by
  refine ok_bd.mpr ((o_copy h.1 hz hk).mono (fun ρ hρ => k ρ ⟨hρ.1, Fr_c h.2.1 hρ.2.1 (by intro q hq; simp at hq; rw [hq]; exact .inl hb), fun q hq i hi => ?_⟩))
  simp only [List.mem_cons] at hq
  rcases hq with rfl | hq
  · dsimp only at hi ⊢
    rw [hρ.2.2 i hi, Fr_row h.2.1 a ha]
  · rw [Fr_row hρ.2.1 q.2 (fun y hy => by simp at hy; rw [hy]; exact fun z => hL q hq z.symm)]
    exact h.2.2 q hq i hi
set_option maxRecDepth 20000 in
theorem r_takeFrom {σ : gS} (hI : JC σ) : Ok (fX8_takeFrom_2_24 σ) (CPs [(45, 23), (41, 19), (36, 14), (44, 22), (40, 18), (35, 13), (42, 20), (38, 16), (37, 15), (33, 11), (32, 10), (31, 9), (30, 8), (29, 7), (28, 6), (27, 5), (25, 3)] σ) := by
  have le : ∀ i : Nat, ∀ a b : Nat, kbC a i = kbC b i → (kbC b i).1 ≤ (kbC a i).1 ∧ (kbC a i).2 ≤ (kbC b i).2 := fun i a b h => by rw [h]; exact ⟨Int.le_refl _, Int.le_refl _⟩
  unfold fX8_takeFrom_2_24
  refine CPs_step (L := []) (τ := σ) ⟨hI, Fr_r, fun q hq => by cases hq⟩ (by decide) (by decide) (by decide) (by decide) (fun i => le i _ _ rfl) (fun ρ0 h0 => ok_nm.mpr ?_)
  rw [lpc_pos K9_pos]
  show Ok (bX8_takeFrom_2_24_13 ρ0 _ 0 ρ0) _
  unfold bX8_takeFrom_2_24_13
  rw [if_neg (by decide), q_gd (by decide), q_gd (by decide)]
  refine CPs_step h0 (a := 27) (b := 5) (by decide) (by decide) (by decide) (by decide) (fun i => le i _ _ rfl) (fun ρ1 h1 => ok_nm.mpr ?_)
  show Ok (lpc (S := Int32 × gS) (K9 - 1) _ (1, ρ1)) _
  rw [lpc_pos (by decide)]
  show Ok (bX8_takeFrom_2_24_13 ρ0 _ 1 ρ1) _
  unfold bX8_takeFrom_2_24_13
  rw [if_neg (by decide), q_gd (by decide), q_gd (by decide)]
  refine CPs_step h1 (a := 28) (b := 6) (by decide) (by decide) (by decide) (by decide) (fun i => le i _ _ rfl) (fun ρ2 h2 => ok_nm.mpr ?_)
  show Ok (lpc (S := Int32 × gS) (K9 - 1 - 1) _ (2, ρ2)) _
  rw [lpc_pos (by decide)]
  show Ok (bX8_takeFrom_2_24_13 ρ0 _ 2 ρ2) _
  unfold bX8_takeFrom_2_24_13
  rw [if_neg (by decide), q_gd (by decide), q_gd (by decide)]
  refine CPs_step h2 (a := 29) (b := 7) (by decide) (by decide) (by decide) (by decide) (fun i => le i _ _ rfl) (fun ρ3 h3 => ok_nm.mpr ?_)
  show Ok (lpc (S := Int32 × gS) (K9 - 1 - 1 - 1) _ (3, ρ3)) _
  rw [lpc_pos (by decide)]
  show Ok (bX8_takeFrom_2_24_13 ρ0 _ 3 ρ3) _
  unfold bX8_takeFrom_2_24_13
  rw [if_pos (by decide)]
  refine CPs_step h3 (by decide) (by decide) (by decide) (by decide) (fun i => le i _ _ rfl) (fun ρ4 h4 => ?_)
  refine CPs_step h4 (by decide) (by decide) (by decide) (by decide) (fun i => le i _ _ rfl) (fun ρ5 h5 => ?_)
  refine CPs_step h5 (by decide) (by decide) (by decide) (by decide) (fun i => le i _ _ rfl) (fun ρ6 h6 => ?_)
  refine CPs_step h6 (by decide) (by decide) (by decide) (by decide) (fun i => le i _ _ rfl) (fun ρ7 h7 => ?_)
  refine CPs_step h7 (by decide) (by decide) (by decide) (by decide) (fun i => le i _ _ rfl) (fun ρ8 h8 => ?_)
  refine CPs_step h8 (by decide) (by decide) (by decide) (by decide) (fun i => le i _ _ rfl) (fun ρ9 h9 => ?_)
  refine CPs_step h9 (by decide) (by decide) (by decide) (by decide) (fun i => le i _ _ rfl) (fun ρ10 h10 => ok_nm.mpr ?_)
  rw [lpc_pos K9_pos]
  show Ok (bX8_takeFrom_2_24_118 ρ10 _ 0 ρ10) _
  unfold bX8_takeFrom_2_24_118
  rw [if_neg (by decide), q_gd (by decide), q_gd (by decide)]
  refine CPs_step h10 (a := 35) (b := 13) (by decide) (by decide) (by decide) (by decide) (fun i => le i _ _ rfl) (fun ρ11 h11 => ?_)
  rw [q_gd (by decide), q_gd (by decide)]
  refine CPs_step h11 (a := 40) (b := 18) (by decide) (by decide) (by decide) (by decide) (fun i => le i _ _ rfl) (fun ρ12 h12 => ?_)
  rw [q_gd (by decide), q_gd (by decide)]
  refine CPs_step h12 (a := 44) (b := 22) (by decide) (by decide) (by decide) (by decide) (fun i => le i _ _ rfl) (fun ρ13 h13 => ok_nm.mpr ?_)
  show Ok (lpc (S := Int32 × gS) (K9 - 1) _ (1, ρ13)) _
  rw [lpc_pos (by decide)]
  show Ok (bX8_takeFrom_2_24_118 ρ10 _ 1 ρ13) _
  unfold bX8_takeFrom_2_24_118
  rw [if_neg (by decide), q_gd (by decide), q_gd (by decide)]
  refine CPs_step h13 (a := 36) (b := 14) (by decide) (by decide) (by decide) (by decide) (fun i => le i _ _ rfl) (fun ρ14 h14 => ?_)
  rw [q_gd (by decide), q_gd (by decide)]
  refine CPs_step h14 (a := 41) (b := 19) (by decide) (by decide) (by decide) (by decide) (fun i => le i _ _ rfl) (fun ρ15 h15 => ?_)
  rw [q_gd (by decide), q_gd (by decide)]
  refine CPs_step h15 (a := 45) (b := 23) (by decide) (by decide) (by decide) (by decide) (fun i => le i _ _ rfl) (fun ρ16 h16 => ok_nm.mpr ?_)
  show Ok (lpc (S := Int32 × gS) (K9 - 1 - 1) _ (2, ρ16)) _
  rw [lpc_pos (by decide)]
  show Ok (bX8_takeFrom_2_24_118 ρ10 _ 2 ρ16) _
  unfold bX8_takeFrom_2_24_118
  rw [if_pos (by decide)]
  exact ok_some.mpr h16
end PL
