/-! WHAT STANDS IS PUT ASIDE AND TAKEN BACK, on both sides; differ, alters -/
section P12ZK
theorem cp_step {τ : gS} {γ : Type} {E : gS → Option γ} {P : γ → Prop} {a b n : Nat} (h : JC τ) (hz : 0 < gsz zC.1 0 0 a ∧ gsz zC.1 0 0 b = gsz zC.1 0 0 a ∧ gsz zC.1 0 0 a ≤ 2000) (hn : gsz zC.1 0 0 b = n) (hk : ∀ i, (kbC b i).1 ≤ (kbC a i).1 ∧ (kbC a i).2 ≤ (kbC b i).2) (k : ∀ ρ, JC ρ → (∀ j, j ≠ b → ρ.1 j = τ.1 j) → (∀ i : Nat, i < n → ρ.1 b i = τ.1 a i) → Ok (E ρ) P) : Ok (bd (fX9_copyAll τ a b) E) P := by
  refine ok_bd.mpr ((o_copy h hz hk).mono (fun ρ hρ => k ρ hρ.1 (fun j hj => Fr_row hρ.2.1 j (fun q hq => by simp at hq; rw [hq]; exact fun z => hj z.symm)) (fun i hi => hρ.2.2 i (by rw [hn]; exact hi))))
/-- cells of one stand are those of another -/
noncomputable def SA (f g : Nat) (σ τ : gS) : Prop := τ.1 g 1 = σ.1 f 1 ∧ (∀ i : Nat, i < 12 → τ.1 (g + 1) i = σ.1 (f + 1) i) ∧ (∀ a i : Nat, a < 2 → i < 12 → τ.1 (g + 3 + a) i = σ.1 (f + 3 + a) i) ∧ (∀ a i : Nat, a < 2 → i < 20 → τ.1 (g + 6 + a) i = σ.1 (f + 6 + a) i) ∧ (∀ a i : Nat, a < 2 → i < 6 → τ.1 (g + 9 + a) i = σ.1 (f + 9 + a) i) ∧ ∀ i : Nat, i < 60 → τ.1 (g + 11) i = σ.1 (f + 11) i
theorem a2_2 {a : Nat} (h : a < 2) : a = 0 ∨ a = 1 := by omega
theorem as_step {σx x : gS} {rec : Int32 → gS → Option gS} {a : Int32} {P : gS → Prop} (ha : a = 0 ∨ a = 1) (jx : JC x) (k : ∀ y : gS, JC y → (∀ j, j ≠ 62 + a.toInt.toNat → j ≠ 65 + a.toInt.toNat → j ≠ 68 + a.toInt.toNat → y.1 j = x.1 j) → (∀ i : Nat, i < 12 → y.1 (62 + a.toInt.toNat) i = x.1 (50 + a.toInt.toNat) i) → (∀ i : Nat, i < 20 → y.1 (65 + a.toInt.toNat) i = x.1 (53 + a.toInt.toNat) i) → (∀ i : Nat, i < 6 → y.1 (68 + a.toInt.toNat) i = x.1 (56 + a.toInt.toNat) i) → Ok (rec (a + 1) y) P) : Ok (bX5_takeFrom_59_47_32 σx rec a x) P := by
  have g2 : gb a 2 = true := by rcases ha with rfl | rfl <;> decide
  have le : ∀ i : Nat, ∀ a b : Nat, kbC a i = kbC b i → (kbC b i).1 ≤ (kbC a i).1 ∧ (kbC a i).2 ≤ (kbC b i).2 := fun i a b h => by rw [h]; exact ⟨Int.le_refl _, Int.le_refl _⟩
  have aa : a.toInt.toNat ≤ 1 := by rcases ha with rfl | rfl <;> decide
  unfold bX5_takeFrom_59_47_32
  rw [if_neg (by rcases ha with rfl | rfl <;> decide), q_gd g2, q_gd g2, n_toInt]
  refine cp_step (n := 12) jx (by rcases ha with rfl | rfl <;> decide) (by rcases ha with rfl | rfl <;> decide) (fun i => le i _ _ (by rcases ha with rfl | rfl <;> rfl)) (fun b jb b1 b2 => ?_)
  rw [q_gd g2, q_gd g2]
  refine cp_step (n := 20) jb (by rcases ha with rfl | rfl <;> decide) (by rcases ha with rfl | rfl <;> decide) (fun i => le i _ _ (by rcases ha with rfl | rfl <;> rfl)) (fun c jc c1 c2 => ?_)
  rw [q_gd g2, q_gd g2]
  refine cp_step (n := 6) jc (by rcases ha with rfl | rfl <;> decide) (by rcases ha with rfl | rfl <;> decide) (fun i => le i _ _ (by rcases ha with rfl | rfl <;> rfl)) (fun d jd d1 d2 => ?_)
  rw [nm_eq]
  refine k d jd (fun j j1 j2 j3 => by rw [d1 j j3, c1 j j2, b1 j j1]) (fun i hi => ?_) (fun i hi => ?_) (fun i hi => ?_)
  · rw [d1 _ (by omega), c1 _ (by omega)]
    exact b2 i hi
  · rw [d1 _ (by omega), c2 i hi, b1 _ (by omega)]
  · rw [d2 i hi, c1 _ (by omega), b1 _ (by omega)]
theorem k_aside {σ : gS} (hI : JC σ) : Ok (fX5_takeFrom_59_47 σ) (fun τ => JC τ ∧ (∀ j, j < 59 → τ.1 j = σ.1 j) ∧ SA 47 59 σ τ) := by
  have le : ∀ i : Nat, ∀ a b : Nat, kbC a i = kbC b i → (kbC b i).1 ≤ (kbC a i).1 ∧ (kbC a i).2 ≤ (kbC b i).2 := fun i a b h => by rw [h]; exact ⟨Int.le_refl _, Int.le_refl _⟩
  unfold fX5_takeFrom_59_47
  rw [nm_eq]
  refine cp_step (n := 12) (JC_w hI (Int32.le_toInt _) (Int32.toInt_le _)) (by decide) (by decide) (fun i => le i _ _ rfl) (fun b jb b1 b2 => ?_)
  refine cp_step (n := 60) jb (by decide) (by decide) (fun i => le i _ _ rfl) (fun c jc c1 c2 => ?_)
  rw [nm_eq, lpc_pos (by unfold K9; omega)]
  refine as_step (a := 0) (.inl rfl) jc (fun d jd d1 d2 d3 d4 => ?_)
  rw [lpc_pos (by unfold K9; omega)]
  refine as_step (a := 1) (.inr rfl) jd (fun e je e1 e2 e3 e4 => ?_)
  rw [n_0] at d1 d2 d3 d4
  rw [n_1] at e1 e2 e3 e4
  rw [lpc_pos (by unfold K9; omega)]
  have s2 : ∀ rec : Int32 × gS → Option gS, bX5_takeFrom_59_47_32 c (fun a1 σ1 => rec (a1, σ1)) 2 e = some e := fun rec => by
    unfold bX5_takeFrom_59_47_32
    rw [if_pos (by decide)]
  show Ok (bX5_takeFrom_59_47_32 c _ 2 e) _
  rw [s2]
  have r0 : ∀ j, j < 59 → b.1 j = σ.1 j := fun j hj => by rw [b1 j (by omega), gsI_row (by omega)]
  have r1 : ∀ j, j < 59 → c.1 j = σ.1 j := fun j hj => by rw [c1 j (by omega), r0 j hj]
  have r2 : ∀ j, j < 59 → d.1 j = σ.1 j := fun j hj => by rw [d1 j (by omega) (by omega) (by omega), r1 j hj]
  refine ok_some.mpr ⟨je, fun j hj => by rw [e1 j (by omega) (by omega) (by omega), r2 j hj], ?_, fun i hi => ?_, fun a i ha hi => ?_, fun a i ha hi => ?_, fun a i ha hi => ?_, fun i hi => ?_⟩
  · rw [e1 59 (by decide) (by decide) (by decide), d1 59 (by decide) (by decide) (by decide), c1 59 (by decide), b1 59 (by decide), gsI_at, if_pos rfl]
  · rw [e1 60 (by decide) (by decide) (by decide), d1 60 (by decide) (by decide) (by decide), c1 60 (by decide), b2 i hi, gsI_row (by decide)]
  · rcases a2_2 ha with rfl | rfl
    · rw [e1 62 (by decide) (by decide) (by decide)]
      exact (d2 i hi).trans (by rw [r1 50 (by decide)])
    · exact (e2 i hi).trans (by rw [r2 51 (by decide)])
  · rcases a2_2 ha with rfl | rfl
    · rw [e1 65 (by decide) (by decide) (by decide)]
      exact (d3 i hi).trans (by rw [r1 53 (by decide)])
    · exact (e3 i hi).trans (by rw [r2 54 (by decide)])
  · rcases a2_2 ha with rfl | rfl
    · rw [e1 68 (by decide) (by decide) (by decide)]
      exact (d4 i hi).trans (by rw [r1 56 (by decide)])
    · exact (e4 i hi).trans (by rw [r2 57 (by decide)])
  · rw [e1 70 (by decide) (by decide) (by decide), d1 70 (by decide) (by decide) (by decide), c2 i hi, r0 58 (by decide)]
theorem bk_step {σx x : gS} {rec : Int32 → gS → Option gS} {a : Int32} {P : gS → Prop} (ha : a = 0 ∨ a = 1) (jx : JC x) (k : ∀ y : gS, JC y → (∀ j, j ≠ 50 + a.toInt.toNat → j ≠ 53 + a.toInt.toNat → j ≠ 56 + a.toInt.toNat → y.1 j = x.1 j) → (∀ i : Nat, i < 12 → y.1 (50 + a.toInt.toNat) i = x.1 (62 + a.toInt.toNat) i) → (∀ i : Nat, i < 20 → y.1 (53 + a.toInt.toNat) i = x.1 (65 + a.toInt.toNat) i) → (∀ i : Nat, i < 6 → y.1 (56 + a.toInt.toNat) i = x.1 (68 + a.toInt.toNat) i) → Ok (rec (a + 1) y) P) : Ok (bX5_takeFrom_47_59_32 σx rec a x) P := by
  have g2 : gb a 2 = true := by rcases ha with rfl | rfl <;> decide
  have le : ∀ i : Nat, ∀ a b : Nat, kbC a i = kbC b i → (kbC b i).1 ≤ (kbC a i).1 ∧ (kbC a i).2 ≤ (kbC b i).2 := fun i a b h => by rw [h]; exact ⟨Int.le_refl _, Int.le_refl _⟩
  have aa : a.toInt.toNat ≤ 1 := by rcases ha with rfl | rfl <;> decide
  unfold bX5_takeFrom_47_59_32
  rw [if_neg (by rcases ha with rfl | rfl <;> decide), q_gd g2, q_gd g2, n_toInt]
  refine cp_step (n := 12) jx (by rcases ha with rfl | rfl <;> decide) (by rcases ha with rfl | rfl <;> decide) (fun i => le i _ _ (by rcases ha with rfl | rfl <;> rfl)) (fun b jb b1 b2 => ?_)
  rw [q_gd g2, q_gd g2]
  refine cp_step (n := 20) jb (by rcases ha with rfl | rfl <;> decide) (by rcases ha with rfl | rfl <;> decide) (fun i => le i _ _ (by rcases ha with rfl | rfl <;> rfl)) (fun c jc c1 c2 => ?_)
  rw [q_gd g2, q_gd g2]
  refine cp_step (n := 6) jc (by rcases ha with rfl | rfl <;> decide) (by rcases ha with rfl | rfl <;> decide) (fun i => le i _ _ (by rcases ha with rfl | rfl <;> rfl)) (fun d jd d1 d2 => ?_)
  rw [nm_eq]
  refine k d jd (fun j j1 j2 j3 => by rw [d1 j j3, c1 j j2, b1 j j1]) (fun i hi => ?_) (fun i hi => ?_) (fun i hi => ?_)
  · rw [d1 _ (by omega), c1 _ (by omega)]
    exact b2 i hi
  · rw [d1 _ (by omega), c2 i hi, b1 _ (by omega)]
  · rw [d2 i hi, c1 _ (by omega), b1 _ (by omega)]
theorem k_back {σ : gS} (hI : JC σ) : Ok (fX5_takeFrom_47_59 σ) (fun τ => JC τ ∧ (∀ j, j < 47 ∨ 59 ≤ j → τ.1 j = σ.1 j) ∧ SA 59 47 σ τ) := by
  have le : ∀ i : Nat, ∀ a b : Nat, kbC a i = kbC b i → (kbC b i).1 ≤ (kbC a i).1 ∧ (kbC a i).2 ≤ (kbC b i).2 := fun i a b h => by rw [h]; exact ⟨Int.le_refl _, Int.le_refl _⟩
  unfold fX5_takeFrom_47_59
  rw [nm_eq]
  refine cp_step (n := 12) (JC_w hI (Int32.le_toInt _) (Int32.toInt_le _)) (by decide) (by decide) (fun i => le i _ _ rfl) (fun b jb b1 b2 => ?_)
  refine cp_step (n := 60) jb (by decide) (by decide) (fun i => le i _ _ rfl) (fun c jc c1 c2 => ?_)
  rw [nm_eq, lpc_pos (by unfold K9; omega)]
  refine bk_step (a := 0) (.inl rfl) jc (fun d jd d1 d2 d3 d4 => ?_)
  rw [lpc_pos (by unfold K9; omega)]
  refine bk_step (a := 1) (.inr rfl) jd (fun e je e1 e2 e3 e4 => ?_)
  rw [n_0] at d1 d2 d3 d4
  rw [n_1] at e1 e2 e3 e4
  rw [lpc_pos (by unfold K9; omega)]
  have s2 : ∀ rec : Int32 × gS → Option gS, bX5_takeFrom_47_59_32 c (fun a1 σ1 => rec (a1, σ1)) 2 e = some e := fun rec => by
    unfold bX5_takeFrom_47_59_32
    rw [if_pos (by decide)]
  show Ok (bX5_takeFrom_47_59_32 c _ 2 e) _
  rw [s2]
  have r0 : ∀ j, j < 47 ∨ 59 ≤ j → b.1 j = σ.1 j := fun j hj => by rw [b1 j (by omega), gsI_row (by omega)]
  have r1 : ∀ j, j < 47 ∨ 59 ≤ j → c.1 j = σ.1 j := fun j hj => by rw [c1 j (by omega), r0 j hj]
  have r2 : ∀ j, j < 47 ∨ 59 ≤ j → d.1 j = σ.1 j := fun j hj => by rw [d1 j (by omega) (by omega) (by omega), r1 j hj]
  refine ok_some.mpr ⟨je, fun j hj => by rw [e1 j (by omega) (by omega) (by omega), r2 j hj], ?_, fun i hi => ?_, fun a i ha hi => ?_, fun a i ha hi => ?_, fun a i ha hi => ?_, fun i hi => ?_⟩
  · rw [e1 47 (by decide) (by decide) (by decide), d1 47 (by decide) (by decide) (by decide), c1 47 (by decide), b1 47 (by decide), gsI_at, if_pos rfl]
  · rw [e1 48 (by decide) (by decide) (by decide), d1 48 (by decide) (by decide) (by decide), c1 48 (by decide), b2 i hi, gsI_row (by decide)]
  · rcases a2_2 ha with rfl | rfl
    · rw [e1 50 (by decide) (by decide) (by decide)]
      exact (d2 i hi).trans (by rw [r1 62 (by decide)])
    · exact (e2 i hi).trans (by rw [r2 63 (by decide)])
  · rcases a2_2 ha with rfl | rfl
    · rw [e1 53 (by decide) (by decide) (by decide)]
      exact (d3 i hi).trans (by rw [r1 65 (by decide)])
    · exact (e3 i hi).trans (by rw [r2 66 (by decide)])
  · rcases a2_2 ha with rfl | rfl
    · rw [e1 56 (by decide) (by decide) (by decide)]
      exact (d4 i hi).trans (by rw [r1 68 (by decide)])
    · exact (e4 i hi).trans (by rw [r2 69 (by decide)])
  · rw [e1 58 (by decide) (by decide) (by decide), d1 58 (by decide) (by decide) (by decide), c2 i hi, r0 70 (by decide)]
/-- the reference's -/
noncomputable def SB (s t : gS) : Prop := (∀ k, k ≠ 0 → k ≠ 37 → k ≠ 38 → t.1 k = s.1 k) ∧ (∀ i, i ≠ 52 → t.1 0 i = s.1 0 i) ∧ t.2 = s.2 ∧ (∀ i : Nat, i < 76 → t.1 37 i = s.1 28 i) ∧ (∀ i : Nat, i < 12 → t.1 38 i = s.1 27 i) ∧ t.1 0 52 = s.1 0 36
theorem m_puts (s : gS) : Ok (fX10_putsAside s) (SB s) := by
  have z0' := z0
  have l12 : (12 : Int32).toInt = 12 := by decide
  have l76 : (76 : Int32).toInt = 76 := by decide
  unfold fX10_putsAside
  refine ok_nm.mpr ?_
  refine ok_lpc (I := fun (m : Nat) (u : Int32 × gS) => m = (76 - u.1.toInt).toNat ∧ 0 ≤ u.1.toInt ∧ u.1.toInt ≤ 76 ∧ (∀ j, j ≠ 37 → u.2.1 j = s.1 j) ∧ u.2.2 = s.2 ∧ ∀ k : Nat, (k : Int) < u.1.toInt → u.2.1 37 k = s.1 28 k) (fun rec m u hs hrec => ?_) K9 76 (0, s) ⟨by dsimp only; omega, by dsimp only; omega, by dsimp only; omega, fun _ _ => rfl, rfl, fun k hk => absurd hk (by dsimp only; omega)⟩ (by unfold K9; omega)
  obtain ⟨i, τ⟩ := u
  obtain ⟨hm, i0, i1, h1, h2, h3⟩ := hs
  dsimp only at hm i0 i1 h1 h2 h3 ⊢
  unfold bX10_putsAside_2
  refine ok_ite.mpr ⟨fun hk => ok_nm.mpr ?_, fun hk => ?_⟩
  rotate_left
  · have hlt := q_gt hk
    have ei := i_inc (a := i) (c := 80) (by omega) (by omega) (by decide)
    have gi := gb_of (i := i) (n := 76) i0 (by omega)
    rw [q_gd gi, nm_eq, q_gd gi, nm_eq, nm_eq, n_toInt, h1 28 (by decide)]
    refine hrec (76 - (i + 1).toInt).toNat _ (by omega) ⟨rfl, by dsimp only; omega, by dsimp only; omega, fun j hj => (gsI_row hj).trans (h1 j hj), h2, fun k hk => ?_⟩
    dsimp only at hk ⊢
    rw [gsI_at]
    by_cases y : k = i.toInt.toNat
    · rw [if_pos y, y]
    · rw [if_neg y]; exact h3 k (by omega)
  have hk' := Int32.le_iff_toInt_le.mp hk
  clear hrec
  refine ok_lpc (I := fun (m : Nat) (u : Int32 × gS) => m = (12 - u.1.toInt).toNat ∧ 0 ≤ u.1.toInt ∧ u.1.toInt ≤ 12 ∧ (∀ j, j ≠ 38 → u.2.1 j = τ.1 j) ∧ u.2.2 = τ.2 ∧ ∀ k : Nat, (k : Int) < u.1.toInt → u.2.1 38 k = s.1 27 k) (fun rec m u hs hrec => ?_) K9 12 (0, τ) ⟨by dsimp only; omega, by dsimp only; omega, by dsimp only; omega, fun _ _ => rfl, rfl, fun k hk => absurd hk (by dsimp only; omega)⟩ (by unfold K9; omega)
  obtain ⟨p, μ⟩ := u
  obtain ⟨hm2, p0, p1, g1, g2, g3⟩ := hs
  dsimp only at hm2 p0 p1 g1 g2 g3 ⊢
  unfold bX10_putsAside_28
  refine ok_ite.mpr ⟨fun hk2 => ok_nm.mpr (ok_some.mpr ⟨fun k k0 k1 k2 => ?_, fun j hj => ?_, ?_, fun k hk3 => ?_, fun k hk3 => ?_, ?_⟩), fun hk2 => ?_⟩
  · rw [gsI_row k0, g1 k k2, h1 k k1]
  · rw [gsI_at, if_neg hj, g1 0 (by decide), h1 0 (by decide)]
  · show μ.2 = s.2
    rw [g2, h2]
  · rw [gsI_row (by decide), g1 37 (by decide)]
    exact h3 k (by omega)
  · have hk4 := Int32.le_iff_toInt_le.mp hk2
    rw [gsI_row (by decide)]
    exact g3 k (by omega)
  · rw [gsI_at, if_pos rfl, g1 0 (by decide), h1 0 (by decide)]
  · have hlt := q_gt hk2
    have ei := i_inc (a := p) (c := 80) (by omega) (by omega) (by decide)
    have gi := gb_of (i := p) (n := 12) p0 (by omega)
    rw [q_gd gi, nm_eq, q_gd gi, nm_eq, nm_eq, n_toInt, g1 27 (by decide), h1 27 (by decide)]
    refine hrec (12 - (p + 1).toInt).toNat _ (by omega) ⟨rfl, by dsimp only; omega, by dsimp only; omega, fun j hj => (gsI_row hj).trans (g1 j hj), g2, fun k hk => ?_⟩
    dsimp only at hk ⊢
    rw [gsI_at]
    by_cases y : k = p.toInt.toNat
    · rw [if_pos y, y]
    · rw [if_neg y]; exact g3 k (by omega)
noncomputable def SBk (s t : gS) : Prop := (∀ k, k ≠ 0 → k ≠ 27 → k ≠ 28 → t.1 k = s.1 k) ∧ (∀ i, i ≠ 36 → t.1 0 i = s.1 0 i) ∧ t.2 = s.2 ∧ (∀ i : Nat, i < 76 → t.1 28 i = s.1 37 i) ∧ (∀ i : Nat, i < 12 → t.1 27 i = s.1 38 i) ∧ t.1 0 36 = s.1 0 52
theorem m_takes (s : gS) : Ok (fX10_takesBack s) (SBk s) := by
  have z0' := z0
  have l12 : (12 : Int32).toInt = 12 := by decide
  have l76 : (76 : Int32).toInt = 76 := by decide
  unfold fX10_takesBack
  refine ok_nm.mpr ?_
  refine ok_lpc (I := fun (m : Nat) (u : Int32 × gS) => m = (76 - u.1.toInt).toNat ∧ 0 ≤ u.1.toInt ∧ u.1.toInt ≤ 76 ∧ (∀ j, j ≠ 28 → u.2.1 j = s.1 j) ∧ u.2.2 = s.2 ∧ ∀ k : Nat, (k : Int) < u.1.toInt → u.2.1 28 k = s.1 37 k) (fun rec m u hs hrec => ?_) K9 76 (0, s) ⟨by dsimp only; omega, by dsimp only; omega, by dsimp only; omega, fun _ _ => rfl, rfl, fun k hk => absurd hk (by dsimp only; omega)⟩ (by unfold K9; omega)
  obtain ⟨i, τ⟩ := u
  obtain ⟨hm, i0, i1, h1, h2, h3⟩ := hs
  dsimp only at hm i0 i1 h1 h2 h3 ⊢
  unfold bX10_takesBack_2
  refine ok_ite.mpr ⟨fun hk => ok_nm.mpr ?_, fun hk => ?_⟩
  rotate_left
  · have hlt := q_gt hk
    have ei := i_inc (a := i) (c := 80) (by omega) (by omega) (by decide)
    have gi := gb_of (i := i) (n := 76) i0 (by omega)
    rw [q_gd gi, nm_eq, q_gd gi, nm_eq, nm_eq, n_toInt, h1 37 (by decide)]
    refine hrec (76 - (i + 1).toInt).toNat _ (by omega) ⟨rfl, by dsimp only; omega, by dsimp only; omega, fun j hj => (gsI_row hj).trans (h1 j hj), h2, fun k hk => ?_⟩
    dsimp only at hk ⊢
    rw [gsI_at]
    by_cases y : k = i.toInt.toNat
    · rw [if_pos y, y]
    · rw [if_neg y]; exact h3 k (by omega)
  have hk' := Int32.le_iff_toInt_le.mp hk
  clear hrec
  refine ok_lpc (I := fun (m : Nat) (u : Int32 × gS) => m = (12 - u.1.toInt).toNat ∧ 0 ≤ u.1.toInt ∧ u.1.toInt ≤ 12 ∧ (∀ j, j ≠ 27 → u.2.1 j = τ.1 j) ∧ u.2.2 = τ.2 ∧ ∀ k : Nat, (k : Int) < u.1.toInt → u.2.1 27 k = s.1 38 k) (fun rec m u hs hrec => ?_) K9 12 (0, τ) ⟨by dsimp only; omega, by dsimp only; omega, by dsimp only; omega, fun _ _ => rfl, rfl, fun k hk => absurd hk (by dsimp only; omega)⟩ (by unfold K9; omega)
  obtain ⟨p, μ⟩ := u
  obtain ⟨hm2, p0, p1, g1, g2, g3⟩ := hs
  dsimp only at hm2 p0 p1 g1 g2 g3 ⊢
  unfold bX10_takesBack_28
  refine ok_ite.mpr ⟨fun hk2 => ok_nm.mpr (ok_some.mpr ⟨fun k k0 k1 k2 => ?_, fun j hj => ?_, ?_, fun k hk3 => ?_, fun k hk3 => ?_, ?_⟩), fun hk2 => ?_⟩
  · rw [gsI_row k0, g1 k k1, h1 k k2]
  · rw [gsI_at, if_neg hj, g1 0 (by decide), h1 0 (by decide)]
  · show μ.2 = s.2
    rw [g2, h2]
  · rw [gsI_row (by decide), g1 28 (by decide)]
    exact h3 k (by omega)
  · have hk4 := Int32.le_iff_toInt_le.mp hk2
    rw [gsI_row (by decide)]
    exact g3 k (by omega)
  · rw [gsI_at, if_pos rfl, g1 0 (by decide), h1 0 (by decide)]
  · have hlt := q_gt hk2
    have ei := i_inc (a := p) (c := 80) (by omega) (by omega) (by decide)
    have gi := gb_of (i := p) (n := 12) p0 (by omega)
    rw [q_gd gi, nm_eq, q_gd gi, nm_eq, nm_eq, n_toInt, g1 38 (by decide), h1 38 (by decide)]
    refine hrec (12 - (p + 1).toInt).toNat _ (by omega) ⟨rfl, by dsimp only; omega, by dsimp only; omega, fun j hj => (gsI_row hj).trans (g1 j hj), g2, fun k hk => ?_⟩
    dsimp only at hk ⊢
    rw [gsI_at]
    by_cases y : k = p.toInt.toNat
    · rw [if_pos y, y]
    · rw [if_neg y]; exact g3 k (by omega)
/-- the geometry, cell by cell -/
theorem GE_cell {σ s τ t : gS} (g : GE σ s) (hn : ((0 ≤ (s.1 15 9).toInt ∧ (s.1 15 9).toInt ≤ 60) ∧ (0 ≤ (s.1 15 8).toInt ∧ (s.1 15 8).toInt ≤ 20) ∧ (0 ≤ (s.1 15 7).toInt ∧ (s.1 15 7).toInt ≤ 12) ∧ 0 ≤ (s.1 15 6).toInt ∧ (s.1 15 6).toInt ≤ 6)) (a : SA 47 47 σ τ) (a13 : ∀ i : Nat, i < 60 → τ.1 13 i = σ.1 13 i ∧ τ.1 14 i = σ.1 14 i) (b15 : t.1 15 = s.1 15) (b26 : t.1 26 = s.1 26) (b36 : t.1 0 36 = s.1 0 36) (b27 : ∀ i : Nat, i < 12 → t.1 27 i = s.1 27 i) (b28 : ∀ i : Nat, i < 76 → t.1 28 i = s.1 28 i) (b24 : ∀ i : Nat, t.1 24 i = s.1 24 i) : GE τ t := by
  obtain ⟨g1, g2, g3, g4, g5, g6, g7, g8⟩ := g
  obtain ⟨a1, a2, a3, a4, a5, a6⟩ := a
  refine ⟨by rw [a1, b36]; exact g1, by rw [b36]; exact g2, fun p hp => ?_, fun x p hx hp => ?_, fun x p hx hp => ?_, fun x p hx hp => ?_, fun r hr => ?_, fun r hr => ?_⟩
  · rw [b15] at hp
    rw [b27 p (by omega), show τ.1 48 p = σ.1 48 p from a2 p (by omega)]
    exact g3 p hp
  · rw [b15] at hp
    rw [b28 _ (by omega), show τ.1 (50 + x) p = σ.1 (50 + x) p from a3 x p hx (by omega)]
    exact g4 x p hx hp
  · rw [b15] at hp
    rw [b28 _ (by omega), show τ.1 (53 + x) p = σ.1 (53 + x) p from a4 x p hx (by omega)]
    exact g5 x p hx hp
  · rw [b15] at hp
    rw [b28 _ (by omega), show τ.1 (56 + x) p = σ.1 (56 + x) p from a5 x p hx (by omega)]
    exact g6 x p hx hp
  · rw [b15] at hr
    rw [b26, show τ.1 58 r = σ.1 58 r from a6 r (by omega)]
    exact g7 r hr
  · rw [b15] at hr
    unfold MSd
    rw [(a13 r (by omega)).1, (a13 r (by omega)).2, b24, b24]
    exact g8 r hr
theorem SA_t {f g k : Nat} {σ τ ρ κ : gS} (h : SA f g σ τ) (m : ∀ j, g ≤ j → j ≤ g + 11 → ρ.1 j = τ.1 j) (l : SA g k ρ κ) : SA f k σ κ := by
  obtain ⟨h1, h2, h3, h4, h5, h6⟩ := h
  obtain ⟨l1, l2, l3, l4, l5, l6⟩ := l
  refine ⟨?_, fun i hi => ?_, fun a i ha hi => ?_, fun a i ha hi => ?_, fun a i ha hi => ?_, fun i hi => ?_⟩
  · rw [l1, m _ (by omega) (by omega), h1]
  · rw [l2 i hi, m _ (by omega) (by omega), h2 i hi]
  · rw [l3 a i ha hi, m _ (by omega) (by omega), h3 a i ha hi]
  · rw [l4 a i ha hi, m _ (by omega) (by omega), h4 a i ha hi]
  · rw [l5 a i ha hi, m _ (by omega) (by omega), h5 a i ha hi]
  · rw [l6 i hi, m _ (by omega) (by omega), h6 i hi]
end P12ZK
