/-! THE GEOMETRY KEPT: on -/
section P12ZO
theorem tk_step {σx x : gS} {rec : Int32 → gS → Option gS} {a : Int32} {P : gS → Prop} (ha : a = 0 ∨ a = 1) (jx : JC x) (k : ∀ y : gS, JC y → (∀ j, j ≠ 50 + a.toInt.toNat → j ≠ 53 + a.toInt.toNat → j ≠ 56 + a.toInt.toNat → y.1 j = x.1 j) → (∀ i : Nat, i < 12 → y.1 (50 + a.toInt.toNat) i = x.1 (74 + a.toInt.toNat) i) → (∀ i : Nat, i < 20 → y.1 (53 + a.toInt.toNat) i = x.1 (77 + a.toInt.toNat) i) → (∀ i : Nat, i < 6 → y.1 (56 + a.toInt.toNat) i = x.1 (80 + a.toInt.toNat) i) → Ok (rec (a + 1) y) P) : Ok (bX5_takeFrom_47_71_32 σx rec a x) P := by
  have g2 : gb a 2 = true := by rcases ha with rfl | rfl <;> decide
  have le : ∀ i : Nat, ∀ a b : Nat, kbC a i = kbC b i → (kbC b i).1 ≤ (kbC a i).1 ∧ (kbC a i).2 ≤ (kbC b i).2 := fun i a b h => by rw [h]; exact ⟨Int.le_refl _, Int.le_refl _⟩
  have aa : a.toInt.toNat ≤ 1 := by rcases ha with rfl | rfl <;> decide
  unfold bX5_takeFrom_47_71_32
  rw [if_neg (by rcases ha with rfl | rfl <;> decide), q_gd g2, q_gd g2, n_toInt]
  refine cp_step (n := 12) jx (by rcases ha with rfl | rfl <;> decide) (by rcases ha with rfl | rfl <;> decide) (fun i => le i _ _ (by rcases ha with rfl | rfl <;> rfl)) (fun b jb b1 b2 => ?_)
  rw [q_gd g2, q_gd g2]
  refine cp_step (n := 20) jb (by rcases ha with rfl | rfl <;> decide) (by rcases ha with rfl | rfl <;> decide) (fun i => le i _ _ (by rcases ha with rfl | rfl <;> rfl)) (fun c jc c1 c2 => ?_)
  rw [q_gd g2, q_gd g2]
  refine cp_step (n := 6) jc (by rcases ha with rfl | rfl <;> decide) (by rcases ha with rfl | rfl <;> decide) (fun i => le i _ _ (by rcases ha with rfl | rfl <;> rfl)) (fun d jd d1 d2 => ?_)
  rw [nm_eq]
  refine k d jd (fun j j1 j2 j3 => by rw [d1 j j3, c1 j j2, b1 j j1]) (fun i hi => ?_) (fun i hi => ?_) (fun i hi => ?_)
  · rw [d1 _ (by omega), c1 _ (by omega)]
    exact b2 i hi
  · rw [d1 _ (by omega), c2 i hi, b1 _ (by omega)]
  · rw [d2 i hi, c1 _ (by omega), b1 _ (by omega)]
theorem k_take {σ : gS} (hI : JC σ) : Ok (fX5_takeFrom_47_71 σ) (fun τ => JC τ ∧ (∀ j, j < 47 ∨ 59 ≤ j → τ.1 j = σ.1 j) ∧ SA 71 47 σ τ) := by
  have le : ∀ i : Nat, ∀ a b : Nat, kbC a i = kbC b i → (kbC b i).1 ≤ (kbC a i).1 ∧ (kbC a i).2 ≤ (kbC b i).2 := fun i a b h => by rw [h]; exact ⟨Int.le_refl _, Int.le_refl _⟩
  unfold fX5_takeFrom_47_71
  rw [nm_eq]
  refine cp_step (n := 12) (JC_w hI (Int32.le_toInt _) (Int32.toInt_le _)) (by decide) (by decide) (fun i => le i _ _ rfl) (fun b jb b1 b2 => ?_)
  refine cp_step (n := 60) jb (by decide) (by decide) (fun i => le i _ _ rfl) (fun c jc c1 c2 => ?_)
  rw [nm_eq, lpc_pos (by unfold K9; omega)]
  refine tk_step (a := 0) (.inl rfl) jc (fun d jd d1 d2 d3 d4 => ?_)
  rw [lpc_pos (by unfold K9; omega)]
  refine tk_step (a := 1) (.inr rfl) jd (fun e je e1 e2 e3 e4 => ?_)
  rw [n_0] at d1 d2 d3 d4
  rw [n_1] at e1 e2 e3 e4
  rw [lpc_pos (by unfold K9; omega)]
  have s2 : ∀ rec : Int32 × gS → Option gS, bX5_takeFrom_47_71_32 c (fun a1 σ1 => rec (a1, σ1)) 2 e = some e := fun rec => by
    unfold bX5_takeFrom_47_71_32
    rw [if_pos (by decide)]
  show Ok (bX5_takeFrom_47_71_32 c _ 2 e) _
  rw [s2]
  have r0 : ∀ j, j < 47 ∨ 59 ≤ j → b.1 j = σ.1 j := fun j hj => by rw [b1 j (by omega), gsI_row (by omega)]
  have r1 : ∀ j, j < 47 ∨ 59 ≤ j → c.1 j = σ.1 j := fun j hj => by rw [c1 j (by omega), r0 j hj]
  have r2 : ∀ j, j < 47 ∨ 59 ≤ j → d.1 j = σ.1 j := fun j hj => by rw [d1 j (by omega) (by omega) (by omega), r1 j hj]
  refine ok_some.mpr ⟨je, fun j hj => by rw [e1 j (by omega) (by omega) (by omega), r2 j hj], ?_, fun i hi => ?_, fun a i ha hi => ?_, fun a i ha hi => ?_, fun a i ha hi => ?_, fun i hi => ?_⟩
  · rw [e1 47 (by decide) (by decide) (by decide), d1 47 (by decide) (by decide) (by decide), c1 47 (by decide), b1 47 (by decide), gsI_at, if_pos rfl]
  · rw [e1 48 (by decide) (by decide) (by decide), d1 48 (by decide) (by decide) (by decide), c1 48 (by decide), b2 i hi, gsI_row (by decide)]
  · rcases a2_2 ha with rfl | rfl
    · rw [e1 50 (by decide) (by decide) (by decide)]
      exact (d2 i hi).trans (by rw [r1 74 (by decide)])
    · exact (e2 i hi).trans (by rw [r2 75 (by decide)])
  · rcases a2_2 ha with rfl | rfl
    · rw [e1 53 (by decide) (by decide) (by decide)]
      exact (d3 i hi).trans (by rw [r1 77 (by decide)])
    · exact (e3 i hi).trans (by rw [r2 78 (by decide)])
  · rcases a2_2 ha with rfl | rfl
    · rw [e1 56 (by decide) (by decide) (by decide)]
      exact (d4 i hi).trans (by rw [r1 80 (by decide)])
    · exact (e4 i hi).trans (by rw [r2 81 (by decide)])
  · rw [e1 58 (by decide) (by decide) (by decide), d1 58 (by decide) (by decide) (by decide), c2 i hi, r0 82 (by decide)]
theorem z01 {σ τ : gS} {P : Prop} (h : (some ((0 : Int32), σ) : Option (Int32 × gS)) = some (1, τ)) : P := absurd (Prod.mk.inj (Option.some.inj h)).1.symm one_ne
theorem read_take {σ τ : gS} {n : Int32} (e : fX0_read_71 σ 1 n = some (1, τ)) : fX0_take_71 σ 1 = some τ := by
  unfold fX0_read_71 at e
  obtain ⟨r2, -, e⟩ := bd_some e
  by_cases a : n = r2
  · rw [if_pos a] at e
    obtain ⟨-, e⟩ := gd_some e
    by_cases b : n ≤ Int32.ofNat (gsz zC.1 0 0 1)
    · rw [if_pos b] at e
      obtain ⟨r7, -, e⟩ := bd_some e
      obtain ⟨-, e⟩ := gd_some e
      rw [nm_eq] at e
      by_cases c : r7 = σ.1 1 (n - 1).toNatClampNeg
      · rw [if_pos c] at e
        obtain ⟨σ11, e11, e⟩ := bd_some e
        by_cases d : 3 < σ11.1 71 1
        · rw [if_pos d] at e; exact z01 e
        rw [if_neg d] at e
        obtain ⟨r1, -, e⟩ := bd_some e
        by_cases f : r1 = 0
        · rw [if_pos f] at e; exact z01 e
        rw [if_neg f] at e
        obtain ⟨r3, -, e⟩ := bd_some e
        by_cases g : r3 = 0
        · rw [if_pos g] at e; exact z01 e
        rw [if_neg g] at e
        obtain ⟨r4, -, e⟩ := bd_some e
        by_cases h : r4 = 0
        · rw [if_pos h] at e; exact z01 e
        rw [if_neg h] at e
        obtain ⟨r5, -, e⟩ := bd_some e
        by_cases i : r5 = 0
        · rw [if_pos i] at e; exact z01 e
        rw [if_neg i] at e
        rw [e11, (Prod.mk.inj (Option.some.inj e)).2]
      · rw [if_neg c] at e; exact z01 e
    · rw [if_neg b] at e; exact z01 e
  · rw [if_neg a] at e; exact z01 e
theorem m_tells {t : gS} {k c : Int32} {A : Nat} (hk : k.toInt = A) (hA : A ≤ 1500) (c0 : 0 ≤ c.toInt) (c1 : c.toInt ≤ 37) : ∃ y : Int32, y.toInt = ((A + 8 : Nat) : Int) ∧ fX10_tells t k c = some (y, gsI (gsI t 28 c.toInt.toNat (W4 (t.1 1) A)) 28 (38 + c.toInt.toNat) (W4 (t.1 1) (A + 4))) := by
  have l38 : (38 : Int32).toInt = 38 := by decide
  have l4 : (4 : Int32).toInt = 4 := by decide
  have l8 : (8 : Int32).toInt = 8 := by decide
  have e4 : (k + 4).toInt = ((A + 4 : Nat) : Int) := by rw [iadd_toInt] <;> omega
  have e8 : (k + 8).toInt = ((A + 8 : Nat) : Int) := by rw [iadd_toInt] <;> omega
  have e38 : (38 + c).toInt = 38 + c.toInt := by rw [iadd_toInt] <;> omega
  have n38 : (38 + c).toNatClampNeg = 38 + c.toInt.toNat := n_add (k := 38) (by decide) c0 (by omega)
  refine ⟨k + 8, e8, ?_⟩
  unfold fX10_tells
  rw [q_bd (m_four hk (by omega)), q_gd (gb_of (by omega) (by omega)), nm_eq, n_toInt, q_bd (m_four e4 (by omega)), q_gd (gb_of (by omega) (by omega)), nm_eq, n38, gsI_row (show 1 ≠ 28 by decide)]
/-- what an image tells, on the reference's side -/
noncomputable def OA (T : Nat → Int32) (m : Nat) (u : gS) : Prop := ∀ p : Nat, p < m → u.1 27 p = T (1 + 9 * p) ∧ u.1 28 p = W4 T (2 + 9 * p) ∧ u.1 28 (38 + p) = W4 T (2 + 9 * p + 4)
noncomputable def OB (T : Nat → Int32) (c B m : Nat) (u : gS) : Prop := ∀ q : Nat, q < m → u.1 28 (c + q) = W4 T (B + 8 * q) ∧ u.1 28 (38 + (c + q)) = W4 T (B + 8 * q + 4)
noncomputable def OR (T : Nat → Int32) (B m : Nat) (u : gS) : Prop := ∀ r : Nat, r < m → u.1 26 r = if T (B + r) = 1 then 1 else 0
noncomputable def OF (s u : gS) : Prop := (∀ k, k ≠ 26 → k ≠ 27 → k ≠ 28 → u.1 k = s.1 k) ∧ u.2 = s.2
noncomputable def ON (s u : gS) : Prop := OF s u ∧ OA (s.1 1) (s.1 15 7).toInt.toNat u ∧ OB (s.1 1) 12 (1 + 9 * (s.1 15 7).toInt.toNat) (s.1 15 8).toInt.toNat u ∧ OB (s.1 1) 32 (1 + 9 * (s.1 15 7).toInt.toNat + 8 * (s.1 15 8).toInt.toNat) (s.1 15 6).toInt.toNat u ∧ OR (s.1 1) (1 + 9 * (s.1 15 7).toInt.toNat + 8 * (s.1 15 8).toInt.toNat + 8 * (s.1 15 6).toInt.toNat) (s.1 15 9).toInt.toNat u
set_option maxHeartbeats 1000000 in
theorem m_onTells {s : gS} (b : ((0 ≤ (s.1 15 9).toInt ∧ (s.1 15 9).toInt ≤ 60) ∧ (0 ≤ (s.1 15 8).toInt ∧ (s.1 15 8).toInt ≤ 20) ∧ (0 ≤ (s.1 15 7).toInt ∧ (s.1 15 7).toInt ≤ 12) ∧ 0 ≤ (s.1 15 6).toInt ∧ (s.1 15 6).toInt ≤ 6)) : Ok (lpc (S := Int32 × Int32 × gS) K9 (fun rec u => bX10_on_34 s (fun a2 a3 σ1 => rec (a2, a3, σ1)) u.1 u.2.1 u.2.2) (1, 0, s)) (fun o => ON s o.2) := by
  obtain ⟨b9, b8, b7, b6⟩ := b
  have z0' := z0
  have l1 : (1 : Int32).toInt = 1 := by decide
  have l12 : (12 : Int32).toInt = 12 := by decide
  have l32 : (32 : Int32).toInt = 32 := by decide
  obtain ⟨n1, hn1⟩ : ∃ n, n = (s.1 15 7).toInt.toNat := ⟨_, rfl⟩
  obtain ⟨n2, hn2⟩ : ∃ n, n = (s.1 15 8).toInt.toNat := ⟨_, rfl⟩
  obtain ⟨n0, hn0⟩ : ∃ n, n = (s.1 15 6).toInt.toNat := ⟨_, rfl⟩
  obtain ⟨n3, hn3⟩ : ∃ n, n = (s.1 15 9).toInt.toNat := ⟨_, rfl⟩
  unfold ON
  rw [← hn1, ← hn2, ← hn0, ← hn3]
  refine ok_lpc (I := fun (m : Nat) (u : Int32 × Int32 × gS) => m = n1 - u.2.1.toInt.toNat ∧ 0 ≤ u.2.1.toInt ∧ u.2.1.toInt ≤ n1 ∧ u.1.toInt = ((1 + 9 * u.2.1.toInt.toNat : Nat) : Int) ∧ OF s u.2.2 ∧ OA (s.1 1) u.2.1.toInt.toNat u.2.2) (fun rec m u hs hrec => ?_) K9 n1 (1, 0, s) ⟨by dsimp only; omega, by dsimp only; omega, by dsimp only; omega, by dsimp only; omega, ⟨fun _ _ _ _ => rfl, rfl⟩, fun p hp => absurd hp (by dsimp only; omega)⟩ (by unfold K9; omega)
  obtain ⟨x, p, t⟩ := u
  obtain ⟨hm, p0, p1, hx, hF, hA⟩ := hs
  dsimp only at hm p0 p1 hx hF hA ⊢
  unfold bX10_on_34
  rw [q_bd (m_pictures t), hF.1 15 (by decide) (by decide) (by decide)]
  refine ok_ite.mpr ⟨fun hk => ok_nm.mpr ?_, fun hk => ?_⟩
  rotate_left
  · have hlt := q_gt hk
    have ei := i_inc (a := p) (c := 60) (by omega) (by omega) (by decide)
    have ek : (p + 1).toInt.toNat = p.toInt.toNat + 1 := by omega
    have x1 : (x + 1).toInt = ((1 + 9 * p.toInt.toNat + 1 : Nat) : Int) := by rw [iadd_toInt] <;> omega
    have nx : x.toNatClampNeg = 1 + 9 * p.toInt.toNat := by rw [n_toInt]; omega
    obtain ⟨y, hy, et⟩ := m_tells (t := gsI t 27 p.toInt.toNat (s.1 1 (1 + 9 * p.toInt.toNat))) (k := x + 1) (c := p) x1 (by omega) p0 (by omega)
    rw [gsI_row (show 1 ≠ 27 by decide), hF.1 1 (by decide) (by decide) (by decide)] at et
    rw [q_gd (gb_of (by omega) (by omega)), nm_eq, nx, hF.1 1 (by decide) (by decide) (by decide), q_gd (gb_of (by omega) (by omega)), nm_eq, n_toInt, et, bd2_so, nm_eq, nm_eq]
    refine hrec (n1 - (p + 1).toInt.toNat) (y, p + 1, _) (by omega) ⟨rfl, by dsimp only; omega, by dsimp only; omega, by dsimp only; omega, ⟨fun k k0 k1 k2 => ?_, hF.2⟩, fun q hq => ?_⟩
    · dsimp only
      rw [gsI_row k2, gsI_row k2, gsI_row k1]
      exact hF.1 k k0 k1 k2
    · dsimp only at hq ⊢
      rw [gsI_row (show 27 ≠ 28 by decide), gsI_row (show 27 ≠ 28 by decide), gsI_at, gsI_at, gsI_at, gsI_at, gsI_at, gsI_row (show 28 ≠ 27 by decide)]
      by_cases z : q = p.toInt.toNat
      · subst z
        rw [if_pos rfl, if_neg (show ¬ p.toInt.toNat = 38 + p.toInt.toNat by omega), if_pos rfl, if_pos rfl]
        exact ⟨rfl, by rw [show 1 + 9 * p.toInt.toNat + 1 = 2 + 9 * p.toInt.toNat by omega], by rw [show 1 + 9 * p.toInt.toNat + 1 + 4 = 2 + 9 * p.toInt.toNat + 4 by omega]⟩
      · rw [if_neg z, if_neg (show ¬ q = 38 + p.toInt.toNat by omega), if_neg z, if_neg (show ¬ 38 + q = 38 + p.toInt.toNat by omega), if_neg (show ¬ 38 + q = p.toInt.toNat by omega)]
        exact hA q (by omega)
  have hk' := Int32.le_iff_toInt_le.mp hk
  have en : p.toInt.toNat = n1 := by omega
  rw [en] at hx hA
  clear hrec hm
  -- points
  refine ok_lpc (I := fun (m : Nat) (u : Int32 × Int32 × gS) => m = n2 - u.2.1.toInt.toNat ∧ 0 ≤ u.2.1.toInt ∧ u.2.1.toInt ≤ n2 ∧ u.1.toInt = ((1 + 9 * n1 + 8 * u.2.1.toInt.toNat : Nat) : Int) ∧ OF s u.2.2 ∧ OA (s.1 1) n1 u.2.2 ∧ OB (s.1 1) 12 (1 + 9 * n1) u.2.1.toInt.toNat u.2.2) (fun rec m u hs hrec => ?_) K9 n2 (x, 0, t) ⟨by dsimp only; omega, by dsimp only; omega, by dsimp only; omega, by dsimp only; omega, hF, hA, fun q hq => absurd hq (by dsimp only; omega)⟩ (by unfold K9; omega)
  clear hx hF hA hk hk' p0 p1 en
  obtain ⟨x, p, t⟩ := u
  obtain ⟨hm, p0, p1, hx, hF, hA, hB⟩ := hs
  dsimp only at hm p0 p1 hx hF hA hB ⊢
  unfold bX10_on_71
  rw [q_bd (m_points t), hF.1 15 (by decide) (by decide) (by decide)]
  refine ok_ite.mpr ⟨fun hk => ok_nm.mpr ?_, fun hk => ?_⟩
  rotate_left
  · have hlt := q_gt hk
    have ei := i_inc (a := p) (c := 60) (by omega) (by omega) (by decide)
    have c12 : (12 + p).toInt = 12 + p.toInt := by rw [iadd_toInt] <;> omega
    have cn : (12 + p).toInt.toNat = 12 + p.toInt.toNat := by omega
    obtain ⟨y, hy, et⟩ := m_tells (t := t) (k := x) (c := 12 + p) hx (by omega) (by omega) (by omega)
    rw [hF.1 1 (by decide) (by decide) (by decide), cn] at et
    rw [et, bd2_so, nm_eq, nm_eq]
    refine hrec (n2 - (p + 1).toInt.toNat) (y, p + 1, _) (by omega) ⟨rfl, by dsimp only; omega, by dsimp only; omega, by dsimp only; omega, ⟨fun k k0 k1 k2 => ?_, hF.2⟩, fun q hq => ?_, fun q hq => ?_⟩
    · dsimp only
      rw [gsI_row k2, gsI_row k2]
      exact hF.1 k k0 k1 k2
    · dsimp only
      rw [gsI_row (show 27 ≠ 28 by decide), gsI_row (show 27 ≠ 28 by decide), gsI_at, gsI_at, gsI_at, gsI_at, if_neg (show ¬ q = 38 + (12 + p.toInt.toNat) by omega), if_neg (show ¬ q = 12 + p.toInt.toNat by omega), if_neg (show ¬ 38 + q = 38 + (12 + p.toInt.toNat) by omega), if_neg (show ¬ 38 + q = 12 + p.toInt.toNat by omega)]
      exact hA q hq
    · dsimp only at hq ⊢
      rw [gsI_at, gsI_at, gsI_at, gsI_at]
      by_cases z : q = p.toInt.toNat
      · subst z
        rw [if_neg (show ¬ 12 + p.toInt.toNat = 38 + (12 + p.toInt.toNat) by omega), if_pos rfl, if_pos rfl]
        exact ⟨rfl, rfl⟩
      · rw [if_neg (show ¬ 12 + q = 38 + (12 + p.toInt.toNat) by omega), if_neg (show ¬ 12 + q = 12 + p.toInt.toNat by omega), if_neg (show ¬ 38 + (12 + q) = 38 + (12 + p.toInt.toNat) by omega), if_neg (show ¬ 38 + (12 + q) = 12 + p.toInt.toNat by omega)]
        exact hB q (by omega)
  have hk' := Int32.le_iff_toInt_le.mp hk
  have en : p.toInt.toNat = n2 := by omega
  rw [en] at hx hB
  clear hrec hm
  -- drifts
  refine ok_lpc (I := fun (m : Nat) (u : Int32 × Int32 × gS) => m = n0 - u.2.1.toInt.toNat ∧ 0 ≤ u.2.1.toInt ∧ u.2.1.toInt ≤ n0 ∧ u.1.toInt = ((1 + 9 * n1 + 8 * n2 + 8 * u.2.1.toInt.toNat : Nat) : Int) ∧ OF s u.2.2 ∧ OA (s.1 1) n1 u.2.2 ∧ OB (s.1 1) 12 (1 + 9 * n1) n2 u.2.2 ∧ OB (s.1 1) 32 (1 + 9 * n1 + 8 * n2) u.2.1.toInt.toNat u.2.2) (fun rec m u hs hrec => ?_) K9 n0 (x, 0, t) ⟨by dsimp only; omega, by dsimp only; omega, by dsimp only; omega, by dsimp only; omega, hF, hA, hB, fun q hq => absurd hq (by dsimp only; omega)⟩ (by unfold K9; omega)
  clear hx hF hA hB hk hk' p0 p1 en
  obtain ⟨x, p, t⟩ := u
  obtain ⟨hm, p0, p1, hx, hF, hA, hB, hD⟩ := hs
  dsimp only at hm p0 p1 hx hF hA hB hD ⊢
  unfold bX10_on_97
  rw [q_gd (by decide), nm_eq, show t.1 15 ((6 : Int32).toNatClampNeg) = s.1 15 6 by rw [hF.1 15 (by decide) (by decide) (by decide)]; rfl]
  refine ok_ite.mpr ⟨fun hk => ok_nm.mpr ?_, fun hk => ?_⟩
  rotate_left
  · have hlt := q_gt hk
    have ei := i_inc (a := p) (c := 60) (by omega) (by omega) (by decide)
    have c12 : (32 + p).toInt = 32 + p.toInt := by rw [iadd_toInt] <;> omega
    have cn : (32 + p).toInt.toNat = 32 + p.toInt.toNat := by omega
    obtain ⟨y, hy, et⟩ := m_tells (t := t) (k := x) (c := 32 + p) hx (by omega) (by omega) (by omega)
    rw [hF.1 1 (by decide) (by decide) (by decide), cn] at et
    rw [et, bd2_so, nm_eq, nm_eq]
    refine hrec (n0 - (p + 1).toInt.toNat) (y, p + 1, _) (by omega) ⟨rfl, by dsimp only; omega, by dsimp only; omega, by dsimp only; omega, ⟨fun k k0 k1 k2 => ?_, hF.2⟩, fun q hq => ?_, fun q hq => ?_, fun q hq => ?_⟩
    · dsimp only
      rw [gsI_row k2, gsI_row k2]
      exact hF.1 k k0 k1 k2
    · dsimp only
      rw [gsI_row (show 27 ≠ 28 by decide), gsI_row (show 27 ≠ 28 by decide), gsI_at, gsI_at, gsI_at, gsI_at, if_neg (show ¬ q = 38 + (32 + p.toInt.toNat) by omega), if_neg (show ¬ q = 32 + p.toInt.toNat by omega), if_neg (show ¬ 38 + q = 38 + (32 + p.toInt.toNat) by omega), if_neg (show ¬ 38 + q = 32 + p.toInt.toNat by omega)]
      exact hA q hq
    · dsimp only
      rw [gsI_at, gsI_at, gsI_at, gsI_at, if_neg (show ¬ 12 + q = 38 + (32 + p.toInt.toNat) by omega), if_neg (show ¬ 12 + q = 32 + p.toInt.toNat by omega), if_neg (show ¬ 38 + (12 + q) = 38 + (32 + p.toInt.toNat) by omega), if_neg (show ¬ 38 + (12 + q) = 32 + p.toInt.toNat by omega)]
      exact hB q hq
    · dsimp only at hq ⊢
      rw [gsI_at, gsI_at, gsI_at, gsI_at]
      by_cases z : q = p.toInt.toNat
      · subst z
        rw [if_neg (show ¬ 32 + p.toInt.toNat = 38 + (32 + p.toInt.toNat) by omega), if_pos rfl, if_pos rfl]
        exact ⟨rfl, rfl⟩
      · rw [if_neg (show ¬ 32 + q = 38 + (32 + p.toInt.toNat) by omega), if_neg (show ¬ 32 + q = 32 + p.toInt.toNat by omega), if_neg (show ¬ 38 + (32 + q) = 38 + (32 + p.toInt.toNat) by omega), if_neg (show ¬ 38 + (32 + q) = 32 + p.toInt.toNat by omega)]
        exact hD q (by omega)
  have hk' := Int32.le_iff_toInt_le.mp hk
  have en : p.toInt.toNat = n0 := by omega
  rw [en] at hx hD
  clear hrec hm
  -- rows
  refine ok_lpc (I := fun (m : Nat) (u : Int32 × gS) => m = n3 - u.1.toInt.toNat ∧ 0 ≤ u.1.toInt ∧ u.1.toInt ≤ n3 ∧ OF s u.2 ∧ OA (s.1 1) n1 u.2 ∧ OB (s.1 1) 12 (1 + 9 * n1) n2 u.2 ∧ OB (s.1 1) 32 (1 + 9 * n1 + 8 * n2) n0 u.2 ∧ OR (s.1 1) (1 + 9 * n1 + 8 * n2 + 8 * n0) u.1.toInt.toNat u.2) (fun rec m u hs hrec => ?_) K9 n3 (0, t) ⟨by dsimp only; omega, by dsimp only; omega, by dsimp only; omega, hF, hA, hB, hD, fun q hq => absurd hq (by dsimp only; omega)⟩ (by unfold K9; omega)
  clear hF hA hB hD hk hk' p0 p1 en
  obtain ⟨r, t⟩ := u
  obtain ⟨hm, r0, r1, hF, hA, hB, hD, hR⟩ := hs
  dsimp only at hm r0 r1 hF hA hB hD hR ⊢
  unfold bX10_on_126
  rw [q_bd (m_rows t), hF.1 15 (by decide) (by decide) (by decide)]
  refine ok_ite.mpr ⟨fun hk => ok_some.mpr ⟨hF, hA, hB, hD, ?_⟩, fun hk => ?_⟩
  · have hk' := Int32.le_iff_toInt_le.mp hk
    have en : r.toInt.toNat = n3 := by omega
    rw [en] at hR
    exact hR
  have hlt := q_gt hk
  have ei := i_inc (a := r) (c := 60) (by omega) (by omega) (by decide)
  have gr := gb_of (i := r) (n := 60) r0 (by omega)
  have xr : (x + r).toInt = x.toInt + r.toInt := by rw [iadd_toInt] <;> omega
  have nx : (x + r).toNatClampNeg = 1 + 9 * n1 + 8 * n2 + 8 * n0 + r.toInt.toNat := by rw [n_toInt]; omega
  have go : ∀ v : Int32, v = (if s.1 1 (1 + 9 * n1 + 8 * n2 + 8 * n0 + r.toInt.toNat) = 1 then 1 else 0) → Ok (rec (r + 1, gsI t 26 r.toInt.toNat v)) (fun o => OF s o.2 ∧ OA (s.1 1) n1 o.2 ∧ OB (s.1 1) 12 (1 + 9 * n1) n2 o.2 ∧ OB (s.1 1) 32 (1 + 9 * n1 + 8 * n2) n0 o.2 ∧ OR (s.1 1) (1 + 9 * n1 + 8 * n2 + 8 * n0) n3 o.2) := fun v hv => by
    refine hrec (n3 - (r + 1).toInt.toNat) _ (by omega) ⟨rfl, by dsimp only; omega, by dsimp only; omega, ⟨fun k k0 k1 k2 => ?_, hF.2⟩, fun q hq => ?_, fun q hq => ?_, fun q hq => ?_, fun q hq => ?_⟩
    · dsimp only
      rw [gsI_row k0]
      exact hF.1 k k0 k1 k2
    · dsimp only
      rw [gsI_row (show 27 ≠ 26 by decide), gsI_row (show 28 ≠ 26 by decide)]
      exact hA q hq
    · dsimp only
      rw [gsI_row (show 28 ≠ 26 by decide)]
      exact hB q hq
    · dsimp only
      rw [gsI_row (show 28 ≠ 26 by decide)]
      exact hD q hq
    · dsimp only at hq ⊢
      rw [gsI_at]
      by_cases z : q = r.toInt.toNat
      · rw [if_pos z, hv, z]
      · rw [if_neg z]
        exact hR q (by omega)
  rw [q_gd (gb_of (by omega) (by omega)), nm_eq, nx, hF.1 1 (by decide) (by decide) (by decide)]
  by_cases z : s.1 1 (1 + 9 * n1 + 8 * n2 + 8 * n0 + r.toInt.toNat) = 1
  · rw [if_pos z, q_gd gr, nm_eq, nm_eq, nb1]
    exact go 1 (by rw [if_pos z])
  · rw [if_neg z, q_gd gr, nm_eq, nm_eq, nb0]
    exact go 0 (by rw [if_neg z])
end P12ZO
