/-! WHOLE, 9: the equations filled: centres; all modulo the prime; solved -/
section P12ZZP
set_option maxHeartbeats 4000000 in
theorem pics_9 {σ s τ t υ0 u0 υ u : gS} (h : BS9 σ s τ t) {n : Nat} (hn : n = nU9 (ub9 s) 38) {ax : Int32} (x0 : 0 ≤ ax.toInt) (x1 : ax.toInt ≤ 1) (hυ : υ.1 = τ.1) (hu : u.1 = t.1) (hF : FR9 n ax.toInt.toNat 18000000000000 υ u) : ∃ v : gS × gS, (v.1.1 = τ.1 ∧ v.2.1 = t.1 ∧ FR9 n ax.toInt.toNat 30000000000000 v.1 v.2) ∧ lpc (S := Int32 × gS) K9 (fun rec u => bX4_fill_158 υ0 ax (fun a2 σ1 => rec (a2, σ1)) u.1 u.2) (0, υ) = lpc (S := Int32 × gS) K9 (fun rec u => bX4_fill_227 v.1 (fun a2 σ1 => rec (a2, σ1)) u.1 u.2) (0, v.1) ∧ lpc (S := Int32 × gS) K9 (fun rec w => bX10_equations_322 u0 (fun a1 σ1 => rec (a1, σ1)) w.1 w.2) (0, u) = some v.2 := by
  have z0' := z0
  have l32 : (32 : Int32).toInt = 32 := by decide
  have l24 : (24 : Int32).toInt = 24 := by decide
  have l25 : (25 : Int32).toInt = 25 := by decide
  obtain ⟨hG, hC, hM⟩ := h
  have w9 := wf_gt hG
  obtain ⟨⟨b9, b8, b7, b6⟩, wr, wp⟩ := wf_gt hG
  have T := hG.2.2.1
  have hJ := hG.2.1
  have n38 : n ≤ 38 := by rw [hn]; exact nU9_le _ 38
  refine lpc_ex2 (F := fun v : gS × gS => lpc (S := Int32 × gS) K9 (fun rec u => bX4_fill_227 v.1 (fun a2 σ1 => rec (a2, σ1)) u.1 u.2) (0, v.1)) (G := fun v : gS × gS => some v.2) (I := fun (m : Nat) (x y : Int32 × gS) => m = ((s.1 15 7).toInt - x.1.toInt).toNat ∧ 0 ≤ x.1.toInt ∧ x.1.toInt ≤ (s.1 15 7).toInt ∧ x.1 = y.1 ∧ x.2.1 = τ.1 ∧ y.2.1 = t.1 ∧ FR9 n ax.toInt.toNat (18000000000000 + 300000000000 * x.1.toInt) x.2 y.2) (fun f g m x y hs => ?_) K9 K9 (s.1 15 7).toInt.toNat (0, υ) (0, u) ⟨by dsimp only; omega, by dsimp only; omega, by dsimp only; omega, rfl, hυ, hu, by dsimp only; rw [z0']; exact hF⟩ (by unfold K9; omega) (by unfold K9; omega)
  obtain ⟨a, υ⟩ := x
  obtain ⟨a', u⟩ := y
  obtain ⟨hm, a0, a1, ha, g1, g2, hF⟩ := hs
  dsimp only at hm a0 a1 ha g1 g2 hF ⊢
  subst ha
  have cC : ∀ k, k ≠ 96 → k ≠ 97 → υ.1 k = σ.1 k := fun k k1 k2 => by rw [g1]; exact hC.1 k k1 k2
  have cM : ∀ v : gS, v.1 = t.1 → ∀ k, k ≠ 0 → k ≠ 30 → v.1 k = s.1 k := fun v hv k k1 k2 => by rw [hv]; exact hM.2.1 k k1 k2
  have e3 : υ.1 3 ((1 : Int32).toNatClampNeg) = s.1 15 7 := by rw [cC 3 (by decide) (by decide)]; exact T.1 1 (by decide)
  have e15 := cM u g2 15 (by decide) (by decide)
  obtain ⟨X, Y, f1, f2, f3⟩ := hF
  by_cases c : s.1 15 7 ≤ a
  · have c' := Int32.le_iff_toInt_le.mp c
    have EC : bX4_fill_158 υ0 ax (fun a2 σ1 => f (a2, σ1)) a υ = lpc (S := Int32 × gS) K9 (fun rec u => bX4_fill_227 υ (fun a2 σ1 => rec (a2, σ1)) u.1 u.2) (0, υ) := by
      unfold bX4_fill_158
      rw [q_gd (by decide), nm_eq, e3, if_pos c, nm_eq]
    have EM : bX10_equations_322 u0 (fun a1 σ1 => g (a1, σ1)) a u = some u := by
      unfold bX10_equations_322
      rw [q_bd (m_pictures u), e15, if_pos c]
    exact .inl ⟨(υ, u), ⟨g1, g2, X, Y, f1, KR9_up f2 (by omega), f3⟩, EC, EM⟩
  · have c' := q_gt c
    have ei := i_inc (a := a) (c := 60) (by omega) (by omega) (by decide)
    have Q := T.2.2.1 a.toInt.toNat (by omega)
    have W := wp a.toInt.toNat (by omega)
    have ga := gb_of (i := a) (n := 12) a0 (by omega)
    have e20 : υ.1 20 a.toNatClampNeg = s.1 18 (12 + a.toInt.toNat) := by rw [cC 20 (by decide) (by decide)]; exact Q.2.2.1
    have f18 : ∀ v : gS, v.1 = t.1 → fX10_centreOf v a = some (s.1 18 (12 + a.toInt.toNat)) := fun v hv => by rw [m_centreOf v a0 (by omega), cM v hv 18 (by decide) (by decide)]
    by_cases y : s.1 18 (12 + a.toInt.toNat) = 0
    · have EC : bX4_fill_158 υ0 ax (fun a2 σ1 => f (a2, σ1)) a υ = f (a + 1, υ) := by
        unfold bX4_fill_158
        rw [q_gd (by decide), nm_eq, e3, if_neg c, q_gd ga, nm_eq, e20, if_pos y, nm_eq]
      have EM : bX10_equations_322 u0 (fun a1 σ1 => g (a1, σ1)) a u = g (a + 1, u) := by
        unfold bX10_equations_322
        rw [q_bd (m_pictures u), e15, if_neg c, q_bd (f18 u g2), if_pos y, nm_eq]
      exact .inr ⟨_, _, EC, EM, ((s.1 15 7).toInt - (a + 1).toInt).toNat, by omega, rfl, by dsimp only; omega, by dsimp only; omega, rfl, g1, g2, ⟨X, Y, f1, KR9_up f2 (by dsimp only; omega), f3⟩⟩
    · obtain ⟨q22, q23⟩ := Q.2.2.2.2.2.2 y
      obtain ⟨wt, hwt⟩ : ∃ wt, wt = s.1 18 (12 + a.toInt.toNat) := ⟨_, rfl⟩
      obtain ⟨S, hS⟩ : ∃ S, S = s.1 16 (12 + a.toInt.toNat) := ⟨_, rfl⟩
      obtain ⟨C0, hC0⟩ : ∃ x, x = s.1 19 (24 + 2 * a.toInt.toNat) := ⟨_, rfl⟩
      obtain ⟨C1, hC1⟩ : ∃ x, x = s.1 19 (24 + (2 * a.toInt.toNat + 1)) := ⟨_, rfl⟩
      have e8 : υ.1 8 a.toNatClampNeg = s.1 16 (12 + a.toInt.toNat) := by rw [cC 8 (by decide) (by decide)]; exact Q.1
      rw [← hS] at W e8
      rw [← hwt] at W e20 f18
      rw [← hC0] at q22
      rw [← hC1] at q23
      have yw : ¬ wt = 0 := by rw [hwt]; exact y
      have wpos : wt.toInt ≠ 0 := fun z => yw (Int32.toInt_inj.mp (by omega))
      have hm0 : (-100 * C0).toInt = (-(100 * C0)).toInt := by rw [Int32.neg_mul]
      have hm1 : (-100 * C1).toInt = (-(100 * C1)).toInt := by rw [Int32.neg_mul]
      have e32 : (32 + S).toInt = 32 + S.toInt := by rw [iadd_toInt] <;> omega
      have n32 : (32 + S).toInt.toNat = 32 + S.toInt.toNat := by omega
      have cp : ub9 s a.toInt.toNat = true := by
        rw [ub9_t, UT9_iff w9 (by omega)]
        exact .inr ⟨a.toInt.toNat, by omega, y, .inl rfl⟩
      have cd : ub9 s (32 + S.toInt.toNat) = true := by
        rw [ub9_t, UT9_iff w9 (by omega)]
        exact .inr ⟨a.toInt.toNat, by omega, y, .inr (by rw [hS])⟩
      have ltp := nU9_lt cp (show a.toInt.toNat < 38 by omega)
      have ltd := nU9_lt cd (show 32 + S.toInt.toNat < 38 by omega)
      have hLp := (hC.2.2.2 a.toInt.toNat (by omega)).1 cp
      have hLd := (hC.2.2.2 (32 + S.toInt.toNat) (by omega)).1 cd
      have nn : (υ.1 96 4).toInt = n := by rw [g1, hC.2.2.1, hn]
      have hNM : NM9 s u (ub9 s) := ⟨by unfold JM; rw [g2]; exact hM.1, cM u g2, fun i hi => by rw [g2]; exact hM.2.2.1 i hi, by rw [g2]; exact hM.2.2.2.1, fun k hk ck => by rw [g2]; exact hM.2.2.2.2 k hk ck⟩
      have np := (num9 hNM (K := a) (by omega) (by omega)).1 cp
      have nd := (num9 hNM (K := 32 + S) (by omega) (by omega)).1 (by rw [n32]; exact cd)
      rw [n32] at nd
      obtain ⟨NP, hNP⟩ : ∃ x, x = nU9 (ub9 s) a.toInt.toNat := ⟨_, rfl⟩
      obtain ⟨ND, hND⟩ : ∃ x, x = nU9 (ub9 s) (32 + S.toInt.toNat) := ⟨_, rfl⟩
      rw [← hNP] at ltp hLp np
      rw [← hND] at ltd hLd nd
      have eNP : (Int32.ofNat NP).toInt = NP := iofNat_toInt (by omega)
      have eNPn : (Int32.ofNat NP).toInt.toNat = NP := by omega
      have eND : (Int32.ofNat ND).toInt = ND := iofNat_toInt (by omega)
      have eNDn : (Int32.ofNat ND).toInt.toNat = ND := by omega
      obtain ⟨CA, hCA, hx2⟩ : ∃ CA : Int32, υ.1 (22 + ax.toNatClampNeg) a.toNatClampNeg = CA ∧ ((ax.toInt.toNat = 0 ∧ CA = C0) ∨ (ax.toInt.toNat = 1 ∧ CA = C1)) := by
        rcases ax_2 x0 x1 with rfl | rfl
        · refine ⟨C0, ?_, .inl ⟨by decide, rfl⟩⟩
          have : υ.1 (22 + (0 : Int32).toNatClampNeg) = σ.1 22 := cC 22 (by decide) (by decide)
          rw [this]
          exact q22
        · refine ⟨C1, ?_, .inr ⟨by decide, rfl⟩⟩
          have : υ.1 (22 + (1 : Int32).toNatClampNeg) = σ.1 23 := cC 23 (by decide) (by decide)
          rw [this]
          exact q23
      have hx3 : (ax.toInt.toNat = 0 ∧ (100 * CA).toInt = (100 * C0).toInt ∧ (-(100 * CA)).toInt = (-(100 * C0)).toInt) ∨ (ax.toInt.toNat = 1 ∧ (100 * CA).toInt = (100 * C1).toInt ∧ (-(100 * CA)).toInt = (-(100 * C1)).toInt) := by
        rcases hx2 with ⟨e, rfl⟩ | ⟨e, rfl⟩
        · exact .inl ⟨e, rfl, rfl⟩
        · exact .inr ⟨e, rfl, rfl⟩
      obtain ⟨υ2, ⟨k1, k2⟩, k3⟩ := k_term9 f2 n38 nn (p := a) (q := 32 + S) (w := wt) (x := 100 * CA) (L := NP) (M := ND) (by omega) (by omega) (by omega) (by omega) (by rw [g1]; exact hLp) (by omega) (by rw [g1, n32]; exact hLd) (by omega) rfl (by omega) (by omega) rfl rfl (by omega)
      obtain ⟨u2, ⟨m1, m2⟩, m3⟩ := m_tieB f1 (p := Int32.ofNat NP) (q := Int32.ofNat ND) (w := wt) (x := 100 * C0) (y := 100 * C1) (by omega) (by omega) (by omega) (by omega) rfl (by omega) (by omega) rfl rfl
      obtain ⟨u3, ⟨o1, o2⟩, o3⟩ := m_tieB m2 (p := Int32.ofNat ND) (q := Int32.ofNat NP) (w := wt) (x := -100 * C0) (y := -100 * C1) (by omega) (by omega) (by omega) (by omega) rfl (by omega) (by omega) hm0 hm1
      rw [eNPn, eNDn] at m2 o2
      have ed : fX4_driftOf υ a = some (32 + S) := by
        unfold fX4_driftOf
        rw [q_gd ga, nm_eq, e8]
      have gx := gb_of (i := ax) (n := 2) x0 (by omega)
      have EC : bX4_fill_158 υ0 ax (fun a2 σ1 => f (a2, σ1)) a υ = f (a + 1, υ2) := by
        unfold bX4_fill_158
        rw [q_gd (by decide), nm_eq, e3, if_neg c, q_gd ga, nm_eq, e20, if_neg yw, q_bd ed, q_gd ga, nm_eq, q_gd gx, q_gd ga, nm_eq, hCA, q_bd k3, nm_eq]
      have fs : fX10_strip u a = some S := by rw [m_strip u a0 (by omega), cM u g2 16 (by decide) (by decide), hS]
      have y24 : (24 + 2 * a).toInt = 24 + 2 * a.toInt := by
        have m2 : (2 * a).toInt = 2 * a.toInt := imulc (by decide) (by omega) (by omega)
        rw [iadd_toInt] <;> omega
      have y25 : (25 + 2 * a).toInt = 25 + 2 * a.toInt := by
        have m2 : (2 * a).toInt = 2 * a.toInt := imulc (by decide) (by omega) (by omega)
        rw [iadd_toInt] <;> omega
      have n24 : (24 + 2 * a).toNatClampNeg = 24 + 2 * a.toInt.toNat := by rw [n_toInt]; omega
      have n25 : (25 + 2 * a).toNatClampNeg = 24 + (2 * a.toInt.toNat + 1) := by rw [n_toInt]; omega
      have g24 := gb_of (i := 24 + 2 * a) (n := 48) (by omega) (by omega)
      have g25 := gb_of (i := 25 + 2 * a) (n := 48) (by omega) (by omega)
      have r24 : ∀ v : gS, v.1 = t.1 → v.1 19 (24 + 2 * a).toNatClampNeg = C0 := fun v hv => by rw [n24, cM v hv 19 (by decide) (by decide), hC0]
      have r25 : ∀ v : gS, v.1 = t.1 → v.1 19 (25 + 2 * a).toNatClampNeg = C1 := fun v hv => by rw [n25, cM v hv 19 (by decide) (by decide), hC1]
      have q2 := m1.trans g2
      have EM : bX10_equations_322 u0 (fun a1 σ1 => g (a1, σ1)) a u = g (a + 1, u3) := by
        unfold bX10_equations_322
        rw [q_bd (m_pictures u), e15, if_neg c, q_bd (f18 u g2), if_neg yw, q_bd np, nm_eq, q_bd fs, q_bd nd, nm_eq, q_bd (f18 u g2), q_gd g24, nm_eq, q_gd g25, nm_eq, r24 u g2, r25 u g2, q_bd m3, q_bd (f18 u2 q2), q_gd g24, nm_eq, q_gd g25, nm_eq, r24 u2 q2, r25 u2 q2, q_bd o3, nm_eq]
      refine .inr ⟨_, _, EC, EM, ((s.1 15 7).toInt - (a + 1).toInt).toNat, by omega, rfl, by dsimp only; omega, by dsimp only; omega, rfl, k1.trans g1, o1.trans q2, ⟨_, _, o2, KR9_up k2 (by dsimp only; omega), fun i j hi hj => ?_⟩⟩
      rw [f3 i j hi hj, S9_T n38 (by omega) (by omega) hj hx3]
      omega
/-- the class's rows modulo the prime at last -/
theorem k_mod9 {υ0 υ : gS} {n : Nat} {Y : Nat → Nat → Int} (hn : (υ.1 96 4).toInt = n) (n38 : n ≤ 38) (h : KR9 n 30000000000000 υ Y) : ∃ τ : gS, (τ.1 = υ.1 ∧ ∀ i j : Nat, i < n → j ≤ n → (kC9 τ i j).toInt = Y i j % 1000003) ∧ lpc (S := Int32 × gS) K9 (fun rec u => bX4_fill_227 υ0 (fun a2 σ1 => rec (a2, σ1)) u.1 u.2) (0, υ) = some τ := by
  have z0' := z0
  refine lpc_ex (F := some) (I := fun (m : Nat) (u : Int32 × gS) => m = (n - u.1.toInt).toNat ∧ 0 ≤ u.1.toInt ∧ u.1.toInt ≤ n ∧ u.2.1 = υ.1 ∧ ∀ i j : Nat, i < n → j ≤ n → ((i : Int) < u.1.toInt → (kC9 u.2 i j).toInt = Y i j % 1000003) ∧ (u.1.toInt ≤ i → (kC9 u.2 i j).toInt = Y i j)) (fun rec m u hs => ?_) K9 n (0, υ) ⟨by dsimp only; omega, by dsimp only; omega, by dsimp only; omega, rfl, fun i j hi hj => ⟨fun z => absurd z (by dsimp only; omega), fun _ => (h i j hi hj).1⟩⟩ (by unfold K9; omega)
  obtain ⟨k, ρ⟩ := u
  obtain ⟨hm, k0, k1, h1, h2⟩ := hs
  dsimp only at hm k0 k1 h1 h2 ⊢
  unfold bX4_fill_227
  rw [h1]
  by_cases c : υ.1 96 4 ≤ k
  · have c' := Int32.le_iff_toInt_le.mp c
    rw [if_pos c]
    exact .inl ⟨ρ, ⟨h1, fun i j hi hj => (h2 i j hi hj).1 (by omega)⟩, rfl⟩
  · have c' := q_gt c
    have e1 := i_inc (a := k) (c := 60) (by omega) (by omega) (by decide)
    rw [if_neg c, nm_eq]
    obtain ⟨μ, ⟨m1, m2⟩, m3⟩ : ∃ μ : gS, (μ.1 = υ.1 ∧ ∀ i j : Nat, i < n → j ≤ n → ((i : Int) < (k + 1).toInt → (kC9 μ i j).toInt = Y i j % 1000003) ∧ ((k + 1).toInt ≤ i → (kC9 μ i j).toInt = Y i j)) ∧ lpc (S := Int32 × gS) K9 (fun rec1 u => bX4_fill_237 ρ k (fun a2 σ1 => rec (a2, σ1)) (fun a3 σ1 => rec1 (a3, σ1)) u.1 u.2) (0, ρ) = rec (k + 1, μ) := by
      refine lpc_ex (F := fun μ => rec (k + 1, μ)) (I := fun (m : Nat) (u : Int32 × gS) => m = (n + 1 - u.1.toInt).toNat ∧ 0 ≤ u.1.toInt ∧ u.1.toInt ≤ n + 1 ∧ u.2.1 = υ.1 ∧ ∀ i j : Nat, i < n → j ≤ n → (((i : Int) < k.toInt ∨ (i = k.toInt.toNat ∧ (j : Int) < u.1.toInt)) → (kC9 u.2 i j).toInt = Y i j % 1000003) ∧ (¬ ((i : Int) < k.toInt ∨ (i = k.toInt.toNat ∧ (j : Int) < u.1.toInt)) → (kC9 u.2 i j).toInt = Y i j)) (fun rec1 m u hs => ?_) K9 (n + 1) (0, ρ) ⟨by dsimp only; omega, by dsimp only; omega, by dsimp only; omega, h1, fun i j hi hj => ⟨fun z => (h2 i j hi hj).1 (by dsimp only at z; omega), fun z => (h2 i j hi hj).2 (by dsimp only at z; omega)⟩⟩ (by unfold K9; omega)
      obtain ⟨b, ω⟩ := u
      obtain ⟨hm2, b0, b1, g1, g2⟩ := hs
      dsimp only at hm2 b0 b1 g1 g2 ⊢
      unfold bX4_fill_237
      rw [g1]
      by_cases d : υ.1 96 4 < b
      · have d' := Int32.lt_iff_toInt_lt.mp d
        rw [if_pos d, nm_eq]
        exact .inl ⟨ω, ⟨g1, fun i j hi hj => ⟨fun z => (g2 i j hi hj).1 (by omega), fun z => (g2 i j hi hj).2 (by omega)⟩⟩, rfl⟩
      · have d' : ¬ (υ.1 96 4).toInt < b.toInt := fun z => d (Int32.lt_iff_toInt_lt.mpr z)
        have e2 := i_inc (a := b) (c := 60) (by omega) (by omega) (by decide)
        have gk := gb_of (i := k) (n := 38) k0 (by omega)
        have g9 := gb_of (i := b) (n := 39) b0 (by omega)
        have v1 := (g2 k.toInt.toNat b.toInt.toNat (by omega) (by omega)).2 (by omega)
        have v1' : (ω.2 (99 + k.toInt.toNat) b.toInt.toNat).toInt = Y k.toInt.toNat b.toInt.toNat := v1
        have vb := h k.toInt.toNat b.toInt.toNat (by omega) (by omega)
        obtain ⟨y, hy, y1⟩ := k_mod ω (x := ω.2 (99 + k.toInt.toNat) b.toInt.toNat) (by omega) (by omega)
        rw [if_neg d, q_gd gk, q_gd gk, q_gd g9, nm_eq, n_toInt, n_toInt, q_bd hy, q_gd g9, nm_eq, nm_eq]
        refine .inr ⟨_, rfl, (n + 1 - (b + 1).toInt).toNat, by omega, rfl, by dsimp only; omega, by dsimp only; omega, g1, fun i j hi hj => ?_⟩
        dsimp only
        rw [kC9_w]
        by_cases z : i = k.toInt.toNat ∧ j = b.toInt.toNat
        · rw [if_pos z, y1, v1', z.1, z.2]
          exact ⟨fun _ => rfl, fun w => absurd (show (k.toInt.toNat : Int) < k.toInt ∨ (k.toInt.toNat = k.toInt.toNat ∧ (b.toInt.toNat : Int) < (b + 1).toInt) from .inr ⟨rfl, by omega⟩) w⟩
        · rw [if_neg z]
          exact ⟨fun w => (g2 i j hi hj).1 (by omega), fun w => (g2 i j hi hj).2 (by omega)⟩
    rw [m3]
    exact .inr ⟨_, rfl, (n - (k + 1).toInt).toNat, by omega, rfl, by dsimp only; omega, by dsimp only; omega, m1, m2⟩
end P12ZZP
