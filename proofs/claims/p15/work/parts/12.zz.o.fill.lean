/-! WHOLE, 8: the equations filled, on both sides: rows -/
section P12ZZO
theorem zC_L : ∀ A : Nat, A < 38 → gis zC.1 1 2 (99 + A) = true ∧ gsz zC.1 1 2 (99 + A) = 39 := by decide +kernel
theorem k_fillL9 {σ : gS} {A : Nat} (hA : A < 38) : ∃ τ : gS, (τ.1 = σ.1 ∧ (∀ i j : Nat, i ≠ A → kC9 τ i j = kC9 σ i j) ∧ ∀ j : Nat, j < 39 → kC9 τ A j = 0) ∧ fJ7_fill_d0a16 σ (99 + A) 0 = some τ := by
  have z0' := z0
  obtain ⟨gi, gz⟩ := zC_L A hA
  have l39 : (Int32.ofNat 39).toInt = 39 := by decide
  unfold fJ7_fill_d0a16
  rw [nm_eq, q_gd gi, nm_eq, gz]
  refine lpc_ex (F := some) (I := fun (n : Nat) (u : Int32 × gS) => n = (39 - u.1.toInt).toNat ∧ 0 ≤ u.1.toInt ∧ u.1.toInt ≤ 39 ∧ u.2.1 = σ.1 ∧ (∀ i j : Nat, i ≠ A → kC9 u.2 i j = kC9 σ i j) ∧ ∀ j : Nat, (j : Int) < u.1.toInt → kC9 u.2 A j = 0) (fun rec n u hs => ?_) K9 39 (0, σ) ⟨by dsimp only; omega, by dsimp only; omega, by dsimp only; omega, rfl, fun _ _ _ => rfl, fun j hj => absurd hj (by dsimp only; omega)⟩ (by unfold K9; omega)
  obtain ⟨k, ρ⟩ := u
  obtain ⟨hn, k0, k1, h1, h2, h3⟩ := hs
  dsimp only at hn k0 k1 h1 h2 h3 ⊢
  unfold bJ7_fill_d0a16_6
  by_cases c : Int32.ofNat 39 ≤ k
  · have c' := Int32.le_iff_toInt_le.mp c
    rw [if_pos c]
    exact .inl ⟨ρ, ⟨h1, h2, fun j hj => h3 j (by omega)⟩, rfl⟩
  · have c' := q_gt c
    have e1 := i_inc (a := k) (c := 60) (by omega) (by omega) (by decide)
    rw [if_neg c, gz, q_gd (gb_of k0 (by omega)), nm_eq, nm_eq, n_toInt]
    refine .inr ⟨_, rfl, (39 - (k + 1).toInt).toNat, by omega, rfl, by dsimp only; omega, by dsimp only; omega, h1, fun i j hi => ?_, fun j hj => ?_⟩
    · dsimp only
      rw [kC9_w, if_neg (fun z => hi z.1)]
      exact h2 i j hi
    · dsimp only at hj ⊢
      rw [kC9_w]
      by_cases z : j = k.toInt.toNat
      · rw [if_pos ⟨rfl, z⟩]
      · rw [if_neg (fun y => z y.2)]
        exact h3 j (by omega)
theorem k_clear9 {σ0 σ : gS} {ax : Int32} {n : Nat} (hn : (σ.1 96 4).toInt = n) (n38 : n ≤ 38) : ∃ τ : gS, (τ.1 = σ.1 ∧ ∀ i j : Nat, i < n → j ≤ n → kC9 τ i j = 0) ∧ lpc (S := Int32 × gS) K9 (fun rec u => bX4_fill_2 σ0 ax (fun a2 σ1 => rec (a2, σ1)) u.1 u.2) (0, σ) = lpc (S := Int32 × gS) K9 (fun rec u => bX4_fill_28 τ ax (fun a2 σ1 => rec (a2, σ1)) u.1 u.2) (0, τ) := by
  have z0' := z0
  refine lpc_ex (F := fun τ => lpc (S := Int32 × gS) K9 (fun rec u => bX4_fill_28 τ ax (fun a2 σ1 => rec (a2, σ1)) u.1 u.2) (0, τ)) (I := fun (m : Nat) (u : Int32 × gS) => m = (n - u.1.toInt).toNat ∧ 0 ≤ u.1.toInt ∧ u.1.toInt ≤ n ∧ u.2.1 = σ.1 ∧ ∀ i j : Nat, (i : Int) < u.1.toInt → j ≤ n → kC9 u.2 i j = 0) (fun rec m u hs => ?_) K9 n (0, σ) ⟨by dsimp only; omega, by dsimp only; omega, by dsimp only; omega, rfl, fun i j hi => absurd hi (by dsimp only; omega)⟩ (by unfold K9; omega)
  obtain ⟨k, ρ⟩ := u
  obtain ⟨hm, k0, k1, h1, h2⟩ := hs
  dsimp only at hm k0 k1 h1 h2 ⊢
  unfold bX4_fill_2
  rw [h1]
  by_cases c : σ.1 96 4 ≤ k
  · have c' := Int32.le_iff_toInt_le.mp c
    rw [if_pos c, nm_eq]
    exact .inl ⟨ρ, ⟨h1, fun i j hi hj => h2 i j (by omega) hj⟩, rfl⟩
  · have c' := q_gt c
    have e1 := i_inc (a := k) (c := 60) (by omega) (by omega) (by decide)
    obtain ⟨τ, ⟨t1, t2, t3⟩, t4⟩ := k_fillL9 (σ := ρ) (A := k.toInt.toNat) (by omega)
    rw [if_neg c, q_gd (gb_of k0 (by omega)), n_toInt, q_bd t4, nm_eq]
    refine .inr ⟨_, rfl, (n - (k + 1).toInt).toNat, by omega, rfl, by dsimp only; omega, by dsimp only; omega, t1.trans h1, fun i j hi hj => ?_⟩
    dsimp only at hi ⊢
    by_cases z : i = k.toInt.toNat
    · rw [z]
      exact t3 j (by omega)
    · rw [t2 i j z]
      exact h2 i j (by omega) hj
/-- so far alike: the class's exact numbers, the reference's modulo the prime -/
def FR9 (n ax : Nat) (B : Int) (τ t : gS) : Prop := ∃ X Y : Nat → Nat → Int, MR9 t X ∧ KR9 n B τ Y ∧ ∀ i j : Nat, i < n → j ≤ n → Y i j = X i (cm9 n ax j)
theorem KR9_up {n : Nat} {B C : Int} {τ : gS} {Y : Nat → Nat → Int} (h : KR9 n B τ Y) (e : B ≤ C) : KR9 n C τ Y := fun i j hi hj => by
  have := h i j hi hj
  exact ⟨this.1, by omega, by omega⟩
theorem S9_T {n ax L M i j : Nat} {W A A' A0 A1 B0 B1 : Int} (hn : n ≤ 38) (hL : L < n) (hM : M < n) (hj : j ≤ n) (hx : (ax = 0 ∧ A = A0 ∧ A' = B0) ∨ (ax = 1 ∧ A = A1 ∧ A' = B1)) : S9 n L M W A A' i j = (T9 M W B0 B1 i (cm9 n ax j) + D9 M L (-W) i (cm9 n ax j)) + (T9 L W A0 A1 i (cm9 n ax j) + D9 L M (-W) i (cm9 n ax j)) := by
  unfold S9 T9
  rw [D9_n (ax := ax) hn hj (a := L), D9_n (ax := ax) hn hj (a := M), D9_k (ax := ax) hn hL (a := L), D9_k (ax := ax) hn hM (a := M), D9_k (ax := ax) hn hM (a := L), D9_k (ax := ax) hn hL (a := M)]
  rcases hx with ⟨rfl, rfl, rfl⟩ | ⟨rfl, rfl, rfl⟩
  · have o1 : ∀ (a : Nat) (v : Int), D9 a 39 v i (cm9 n 0 j) = 0 := fun a v => D9_o (ax := 0) (ay := 1) hn (by decide)
    rw [o1, o1, show 38 + 0 = 38 by rfl]
    omega
  · have o1 : ∀ (a : Nat) (v : Int), D9 a 38 v i (cm9 n 1 j) = 0 := fun a v => D9_o (ax := 1) (ay := 0) hn (by decide)
    rw [o1, o1, show 38 + 1 = 39 by rfl]
    omega
theorem H9_T {n ax L i j : Nat} {W A A0 A1 : Int} (hn : n ≤ 38) (hL : L < n) (hj : j ≤ n) (hx : (ax = 0 ∧ A = A0) ∨ (ax = 1 ∧ A = A1)) : D9 L L W i j + D9 L n (W * A) i j = T9 L W A0 A1 i (cm9 n ax j) := by
  unfold T9
  rw [D9_n (ax := ax) hn hj (a := L), D9_k (ax := ax) hn hL (a := L)]
  rcases hx with ⟨rfl, rfl⟩ | ⟨rfl, rfl⟩
  · have o1 : ∀ (a : Nat) (v : Int), D9 a 39 v i (cm9 n 0 j) = 0 := fun a v => D9_o (ax := 0) (ay := 1) hn (by decide)
    rw [o1, show 38 + 0 = 38 by rfl]
    omega
  · have o1 : ∀ (a : Nat) (v : Int), D9 a 38 v i (cm9 n 1 j) = 0 := fun a v => D9_o (ax := 1) (ay := 0) hn (by decide)
    rw [o1, show 38 + 1 = 39 by rfl]
    omega
/-- both sides ahead of the filling -/
def BS9 (σ s τ t : gS) : Prop := GT σ s ∧ NC9 σ τ (ub9 s) ∧ NM9 s t (ub9 s)
theorem bs_turned {σ s τ t υ u : gS} (h : BS9 σ s τ t) (hυ : υ.1 = τ.1) (hu : u.1 = t.1) {r a : Int32} (r0 : 0 ≤ r.toInt) (r1 : r.toInt < (s.1 15 9).toInt) (a0 : 0 ≤ a.toInt) (a1 : a.toInt ≤ 1) : fX5_turned_47 υ r a = some (tO s r.toInt.toNat a) ∧ fX10_turned u r a = some (tO s r.toInt.toNat a) := by
  obtain ⟨h, hC, hM⟩ := h
  have w := wf_gt h
  constructor
  · have e := (tu_2 ⟨h.2.1, h.2.2.1⟩ h.2.2.2 r0 r1 a0 a1).1
    rw [← e]
    have c : ∀ k, k ≠ 96 → k ≠ 97 → υ.1 k = σ.1 k := fun k k1 k2 => by rw [hυ]; exact hC.1 k k1 k2
    unfold fX5_turned_47 fX8_turnedBy_2 jX8_turnedBy_2_15
    rw [c 10 (by decide) (by decide), c 48 (by decide) (by decide), c 13 (by decide) (by decide), c 14 (by decide) (by decide)]
  · have c : ∀ k, k ≠ 0 → k ≠ 30 → u.1 k = s.1 k := fun k k1 k2 => by rw [hu]; exact hM.2.1 k k1 k2
    have wu : WF u := by
      unfold WF
      rw [c 15 (by decide) (by decide), c 22 (by decide) (by decide), c 23 (by decide) (by decide), c 25 (by decide) (by decide), c 16 (by decide) (by decide), c 18 (by decide) (by decide), c 27 (by decide) (by decide)]
      exact w
    rw [wf_turned wu r0 (by rw [c 15 (by decide) (by decide)]; exact r1) a0 a1]
    unfold tO pO
    rw [c 27 (by decide) (by decide), c 22 (by decide) (by decide), c 24 (by decide) (by decide)]
theorem m_weightOf9 (σ : gS) {r : Int32} (h0 : 0 ≤ r.toInt) (h1 : r.toInt ≤ 59) : fX10_weightOf σ r = some (σ.1 25 (60 + r.toInt.toNat)) := by
  have l60 : (60 : Int32).toInt = 60 := by decide
  have e : (60 + r).toNatClampNeg = 60 + r.toInt.toNat := n_add (k := 60) (by decide) h0 (by omega)
  have e2 : (60 + r).toInt = 60 + r.toInt := by rw [iadd_toInt] <;> omega
  unfold fX10_weightOf
  rw [q_gd (gb_of (by omega) (by omega)), nm_eq, e]
theorem free_no {s : gS} {q : Nat} (hq : q < 20) (h : ¬ freeM s q) : s.1 20 (20 + q) ≠ 0 := fun z => h (by
  have e : (Int32.ofNat q).toInt = q := iofNat_toInt (by omega)
  have l20 : (20 : Int32).toInt = 20 := by decide
  have e2 : (20 + Int32.ofNat q).toInt = 20 + q := by rw [iadd_toInt] <;> omega
  have n2 : (20 + Int32.ofNat q).toNatClampNeg = 20 + q := by rw [n_toInt]; omega
  unfold freeM fX10_isControl
  rw [q_gd (gb_of (by omega) (by omega)), nm_eq, nm_eq, n2, if_pos z])
set_option maxHeartbeats 4000000 in
theorem rows_9 {σ s τ t υ0 u0 υ u : gS} (h : BS9 σ s τ t) {n : Nat} (hn : n = nU9 (ub9 s) 38) {ax : Int32} (x0 : 0 ≤ ax.toInt) (x1 : ax.toInt ≤ 1) (hυ : υ.1 = τ.1) (hu : u.1 = t.1) (hF : FR9 n ax.toInt.toNat 0 υ u) : ∃ v : gS × gS, (v.1.1 = τ.1 ∧ v.2.1 = t.1 ∧ FR9 n ax.toInt.toNat 18000000000000 v.1 v.2) ∧ lpc (S := Int32 × gS) K9 (fun rec u => bX4_fill_28 υ0 ax (fun a2 σ1 => rec (a2, σ1)) u.1 u.2) (0, υ) = lpc (S := Int32 × gS) K9 (fun rec u => bX4_fill_158 v.1 ax (fun a2 σ1 => rec (a2, σ1)) u.1 u.2) (0, v.1) ∧ lpc (S := Int32 × gS) K9 (fun rec w => bX10_equations_156 u0 (fun a1 σ1 => rec (a1, σ1)) w.1 w.2) (0, u) = lpc (S := Int32 × gS) K9 (fun rec w => bX10_equations_322 v.2 (fun a1 σ1 => rec (a1, σ1)) w.1 w.2) (0, v.2) := by
  have z0' := z0
  have l12 : (12 : Int32).toInt = 12 := by decide
  have l40 : (40 : Int32).toInt = 40 := by decide
  have h' := h
  obtain ⟨hG, hC, hM⟩ := h
  have w9 := wf_gt hG
  obtain ⟨⟨b9, b8, b7, b6⟩, wr, wp⟩ := wf_gt hG
  have T := hG.2.2.1
  have G := hG.2.2.2
  have fx := fx_gt hG
  have n38 : n ≤ 38 := by rw [hn]; exact nU9_le _ 38
  refine lpc_ex2 (F := fun v : gS × gS => lpc (S := Int32 × gS) K9 (fun rec u => bX4_fill_158 v.1 ax (fun a2 σ1 => rec (a2, σ1)) u.1 u.2) (0, v.1)) (G := fun v : gS × gS => lpc (S := Int32 × gS) K9 (fun rec w => bX10_equations_322 v.2 (fun a1 σ1 => rec (a1, σ1)) w.1 w.2) (0, v.2)) (I := fun (m : Nat) (x y : Int32 × gS) => m = ((s.1 15 9).toInt - x.1.toInt).toNat ∧ 0 ≤ x.1.toInt ∧ x.1.toInt ≤ (s.1 15 9).toInt ∧ x.1 = y.1 ∧ x.2.1 = τ.1 ∧ y.2.1 = t.1 ∧ FR9 n ax.toInt.toNat (300000000000 * x.1.toInt) x.2 y.2) (fun f g m x y hs => ?_) K9 K9 (s.1 15 9).toInt.toNat (0, υ) (0, u) ⟨by dsimp only; omega, by dsimp only; omega, by dsimp only; omega, rfl, hυ, hu, by dsimp only; rw [z0']; exact hF⟩ (by unfold K9; omega) (by unfold K9; omega)
  obtain ⟨a, υ⟩ := x
  obtain ⟨a', u⟩ := y
  obtain ⟨hm, a0, a1, ha, g1, g2, hF⟩ := hs
  dsimp only at hm a0 a1 ha g1 g2 hF ⊢
  subst ha
  have cC : ∀ k, k ≠ 96 → k ≠ 97 → υ.1 k = σ.1 k := fun k k1 k2 => by rw [g1]; exact hC.1 k k1 k2
  have cM : ∀ k, k ≠ 0 → k ≠ 30 → u.1 k = s.1 k := fun k k1 k2 => by rw [g2]; exact hM.2.1 k k1 k2
  have e3 : υ.1 3 ((3 : Int32).toNatClampNeg) = s.1 15 9 := by rw [cC 3 (by decide) (by decide)]; exact T.1 3 (by decide)
  have e15 := cM 15 (by decide) (by decide)
  have l60 : (60 : Int32).toInt = 60 := by decide
  by_cases c : s.1 15 9 ≤ a
  · have c' := Int32.le_iff_toInt_le.mp c
    have EC : bX4_fill_28 υ0 ax (fun a2 σ1 => f (a2, σ1)) a υ = lpc (S := Int32 × gS) K9 (fun rec u => bX4_fill_158 υ ax (fun a2 σ1 => rec (a2, σ1)) u.1 u.2) (0, υ) := by
      unfold bX4_fill_28
      rw [q_gd (by decide), nm_eq, e3, if_pos c, nm_eq]
    have EM : bX10_equations_156 u0 (fun a1 σ1 => g (a1, σ1)) a u = lpc (S := Int32 × gS) K9 (fun rec w => bX10_equations_322 u (fun a1 σ1 => rec (a1, σ1)) w.1 w.2) (0, u) := by
      unfold bX10_equations_156
      rw [q_bd (m_rows u), e15, if_pos c, nm_eq]
    refine .inl ⟨(υ, u), ⟨g1, g2, ?_⟩, EC, EM⟩
    obtain ⟨X, Y, f1, f2, f3⟩ := hF
    exact ⟨X, Y, f1, KR9_up f2 (by omega), f3⟩
  · have c' := q_gt c
    have ei := i_inc (a := a) (c := 60) (by omega) (by omega) (by decide)
    have R := T.2.2.2.2 a.toInt.toNat (by omega)
    have W := wr a.toInt.toNat (by omega)
    have D7 := G.2.2.2.2.2.2.1 a.toInt.toNat (by omega)
    have ga := gb_of (i := a) (n := 60) a0 (by omega)
    have us := c_usesK υ (r := a) a0 (by omega)
    rw [cC 58 (by decide) (by decide), D7.1] at us
    have e26 : u.1 26 a.toNatClampNeg = s.1 26 a.toInt.toNat := by rw [cM 26 (by decide) (by decide)]; rfl
    by_cases y : s.1 26 a.toInt.toNat = 0
    · -- in use
      rw [if_pos y] at us
      have e10 : υ.1 10 a.toNatClampNeg = s.1 22 (60 + a.toInt.toNat) := by rw [cC 10 (by decide) (by decide)]; exact R.1
      have e11 : υ.1 11 a.toNatClampNeg = s.1 23 (60 + a.toInt.toNat) := by rw [cC 11 (by decide) (by decide)]; exact R.2.1
      have ew : υ.1 15 a.toNatClampNeg = s.1 25 (60 + a.toInt.toNat) := by rw [cC 15 (by decide) (by decide)]; exact R.2.2.2.2.1
      have f22 : fX10_pictureOf u a = some (s.1 22 (60 + a.toInt.toNat)) := by rw [m_pictureOf u a0 (by omega), cM 22 (by decide) (by decide)]
      have f23 : ∀ v : gS, v.1 = t.1 → fX10_pointOf v a = some (s.1 23 (60 + a.toInt.toNat)) := fun v hv => by rw [m_pointOf v a0 (by omega), hv, hM.2.1 23 (by decide) (by decide)]
      have f25 : ∀ v : gS, v.1 = t.1 → fX10_weightOf v a = some (s.1 25 (60 + a.toInt.toNat)) := fun v hv => by rw [m_weightOf9 v a0 (by omega), hv, hM.2.1 25 (by decide) (by decide)]
      have tu : ∀ (v v' : gS), v.1 = τ.1 → v'.1 = t.1 → ∀ b : Int32, 0 ≤ b.toInt → b.toInt ≤ 1 → fX5_turned_47 v a b = some (tO s a.toInt.toNat b) ∧ fX10_turned v' a b = some (tO s a.toInt.toNat b) := fun v v' h1 h2 b b0 b1 => bs_turned h' h1 h2 a0 c' b0 b1
      obtain ⟨P, hP⟩ : ∃ P, P = s.1 22 (60 + a.toInt.toNat) := ⟨_, rfl⟩
      obtain ⟨Q, hQ⟩ : ∃ Q, Q = s.1 23 (60 + a.toInt.toNat) := ⟨_, rfl⟩
      obtain ⟨wt, hwt⟩ : ∃ wt, wt = s.1 25 (60 + a.toInt.toNat) := ⟨_, rfl⟩
      obtain ⟨T0, hT0⟩ : ∃ x, x = tO s a.toInt.toNat 0 := ⟨_, rfl⟩
      obtain ⟨T1, hT1⟩ : ∃ x, x = tO s a.toInt.toNat 1 := ⟨_, rfl⟩
      obtain ⟨TA, hTA⟩ : ∃ x, x = tO s a.toInt.toNat ax := ⟨_, rfl⟩
      have i0 := tO_in hG (r := a.toInt.toNat) (by omega) 0
      have i1 := tO_in hG (r := a.toInt.toNat) (by omega) 1
      have hx2 : (ax.toInt.toNat = 0 ∧ TA.toInt = T0.toInt ∧ (-TA).toInt = (-T0).toInt) ∨ (ax.toInt.toNat = 1 ∧ TA.toInt = T1.toInt ∧ (-TA).toInt = (-T1).toInt) := by
        rcases ax_2 x0 x1 with rfl | rfl
        · exact .inl ⟨by decide, by rw [hTA, hT0], by rw [hTA, hT0]⟩
        · exact .inr ⟨by decide, by rw [hTA, hT1], by rw [hTA, hT1]⟩
      rw [← hP, ← hQ, ← hwt] at W
      rw [← hP] at e10 f22
      rw [← hQ] at e11 f23
      rw [← hwt] at ew f25
      rw [← hT0] at i0
      rw [← hT1] at i1
      have cp : ub9 s P.toInt.toNat = true := by
        rw [ub9_t, UT9_iff w9 (by omega)]
        exact .inl ⟨a.toInt.toNat, by omega, y, .inl (by rw [hP])⟩
      have e12 : (12 + Q).toInt = 12 + Q.toInt := by rw [iadd_toInt] <;> omega
      have n12 : (12 + Q).toInt.toNat = 12 + Q.toInt.toNat := by omega
      have ltp := nU9_lt cp (show P.toInt.toNat < 38 by omega)
      have hLp := (hC.2.2.2 P.toInt.toNat (by omega)).1 cp
      have nn : (υ.1 96 4).toInt = n := by rw [g1, hC.2.2.1, hn]
      have hNM : NM9 s u (ub9 s) := ⟨by unfold JM; rw [g2]; exact hM.1, cM, fun i hi => by rw [g2]; exact hM.2.2.1 i hi, by rw [g2]; exact hM.2.2.2.1, fun k hk ck => by rw [g2]; exact hM.2.2.2.2 k hk ck⟩
      have np := (num9 hNM (K := P) (by omega) (by omega)).1 cp
      obtain ⟨NP, hNP⟩ : ∃ x, x = nU9 (ub9 s) P.toInt.toNat := ⟨_, rfl⟩
      rw [← hNP] at ltp hLp np
      have eNP : (Int32.ofNat NP).toInt = NP := iofNat_toInt (by omega)
      have eNPn : (Int32.ofNat NP).toInt.toNat = NP := by omega
      have fk : fixK υ Q.toInt.toNat ↔ ¬ freeM s Q.toInt.toNat := by
        unfold fixK
        rw [cC 16 (by decide) (by decide), cC 47 (by decide) (by decide), fx _ (by omega)]
      obtain ⟨X, Y, f1, f2, f3⟩ := hF
      by_cases fm : freeM s Q.toInt.toNat
      · -- not of control in use
        have isf : fX5_isFixed_47 υ Q = some 0 := by
          rcases c_fixK υ (q := Q) (by omega) (by omega) with ⟨k1, k2⟩ | ⟨k1, k2⟩
          · exact k1
          · exact absurd fm (fk.mp k2)
        have cq : ub9 s (12 + Q.toInt.toNat) = true := by
          rw [ub9_t, UT9_iff w9 (by omega)]
          exact .inl ⟨a.toInt.toNat, by omega, y, .inr ⟨by rw [hQ], by rw [← hQ]; exact fm⟩⟩
        have ltq := nU9_lt cq (show 12 + Q.toInt.toNat < 38 by omega)
        have hLq := (hC.2.2.2 (12 + Q.toInt.toNat) (by omega)).1 cq
        have nq := (num9 hNM (K := 12 + Q) (by omega) (by omega)).1 (by rw [n12]; exact cq)
        rw [n12] at nq
        obtain ⟨NQ, hNQ⟩ : ∃ x, x = nU9 (ub9 s) (12 + Q.toInt.toNat) := ⟨_, rfl⟩
        rw [← hNQ] at ltq hLq nq
        have eNQ : (Int32.ofNat NQ).toInt = NQ := iofNat_toInt (by omega)
        have eNQn : (Int32.ofNat NQ).toInt.toNat = NQ := by omega
        have qne : ¬ Int32.ofNat NQ = -1 := fun z => by
          have l1 : (-1 : Int32).toInt = -1 := by decide
          rw [z] at eNQ
          omega
        obtain ⟨υ2, ⟨k1, k2⟩, k3⟩ := k_term9 f2 n38 nn (p := 12 + Q) (q := P) (w := wt) (x := TA) (L := NQ) (M := NP) (by omega) (by omega) (by omega) (by omega) (by rw [g1, n12]; exact hLq) (by omega) (by rw [g1]; exact hLp) (by omega) rfl (by omega) (by omega) rfl rfl (by omega)
        obtain ⟨u2, ⟨m1, m2⟩, m3⟩ := m_tieB f1 (p := Int32.ofNat NP) (q := Int32.ofNat NQ) (w := wt) (x := -T0) (y := -T1) (by omega) (by omega) (by omega) (by omega) rfl (by omega) (by omega) rfl rfl
        obtain ⟨u3, ⟨o1, o2⟩, o3⟩ := m_tieB m2 (p := Int32.ofNat NQ) (q := Int32.ofNat NP) (w := wt) (x := T0) (y := T1) (by omega) (by omega) (by omega) (by omega) rfl (by omega) (by omega) rfl rfl
        rw [eNPn, eNQn] at m2 o2
        have EC : bX4_fill_28 υ0 ax (fun a2 σ1 => f (a2, σ1)) a υ = f (a + 1, υ2) := by
          have t9 := (tu υ u g1 g2 ax x0 x1).1
          rw [← hTA] at t9
          unfold bX4_fill_28
          rw [q_gd (by decide), nm_eq, e3, if_neg c, q_bd us, if_neg one_ne, q_gd ga, nm_eq, nm_eq, q_gd ga, nm_eq, nm_eq, e10, e11, q_bd t9, nm_eq, q_bd isf, if_pos rfl, q_gd ga, nm_eq, ew, q_bd k3, nm_eq]
        have EM : bX10_equations_156 u0 (fun a1 σ1 => g (a1, σ1)) a u = g (a + 1, u3) := by
          have t0 := (tu υ u g1 g2 0 (by decide) (by decide)).2
          have t1 := (tu υ u g1 g2 1 (by decide) (by decide)).2
          have t2 := (tu υ u2 g1 (m1.trans g2) 0 (by decide) (by decide)).2
          have t3 := (tu υ u2 g1 (m1.trans g2) 1 (by decide) (by decide)).2
          rw [← hT0] at t0 t2
          rw [← hT1] at t1 t3
          unfold bX10_equations_156
          rw [q_bd (m_rows u), e15, if_neg c, q_gd ga, nm_eq, e26, if_pos y, q_bd f22, q_bd np, nm_eq, q_bd (f23 u g2), q_bd nq, nm_eq, q_bd (f23 u g2), nm_eq, if_neg qne, q_bd (f25 u g2), q_bd t0, q_bd t1, q_bd m3, q_bd (f25 u2 (m1.trans g2)), q_bd t2, q_bd t3, q_bd o3, nm_eq]
        refine .inr ⟨_, _, EC, EM, ((s.1 15 9).toInt - (a + 1).toInt).toNat, by omega, rfl, by dsimp only; omega, by dsimp only; omega, rfl, k1.trans g1, o1.trans (m1.trans g2), ⟨_, _, o2, KR9_up k2 (by dsimp only; omega), fun i j hi hj => ?_⟩⟩
        · rw [f3 i j hi hj, S9_T n38 (by omega) (by omega) hj hx2]
          omega
      · -- of control in use
        have isf : fX5_isFixed_47 υ Q = some 1 := by
          rcases c_fixK υ (q := Q) (by omega) (by omega) with ⟨k1, k2⟩ | ⟨k1, k2⟩
          · exact absurd (fk.mpr fm) k2
          · exact k1
        have QT := T.2.2.2.1 Q.toInt.toNat (by omega)
        obtain ⟨q18, q19, qb, qc⟩ := QT.2.2.2 (free_no (by omega) fm)
        have nq := (num9 hNM (K := 12 + Q) (by omega) (by omega)).2 (by
          rw [n12, ub9_t, UT9_iff w9 (by omega)]
          rintro (⟨r, r1, r2, r3⟩ | ⟨p, p1, p2, p3⟩)
          · have q := wr r (by omega)
            rcases r3 with r3 | ⟨r3, r4⟩
            · omega
            · rw [show (s.1 23 (60 + r)).toInt.toNat = Q.toInt.toNat by omega] at r4
              exact fm r4
          · have q := wp p (by omega)
            omega)
        have x40 : (40 + 2 * Q).toInt = 40 + 2 * Q.toInt := by
          have m2 : (2 * Q).toInt = 2 * Q.toInt := imulc (by decide) (by omega) (by omega)
          rw [iadd_toInt] <;> omega
        have x41 : (40 + 2 * Q + 1).toInt = 41 + 2 * Q.toInt := by
          have := i_inc (a := 40 + 2 * Q) (c := 200) (by omega) (by omega) (by decide)
          omega
        have n40 : (40 + 2 * Q).toNatClampNeg = 40 + 2 * Q.toInt.toNat := by rw [n_toInt]; omega
        have n41 : (40 + 2 * Q + 1).toNatClampNeg = 40 + (2 * Q.toInt.toNat + 1) := by rw [n_toInt]; omega
        obtain ⟨C0, hC0⟩ : ∃ x, x = s.1 21 (40 + 2 * Q.toInt.toNat) := ⟨_, rfl⟩
        obtain ⟨C1, hC1⟩ : ∃ x, x = s.1 21 (40 + (2 * Q.toInt.toNat + 1)) := ⟨_, rfl⟩
        rw [← hC0] at q18 qb
        rw [← hC1] at q19 qc
        have h0 : (100 * C0).toInt = 100 * C0.toInt := imulc (by decide) (by omega) (by omega)
        have h1 : (100 * C1).toInt = 100 * C1.toInt := imulc (by decide) (by omega) (by omega)
        have d0 : (100 * C0 - T0).toInt = 100 * C0.toInt - T0.toInt := by rw [isub_toInt] <;> omega
        have d1 : (100 * C1 - T1).toInt = 100 * C1.toInt - T1.toInt := by rw [isub_toInt] <;> omega
        obtain ⟨CA, hCA, hx3⟩ : ∃ CA : Int32, fX5_fixedAt_47 υ Q ax = some (100 * CA) ∧ ((ax.toInt.toNat = 0 ∧ CA = C0 ∧ TA = T0) ∨ (ax.toInt.toNat = 1 ∧ CA = C1 ∧ TA = T1)) := by
          have gq := gb_of (i := Q) (n := 20) (by omega) (by omega)
          rcases ax_2 x0 x1 with rfl | rfl
          · refine ⟨C0, ?_, .inl ⟨by decide, rfl, by rw [hTA, hT0]⟩⟩
            have : υ.1 (18 + (0 : Int32).toNatClampNeg) = σ.1 18 := cC 18 (by decide) (by decide)
            unfold fX5_fixedAt_47
            rw [q_gd (by decide), q_gd gq, nm_eq, this, n_toInt, q18]
          · refine ⟨C1, ?_, .inr ⟨by decide, rfl, by rw [hTA, hT1]⟩⟩
            have : υ.1 (18 + (1 : Int32).toNatClampNeg) = σ.1 19 := cC 19 (by decide) (by decide)
            unfold fX5_fixedAt_47
            rw [q_gd (by decide), q_gd gq, nm_eq, this, n_toInt, q19]
        have dA : (ax.toInt.toNat = 0 ∧ (100 * CA - TA).toInt = 100 * C0.toInt - T0.toInt) ∨ (ax.toInt.toNat = 1 ∧ (100 * CA - TA).toInt = 100 * C1.toInt - T1.toInt) := by
          rcases hx3 with ⟨e, rfl, rfl⟩ | ⟨e, rfl, rfl⟩
          · exact .inl ⟨e, d0⟩
          · exact .inr ⟨e, d1⟩
        obtain ⟨υ2, ⟨k1, k2⟩, k3⟩ := k_hold9 f2 n38 nn (p := P) (w := wt) (x := 100 * CA - TA) (L := NP) (by omega) (by omega) (by rw [g1]; exact hLp) (by omega) rfl (by omega) (by omega) rfl (by omega)
        obtain ⟨u2, ⟨m1, m2⟩, m3⟩ := m_tieA f1 (p := Int32.ofNat NP) (w := wt) (x := 100 * C0 - T0) (y := 100 * C1 - T1) (by omega) (by omega) rfl (by omega) (by omega) d0 d1
        rw [eNPn] at m2
        have EC : bX4_fill_28 υ0 ax (fun a2 σ1 => f (a2, σ1)) a υ = f (a + 1, υ2) := by
          have t9 := (tu υ u g1 g2 ax x0 x1).1
          rw [← hTA] at t9
          unfold bX4_fill_28
          rw [q_gd (by decide), nm_eq, e3, if_neg c, q_bd us, if_neg one_ne, q_gd ga, nm_eq, nm_eq, q_gd ga, nm_eq, nm_eq, e10, e11, q_bd t9, nm_eq, q_bd isf, if_neg one_ne, q_gd ga, nm_eq, ew, q_bd hCA, q_bd k3, nm_eq]
        have EM : bX10_equations_156 u0 (fun a1 σ1 => g (a1, σ1)) a u = g (a + 1, u2) := by
          have t0 := (tu υ u g1 g2 0 (by decide) (by decide)).2
          have t1 := (tu υ u g1 g2 1 (by decide) (by decide)).2
          rw [← hT0] at t0
          rw [← hT1] at t1
          unfold bX10_equations_156
          rw [q_bd (m_rows u), e15, if_neg c, q_gd ga, nm_eq, e26, if_pos y, q_bd f22, q_bd np, nm_eq, q_bd (f23 u g2), q_bd nq, nm_eq, q_bd (f23 u g2), nm_eq, if_pos rfl, q_bd (f25 u g2), q_gd (gb_of (by omega) (by omega)), nm_eq, q_bd t0, q_gd (gb_of (by omega) (by omega)), nm_eq, q_bd t1, n40, n41, cM 21 (by decide) (by decide), ← hC0, ← hC1, q_bd m3, nm_eq]
        refine .inr ⟨_, _, EC, EM, ((s.1 15 9).toInt - (a + 1).toInt).toNat, by omega, rfl, by dsimp only; omega, by dsimp only; omega, rfl, k1.trans g1, m1.trans g2, ⟨_, _, m2, KR9_up k2 (by dsimp only; omega), fun i j hi hj => ?_⟩⟩
        · rw [f3 i j hi hj, H9_T n38 (by omega) hj dA]
    · rw [if_neg y] at us
      have EC : bX4_fill_28 υ0 ax (fun a2 σ1 => f (a2, σ1)) a υ = f (a + 1, υ) := by
        unfold bX4_fill_28
        rw [q_gd (by decide), nm_eq, e3, if_neg c, q_bd us, if_pos rfl, nm_eq]
      have EM : bX10_equations_156 u0 (fun a1 σ1 => g (a1, σ1)) a u = g (a + 1, u) := by
        unfold bX10_equations_156
        rw [q_bd (m_rows u), e15, if_neg c, q_gd ga, nm_eq, e26, if_neg y, nm_eq]
      obtain ⟨X, Y, f1, f2, f3⟩ := hF
      exact .inr ⟨_, _, EC, EM, ((s.1 15 9).toInt - (a + 1).toInt).toNat, by omega, rfl, by dsimp only; omega, by dsimp only; omega, rfl, g1, g2, ⟨X, Y, f1, KR9_up f2 (by dsimp only; omega), f3⟩⟩
end P12ZZO
