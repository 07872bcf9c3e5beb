/-! WHOLE, 2: rows of numbers: swapped, scaled, one subtracted; each side alone -/
section P12ZZI
/-- a loop that goes on till it leaves by one of its exits -/
theorem lpc_ex {S T β : Type} {B : (S → Option β) → S → Option β} {I : Nat → S → Prop} {F : T → Option β} {Q : T → Prop} (step : ∀ (rec : S → Option β) (n : Nat) (s : S), I n s → (∃ t, Q t ∧ B rec s = F t) ∨ ∃ s' : S, B rec s = rec s' ∧ ∃ m : Nat, m < n ∧ I m s') : ∀ (K N : Nat) (s : S), I N s → N < K → ∃ t, Q t ∧ lpc K B s = F t
  | 0, _, _, _, h => absurd h (Nat.not_lt_zero _)
  | K + 1, N, s, hI, h => by
    rcases step (lpc K B) N s hI with ⟨t, q, e⟩ | ⟨s', e, m, hm, hs⟩
    · exact ⟨t, q, e⟩
    · obtain ⟨t, q, e2⟩ := lpc_ex step K m s' hs (by omega)
      exact ⟨t, q, (show B (lpc K B) s = F t from e.trans e2)⟩
theorem lpc_ex2 {S T A β γ : Type} {B : (S → Option β) → S → Option β} {C : (T → Option γ) → T → Option γ} {I : Nat → S → T → Prop} {F : A → Option β} {G : A → Option γ} {Q : A → Prop} (step : ∀ (f : S → Option β) (g : T → Option γ) (n : Nat) (s : S) (t : T), I n s t → (∃ a, Q a ∧ B f s = F a ∧ C g t = G a) ∨ ∃ (s' : S) (t' : T), B f s = f s' ∧ C g t = g t' ∧ ∃ m : Nat, m < n ∧ I m s' t') : ∀ (K J N : Nat) (s : S) (t : T), I N s t → N < K → N < J → ∃ a, Q a ∧ lpc K B s = F a ∧ lpc J C t = G a
  | 0, _, _, _, _, _, h, _ => absurd h (Nat.not_lt_zero _)
  | _ + 1, 0, _, _, _, _, _, h => absurd h (Nat.not_lt_zero _)
  | K + 1, J + 1, N, s, t, hI, h, h2 => by
    rcases step (lpc K B) (lpc J C) N s t hI with ⟨a, q, e1, e2⟩ | ⟨s', t', e1, e2, m, hm, hs⟩
    · exact ⟨a, q, e1, e2⟩
    · obtain ⟨a, q, e3, e4⟩ := lpc_ex2 step K J m s' t' hs (by omega) (by omega)
      exact ⟨a, q, (show B (lpc K B) s = F a from e1.trans e3), (show C (lpc J C) t = G a from e2.trans e4)⟩
theorem ix_40 {a b : Int32} (a0 : 0 ≤ a.toInt) (a1 : a.toInt ≤ 37) (b0 : 0 ≤ b.toInt) (b1 : b.toInt ≤ 39) : gb (40 * a + b) 1520 = true ∧ (40 * a + b).toNatClampNeg = 40 * a.toInt.toNat + b.toInt.toNat := by
  have m : (40 * a).toInt = 40 * a.toInt := imulc (by decide) (by omega) (by omega)
  have e : (40 * a + b).toInt = 40 * a.toInt + b.toInt := by rw [iadd_toInt] <;> omega
  exact ⟨gb_of (by omega) (by omega), by rw [n_toInt]; omega⟩
/-- a cell of the reference's, of the class's -/
def mC9 (s : gS) (i j : Nat) : Int64 := s.2 31 (40 * i + j)
def kC9 (σ : gS) (i j : Nat) : Int64 := σ.2 (99 + i) j
theorem mC9_w {s : gS} {A B i j : Nat} {x : Int64} (hB : B < 40) (hj : j < 40) : mC9 (gsL s 31 (40 * A + B) x) i j = if i = A ∧ j = B then x else mC9 s i j := by
  unfold mC9
  rw [gsL_2]
  by_cases h : i = A ∧ j = B
  · rw [if_pos h, if_pos ⟨rfl, by rw [h.1, h.2]⟩]
  · rw [if_neg h, if_neg (fun z => h (by omega))]
theorem kC9_w {σ : gS} {A B i j : Nat} {x : Int64} : kC9 (gsL σ (99 + A) B x) i j = if i = A ∧ j = B then x else kC9 σ i j := by
  unfold kC9
  rw [gsL_2]
  by_cases h : i = A ∧ j = B
  · rw [if_pos h, if_pos ⟨by rw [h.1], h.2⟩]
  · rw [if_neg h, if_neg (fun z => h ⟨by omega, z.2⟩)]
theorem m_swaps {s : gS} {a b : Int32} (a0 : 0 ≤ a.toInt) (a1 : a.toInt ≤ 37) (b0 : 0 ≤ b.toInt) (b1 : b.toInt ≤ 37) : ∃ t : gS, (t.1 = s.1 ∧ ∀ i j : Nat, j < 40 → mC9 t i j = if i = a.toInt.toNat then mC9 s b.toInt.toNat j else if i = b.toInt.toNat then mC9 s a.toInt.toNat j else mC9 s i j) ∧ fX10_swaps s a b = some t := by
  have z0' := z0
  have l40 : (40 : Int32).toInt = 40 := by decide
  unfold fX10_swaps
  rw [nm_eq]
  refine lpc_ex (I := fun (n : Nat) (u : Int32 × gS) => n = (40 - u.1.toInt).toNat ∧ 0 ≤ u.1.toInt ∧ u.1.toInt ≤ 40 ∧ u.2.1 = s.1 ∧ ∀ i j : Nat, j < 40 → mC9 u.2 i j = if (j : Int) < u.1.toInt then (if i = a.toInt.toNat then mC9 s b.toInt.toNat j else if i = b.toInt.toNat then mC9 s a.toInt.toNat j else mC9 s i j) else mC9 s i j) (fun rec n u hs => ?_) K9 40 (0, s) ⟨by dsimp only; omega, by dsimp only; omega, by dsimp only; omega, rfl, fun i j hj => by rw [if_neg (by dsimp only; omega)]⟩ (by unfold K9; omega)
  obtain ⟨k, ρ⟩ := u
  obtain ⟨hn, k0, k1, h1, h2⟩ := hs
  dsimp only at hn k0 k1 h1 h2 ⊢
  unfold bX10_swaps_2
  by_cases c : 40 ≤ k
  · rw [if_pos c]
    have := Int32.le_iff_toInt_le.mp c
    exact .inl ⟨ρ, ⟨h1, fun i j hj => by rw [h2 i j hj, if_pos (by omega)]⟩, rfl⟩
  · have hlt := q_gt c
    have e1 := i_inc (a := k) (c := 60) (by omega) (by omega) (by decide)
    obtain ⟨ga, ea⟩ := ix_40 a0 a1 k0 (b := k) (by omega)
    obtain ⟨gb', eb⟩ := ix_40 b0 b1 k0 (b := k) (by omega)
    rw [if_neg c, q_gd ga, nm_eq, nm_eq, q_gd gb', nm_eq, q_gd ga, nm_eq, q_gd gb', nm_eq, nm_eq, ea, eb]
    refine .inr ⟨_, rfl, (40 - (k + 1).toInt).toNat, by omega, ⟨rfl, by dsimp only; omega, by dsimp only; omega, h1, fun i j hj => ?_⟩⟩
    have ra := h2 a.toInt.toNat k.toInt.toNat (by omega)
    have rb := h2 b.toInt.toNat k.toInt.toNat (by omega)
    rw [if_neg (by omega)] at ra rb
    have ra' : ρ.2 31 (40 * a.toInt.toNat + k.toInt.toNat) = mC9 s a.toInt.toNat k.toInt.toNat := ra
    have rb' : ρ.2 31 (40 * b.toInt.toNat + k.toInt.toNat) = mC9 s b.toInt.toNat k.toInt.toNat := rb
    dsimp only
    rw [mC9_w (by omega) hj, mC9_w (by omega) hj, ra', rb', h2 i j hj]
    by_cases zj : j = k.toInt.toNat
    · rw [if_pos (show (j : Int) < (k + 1).toInt by omega), if_neg (show ¬ (j : Int) < k.toInt by omega), zj]
      by_cases za : i = a.toInt.toNat
      · rw [if_pos za]
        by_cases zb : i = b.toInt.toNat
        · rw [if_pos ⟨zb, rfl⟩, ← za, zb]
        · rw [if_neg (fun z => zb z.1), if_pos ⟨za, rfl⟩]
      · rw [if_neg za]
        by_cases zb : i = b.toInt.toNat
        · rw [if_pos ⟨zb, rfl⟩, if_pos zb]
        · rw [if_neg (fun z => zb z.1), if_neg (fun z => za z.1), if_neg zb]
    · rw [if_neg (fun z => zj z.2), if_neg (fun z => zj z.2)]
      by_cases zl : (j : Int) < k.toInt
      · rw [if_pos zl, if_pos (show (j : Int) < (k + 1).toInt by omega)]
      · rw [if_neg zl, if_neg (show ¬ (j : Int) < (k + 1).toInt by omega)]
theorem k_swap {σ : gS} {a b : Int32} {n : Nat} (a0 : 0 ≤ a.toInt) (a1 : a.toInt ≤ 37) (b0 : 0 ≤ b.toInt) (b1 : b.toInt ≤ 37) (hn : (σ.1 96 4).toInt = n) (n38 : n ≤ 38) : ∃ τ : gS, (τ.1 = σ.1 ∧ ∀ i j : Nat, j ≤ n → kC9 τ i j = if i = a.toInt.toNat then kC9 σ b.toInt.toNat j else if i = b.toInt.toNat then kC9 σ a.toInt.toNat j else kC9 σ i j) ∧ fX4_swapLines σ a b = some τ := by
  have z0' := z0
  unfold fX4_swapLines
  rw [nm_eq]
  refine lpc_ex (I := fun (m : Nat) (u : Int32 × gS) => m = (n + 1 - u.1.toInt).toNat ∧ 0 ≤ u.1.toInt ∧ u.1.toInt ≤ n + 1 ∧ u.2.1 = σ.1 ∧ ∀ i j : Nat, kC9 u.2 i j = if (j : Int) < u.1.toInt then (if i = a.toInt.toNat then kC9 σ b.toInt.toNat j else if i = b.toInt.toNat then kC9 σ a.toInt.toNat j else kC9 σ i j) else kC9 σ i j) (fun rec m u hs => ?_) K9 (n + 1) (0, σ) ⟨by dsimp only; omega, by dsimp only; omega, by dsimp only; omega, rfl, fun i j => by rw [if_neg (by dsimp only; omega)]⟩ (by unfold K9; omega)
  obtain ⟨k, ρ⟩ := u
  obtain ⟨hm, k0, k1, h1, h2⟩ := hs
  dsimp only at hm k0 k1 h1 h2 ⊢
  unfold bX4_swapLines_2
  rw [h1]
  by_cases c : (σ.1 96 4) < k
  · rw [if_pos c]
    have := Int32.lt_iff_toInt_lt.mp c
    exact .inl ⟨ρ, ⟨h1, fun i j hj => by rw [h2 i j, if_pos (by omega)]⟩, rfl⟩
  · have hle : ¬ (σ.1 96 4).toInt < k.toInt := fun z => c (Int32.lt_iff_toInt_lt.mpr z)
    have e1 := i_inc (a := k) (c := 60) (by omega) (by omega) (by decide)
    have ga := gb_of (i := a) (n := 38) a0 (by omega)
    have gb' := gb_of (i := b) (n := 38) b0 (by omega)
    have gk := gb_of (i := k) (n := 39) k0 (by omega)
    rw [if_neg c, q_gd ga, q_gd gk, nm_eq, nm_eq, q_gd ga, q_gd gb', q_gd gk, nm_eq, q_gd gk, nm_eq, q_gd gb', q_gd gk, nm_eq, nm_eq, n_toInt, n_toInt, n_toInt]
    refine .inr ⟨_, rfl, (n + 1 - (k + 1).toInt).toNat, by omega, ⟨rfl, by dsimp only; omega, by dsimp only; omega, h1, fun i j => ?_⟩⟩
    have ra := h2 a.toInt.toNat k.toInt.toNat
    have rb := h2 b.toInt.toNat k.toInt.toNat
    rw [if_neg (by omega)] at ra rb
    have ra' : ρ.2 (99 + a.toInt.toNat) k.toInt.toNat = kC9 σ a.toInt.toNat k.toInt.toNat := ra
    have rb' : ρ.2 (99 + b.toInt.toNat) k.toInt.toNat = kC9 σ b.toInt.toNat k.toInt.toNat := rb
    dsimp only
    rw [kC9_w, kC9_w, ra', rb', h2 i j]
    by_cases zj : j = k.toInt.toNat
    · rw [if_pos (show (j : Int) < (k + 1).toInt by omega), if_neg (show ¬ (j : Int) < k.toInt by omega), zj]
      by_cases za : i = a.toInt.toNat
      · rw [if_pos za]
        by_cases zb : i = b.toInt.toNat
        · rw [if_pos ⟨zb, rfl⟩, ← za, zb]
        · rw [if_neg (fun z => zb z.1), if_pos ⟨za, rfl⟩]
      · rw [if_neg za]
        by_cases zb : i = b.toInt.toNat
        · rw [if_pos ⟨zb, rfl⟩, if_pos zb]
        · rw [if_neg (fun z => zb z.1), if_neg (fun z => za z.1), if_neg zb]
    · rw [if_neg (fun z => zj z.2), if_neg (fun z => zj z.2)]
      by_cases zl : (j : Int) < k.toInt
      · rw [if_pos zl, if_pos (show (j : Int) < (k + 1).toInt by omega)]
      · rw [if_neg zl, if_neg (show ¬ (j : Int) < (k + 1).toInt by omega)]
/-- one row scaled: the reference's, all columns -/
theorem m_scale {s0 s : gS} {a : Int32} {f : Int64} {rec6 : Int32 → gS → Option (Int32 × gS)} (a0 : 0 ≤ a.toInt) (a1 : a.toInt ≤ 37) : ∃ t : gS, (t.1 = s.1 ∧ ∀ i j : Nat, j < 40 → mC9 t i j = if i = a.toInt.toNat then lrm (mC9 s i j * f) 1000003 else mC9 s i j) ∧ lpc (S := Int32 × gS) K9 (fun rec u => bX10_isSolved_80 s0 a f rec6 (fun a5 σ1 => rec (a5, σ1)) u.1 u.2) (0, s) = lpc (S := Int32 × gS) K9 (fun rec u => bX10_isSolved_126 t a rec6 (fun a5 σ1 => rec (a5, σ1)) u.1 u.2) (0, t) := by
  have z0' := z0
  have l40 : (40 : Int32).toInt = 40 := by decide
  refine lpc_ex (F := fun t => lpc (S := Int32 × gS) K9 (fun rec u => bX10_isSolved_126 t a rec6 (fun a5 σ1 => rec (a5, σ1)) u.1 u.2) (0, t)) (I := fun (n : Nat) (u : Int32 × gS) => n = (40 - u.1.toInt).toNat ∧ 0 ≤ u.1.toInt ∧ u.1.toInt ≤ 40 ∧ u.2.1 = s.1 ∧ ∀ i j : Nat, j < 40 → mC9 u.2 i j = if (j : Int) < u.1.toInt ∧ i = a.toInt.toNat then lrm (mC9 s i j * f) 1000003 else mC9 s i j) (fun rec n u hs => ?_) K9 40 (0, s) ⟨by dsimp only; omega, by dsimp only; omega, by dsimp only; omega, rfl, fun i j hj => by rw [if_neg (by dsimp only; omega)]⟩ (by unfold K9; omega)
  obtain ⟨k, ρ⟩ := u
  obtain ⟨hn, k0, k1, h1, h2⟩ := hs
  dsimp only at hn k0 k1 h1 h2 ⊢
  unfold bX10_isSolved_80
  by_cases c : 40 ≤ k
  · rw [if_pos c, nm_eq]
    have := Int32.le_iff_toInt_le.mp c
    refine .inl ⟨ρ, ⟨h1, fun i j hj => ?_⟩, rfl⟩
    rw [h2 i j hj]
    by_cases za : i = a.toInt.toNat
    · rw [if_pos za, if_pos ⟨by omega, za⟩]
    · rw [if_neg za, if_neg (fun z => za z.2)]
  · have hlt := q_gt c
    have e1 := i_inc (a := k) (c := 60) (by omega) (by omega) (by decide)
    obtain ⟨ga, ea⟩ := ix_40 a0 a1 k0 (b := k) (by omega)
    rw [if_neg c, q_gd ga, nm_eq, q_gd ga, nm_eq, nm_eq, ea]
    refine .inr ⟨_, rfl, (40 - (k + 1).toInt).toNat, by omega, ⟨rfl, by dsimp only; omega, by dsimp only; omega, h1, fun i j hj => ?_⟩⟩
    have ra := h2 a.toInt.toNat k.toInt.toNat (by omega)
    rw [if_neg (by omega)] at ra
    have ra' : ρ.2 31 (40 * a.toInt.toNat + k.toInt.toNat) = mC9 s a.toInt.toNat k.toInt.toNat := ra
    dsimp only
    rw [mC9_w (by omega) hj, ra', h2 i j hj]
    by_cases z : i = a.toInt.toNat ∧ j = k.toInt.toNat
    · rw [if_pos z, if_pos ⟨by omega, z.1⟩, z.1, z.2]
    · rw [if_neg z]
      by_cases y : (j : Int) < k.toInt ∧ i = a.toInt.toNat
      · rw [if_pos y, if_pos ⟨by omega, y.2⟩]
      · rw [if_neg y, if_neg (by omega)]
/-- the class's, from its column on -/
theorem k_scale {σ0 σ : gS} {a : Int32} {f : Int64} {n : Nat} (a0 : 0 ≤ a.toInt) (an : a.toInt < n) (hn : (σ.1 96 4).toInt = n) (n38 : n ≤ 38) : ∃ τ : gS, (τ.1 = σ.1 ∧ ∀ i j : Nat, j ≤ n → a.toInt.toNat ≤ j → kC9 τ i j = if i = a.toInt.toNat then lrm (kC9 σ i j * f) 1000003 else kC9 σ i j) ∧ lpc (S := Int32 × gS) K9 (fun rec u => bX4_eliminate_65 σ0 a f (fun a5 σ1 => rec (a5, σ1)) u.1 u.2) (a, σ) = lpc (S := Int32 × gS) K9 (fun rec u => bX4_eliminate_107 τ a (fun a5 σ1 => rec (a5, σ1)) u.1 u.2) (0, τ) := by
  have z0' := z0
  refine lpc_ex (F := fun τ => lpc (S := Int32 × gS) K9 (fun rec u => bX4_eliminate_107 τ a (fun a5 σ1 => rec (a5, σ1)) u.1 u.2) (0, τ)) (I := fun (m : Nat) (u : Int32 × gS) => m = (n + 1 - u.1.toInt).toNat ∧ a.toInt ≤ u.1.toInt ∧ u.1.toInt ≤ n + 1 ∧ u.2.1 = σ.1 ∧ ∀ i j : Nat, a.toInt.toNat ≤ j → kC9 u.2 i j = if (j : Int) < u.1.toInt ∧ i = a.toInt.toNat then lrm (kC9 σ i j * f) 1000003 else kC9 σ i j) (fun rec m u hs => ?_) K9 (n + 1 - a.toInt).toNat (a, σ) ⟨by dsimp only, by dsimp only; omega, by dsimp only; omega, rfl, fun i j hj => by rw [if_neg (by dsimp only; omega)]⟩ (by unfold K9; omega)
  obtain ⟨k, ρ⟩ := u
  obtain ⟨hm, k0, k1, h1, h2⟩ := hs
  dsimp only at hm k0 k1 h1 h2 ⊢
  unfold bX4_eliminate_65
  rw [h1]
  by_cases c : (σ.1 96 4) < k
  · rw [if_pos c, nm_eq]
    have := Int32.lt_iff_toInt_lt.mp c
    refine .inl ⟨ρ, ⟨h1, fun i j hj ha => ?_⟩, rfl⟩
    rw [h2 i j ha]
    by_cases za : i = a.toInt.toNat
    · rw [if_pos za, if_pos ⟨by omega, za⟩]
    · rw [if_neg za, if_neg (fun z => za z.2)]
  · have hle : ¬ (σ.1 96 4).toInt < k.toInt := fun z => c (Int32.lt_iff_toInt_lt.mpr z)
    have e1 := i_inc (a := k) (c := 60) (by omega) (by omega) (by decide)
    have ga := gb_of (i := a) (n := 38) a0 (by omega)
    have gk := gb_of (i := k) (n := 39) (by omega) (by omega)
    rw [if_neg c, q_gd ga, q_gd ga, q_gd gk, nm_eq, q_gd gk, nm_eq, nm_eq, n_toInt, n_toInt]
    refine .inr ⟨_, rfl, (n + 1 - (k + 1).toInt).toNat, by omega, ⟨rfl, by dsimp only; omega, by dsimp only; omega, h1, fun i j hj => ?_⟩⟩
    have ra := h2 a.toInt.toNat k.toInt.toNat (by omega)
    rw [if_neg (by omega)] at ra
    have ra' : ρ.2 (99 + a.toInt.toNat) k.toInt.toNat = kC9 σ a.toInt.toNat k.toInt.toNat := ra
    dsimp only
    rw [kC9_w, ra', h2 i j hj]
    by_cases z : i = a.toInt.toNat ∧ j = k.toInt.toNat
    · rw [if_pos z, if_pos ⟨by omega, z.1⟩, z.1, z.2]
    · rw [if_neg z]
      by_cases y : (j : Int) < k.toInt ∧ i = a.toInt.toNat
      · rw [if_pos y, if_pos ⟨by omega, y.2⟩]
      · rw [if_neg y, if_neg (by omega)]
/-- one row's number of times another subtracted -/
def sub9 (v f w : Int64) : Int64 := lrm (lrm (v - f * w) 1000003 + 1000003) 1000003
theorem m_sub {s0 s : gS} {a r : Int32} {f : Int64} {rec6 rec126 : Int32 → gS → Option (Int32 × gS)} (a0 : 0 ≤ a.toInt) (a1 : a.toInt ≤ 37) (r0 : 0 ≤ r.toInt) (r1 : r.toInt ≤ 37) (hne : r ≠ a) : ∃ t : gS, (t.1 = s.1 ∧ ∀ i j : Nat, j < 40 → mC9 t i j = if i = r.toInt.toNat then sub9 (mC9 s i j) f (mC9 s a.toInt.toNat j) else mC9 s i j) ∧ lpc (S := Int32 × gS) K9 (fun rec u => bX10_isSolved_168 s0 a r f rec6 rec126 (fun a8 σ1 => rec (a8, σ1)) u.1 u.2) (0, s) = rec126 (r + 1) t := by
  have z0' := z0
  have l40 : (40 : Int32).toInt = 40 := by decide
  have hne' : a.toInt.toNat ≠ r.toInt.toNat := fun z => hne (Int32.toInt_inj.mp (by omega))
  refine lpc_ex (F := fun t => rec126 (r + 1) t) (I := fun (n : Nat) (u : Int32 × gS) => n = (40 - u.1.toInt).toNat ∧ 0 ≤ u.1.toInt ∧ u.1.toInt ≤ 40 ∧ u.2.1 = s.1 ∧ ∀ i j : Nat, j < 40 → mC9 u.2 i j = if (j : Int) < u.1.toInt ∧ i = r.toInt.toNat then sub9 (mC9 s i j) f (mC9 s a.toInt.toNat j) else mC9 s i j) (fun rec n u hs => ?_) K9 40 (0, s) ⟨by dsimp only; omega, by dsimp only; omega, by dsimp only; omega, rfl, fun i j hj => by rw [if_neg (by dsimp only; omega)]⟩ (by unfold K9; omega)
  obtain ⟨k, ρ⟩ := u
  obtain ⟨hn, k0, k1, h1, h2⟩ := hs
  dsimp only at hn k0 k1 h1 h2 ⊢
  unfold bX10_isSolved_168
  by_cases c : 40 ≤ k
  · rw [if_pos c, nm_eq]
    have := Int32.le_iff_toInt_le.mp c
    refine .inl ⟨ρ, ⟨h1, fun i j hj => ?_⟩, rfl⟩
    rw [h2 i j hj]
    by_cases za : i = r.toInt.toNat
    · rw [if_pos za, if_pos ⟨by omega, za⟩]
    · rw [if_neg za, if_neg (fun z => za z.2)]
  · have hlt := q_gt c
    have e1 := i_inc (a := k) (c := 60) (by omega) (by omega) (by decide)
    obtain ⟨ga, ea⟩ := ix_40 a0 a1 k0 (b := k) (by omega)
    obtain ⟨gr, er⟩ := ix_40 r0 r1 k0 (b := k) (by omega)
    have em : ∀ x : Int64, fX10_modulo ρ x = some (lrm (lrm x 1000003 + 1000003) 1000003) := fun _ => rfl
    rw [if_neg c, q_gd gr, nm_eq, q_gd ga, nm_eq, q_bd (em _), q_gd gr, nm_eq, nm_eq, ea, er]
    refine .inr ⟨_, rfl, (40 - (k + 1).toInt).toNat, by omega, ⟨rfl, by dsimp only; omega, by dsimp only; omega, h1, fun i j hj => ?_⟩⟩
    have ra := h2 a.toInt.toNat k.toInt.toNat (by omega)
    have rr := h2 r.toInt.toNat k.toInt.toNat (by omega)
    rw [if_neg (by omega)] at ra rr
    have ra' : ρ.2 31 (40 * a.toInt.toNat + k.toInt.toNat) = mC9 s a.toInt.toNat k.toInt.toNat := ra
    have rr' : ρ.2 31 (40 * r.toInt.toNat + k.toInt.toNat) = mC9 s r.toInt.toNat k.toInt.toNat := rr
    dsimp only
    rw [mC9_w (by omega) hj, ra', rr', h2 i j hj]
    by_cases z : i = r.toInt.toNat ∧ j = k.toInt.toNat
    · rw [if_pos z, if_pos ⟨by omega, z.1⟩, z.1, z.2]
      rfl
    · rw [if_neg z]
      by_cases y : (j : Int) < k.toInt ∧ i = r.toInt.toNat
      · rw [if_pos y, if_pos ⟨by omega, y.2⟩]
      · rw [if_neg y, if_neg (by omega)]
def sub8 (v f w : Int64) : Int64 := lrm (v + (1000003 - f) * w) 1000003
theorem k_sub {σ : gS} {a r : Int32} {n : Nat} (a0 : 0 ≤ a.toInt) (an : a.toInt < n) (r0 : 0 ≤ r.toInt) (rn : r.toInt < n) (hne : r ≠ a) (hn : (σ.1 96 4).toInt = n) (n38 : n ≤ 38) : ∃ τ : gS, (τ.1 = σ.1 ∧ ∀ i j : Nat, j ≤ n → a.toInt.toNat ≤ j → kC9 τ i j = if i = r.toInt.toNat then sub8 (kC9 σ i j) (kC9 σ r.toInt.toNat a.toInt.toNat) (kC9 σ a.toInt.toNat j) else kC9 σ i j) ∧ fX4_subtractLine σ r a = some τ := by
  have z0' := z0
  have hne' : a.toInt.toNat ≠ r.toInt.toNat := fun z => hne (Int32.toInt_inj.mp (by omega))
  have ga := gb_of (i := a) (n := 38) a0 (by omega)
  have gr := gb_of (i := r) (n := 38) r0 (by omega)
  unfold fX4_subtractLine
  rw [q_gd gr, q_gd (gb_of a0 (by omega)), nm_eq, nm_eq, nm_eq, n_toInt, n_toInt]
  obtain ⟨f, hf⟩ : ∃ f, f = kC9 σ r.toInt.toNat a.toInt.toNat := ⟨_, rfl⟩
  have hf' : σ.2 (99 + r.toInt.toNat) a.toInt.toNat = f := hf.symm
  rw [hf', ← hf]
  refine lpc_ex (F := some) (I := fun (m : Nat) (u : Int32 × gS) => m = (n + 1 - u.1.toInt).toNat ∧ a.toInt ≤ u.1.toInt ∧ u.1.toInt ≤ n + 1 ∧ u.2.1 = σ.1 ∧ ∀ i j : Nat, a.toInt.toNat ≤ j → kC9 u.2 i j = if (j : Int) < u.1.toInt ∧ i = r.toInt.toNat then sub8 (kC9 σ i j) f (kC9 σ a.toInt.toNat j) else kC9 σ i j) (fun rec m u hs => ?_) K9 (n + 1 - a.toInt).toNat (a, σ) ⟨by dsimp only, by dsimp only; omega, by dsimp only; omega, rfl, fun i j hj => by rw [if_neg (by dsimp only; omega)]⟩ (by unfold K9; omega)
  obtain ⟨k, ρ⟩ := u
  obtain ⟨hm, k0, k1, h1, h2⟩ := hs
  dsimp only at hm k0 k1 h1 h2 ⊢
  unfold bX4_subtractLine_16
  rw [h1]
  by_cases c : (σ.1 96 4) < k
  · rw [if_pos c]
    have := Int32.lt_iff_toInt_lt.mp c
    refine .inl ⟨ρ, ⟨h1, fun i j hj ha => ?_⟩, rfl⟩
    rw [h2 i j ha]
    by_cases za : i = r.toInt.toNat
    · rw [if_pos za, if_pos ⟨by omega, za⟩]
    · rw [if_neg za, if_neg (fun z => za z.2)]
  · have hle : ¬ (σ.1 96 4).toInt < k.toInt := fun z => c (Int32.lt_iff_toInt_lt.mpr z)
    have e1 := i_inc (a := k) (c := 60) (by omega) (by omega) (by decide)
    have gk := gb_of (i := k) (n := 39) (by omega) (by omega)
    rw [if_neg c, q_gd gr, q_gd gr, q_gd gk, nm_eq, q_gd ga, q_gd gk, nm_eq, q_gd gk, nm_eq, nm_eq, n_toInt, n_toInt, n_toInt]
    refine .inr ⟨_, rfl, (n + 1 - (k + 1).toInt).toNat, by omega, ⟨rfl, by dsimp only; omega, by dsimp only; omega, h1, fun i j hj => ?_⟩⟩
    have ra := h2 a.toInt.toNat k.toInt.toNat (by omega)
    have rr := h2 r.toInt.toNat k.toInt.toNat (by omega)
    rw [if_neg (by omega)] at ra rr
    have ra' : ρ.2 (99 + a.toInt.toNat) k.toInt.toNat = kC9 σ a.toInt.toNat k.toInt.toNat := ra
    have rr' : ρ.2 (99 + r.toInt.toNat) k.toInt.toNat = kC9 σ r.toInt.toNat k.toInt.toNat := rr
    dsimp only
    rw [kC9_w, ra', rr', h2 i j hj]
    by_cases z : i = r.toInt.toNat ∧ j = k.toInt.toNat
    · rw [if_pos z, if_pos ⟨by omega, z.1⟩, z.1, z.2]
      rfl
    · rw [if_neg z]
      by_cases y : (j : Int) < k.toInt ∧ i = r.toInt.toNat
      · rw [if_pos y, if_pos ⟨by omega, y.2⟩]
      · rw [if_neg y, if_neg (by omega)]
end P12ZZI
