/-! THE TREE, 1: what is held; the merging -/
section P12ZZC
theorem re_lpc2 {S T β γ : Type} {B : (S → Option β) → S → Option β} {C : (T → Option γ) → T → Option γ} {R : β → γ → Prop} {I : Nat → S → T → Prop} {E : T → γ → Prop} (st : ∀ (g : T → Option γ) (t : T) (v : γ), E t v → C g t = some v) (step : ∀ (f : S → Option β) (g : T → Option γ) (n : Nat) (s : S) (t : T), I n s t → (∀ (t : T) (v : γ), E t v → g t = some v) → (∀ (m : Nat) (s' : S) (t' : T), m < n → I m s' t' → Re (f s') (g t') R) → Re (B f s) (C g t) R) : ∀ (K J N : Nat) (s : S) (t : T), I N s t → N < K → N + 1 < J → Re (lpc K B s) (lpc J C t) R
  | 0, _, _, _, _, _, h, _ => absurd h (Nat.not_lt_zero _)
  | _ + 1, 0, _, _, _, _, _, h => absurd h (Nat.not_lt_zero _)
  | _ + 1, 1, _, _, _, _, _, h => absurd h (by omega)
  | K + 1, J + 2, N, s, t, hI, h, h2 => step (lpc K B) (lpc (J + 1) C) N s t hI (fun t v e => st (lpc J C) t v e) (fun m s' t' hm hs => re_lpc2 st step K (J + 1) m s' t' hs (by omega) (by omega))
theorem GT_m {σ s t : gS} (h : GT σ s) (f : ∀ j, j ≠ 34 → j ≠ 35 → j ≠ 36 → t.1 j = s.1 j) (f2 : t.2 = s.2) (jM : JM t) : GT σ t := by
  obtain ⟨jC, -, T, g1, g2, g3, g4, g5, g6, g7, g8⟩ := h
  refine ⟨jC, jM, TR_k T (fun _ _ => rfl) (fun k k1 k2 => f k (by omega) (by omega) (by omega)) f2, ?_⟩
  unfold GE MSd
  rw [f 0 (by decide) (by decide) (by decide), f 15 (by decide) (by decide) (by decide), f 27 (by decide) (by decide) (by decide), f 28 (by decide) (by decide) (by decide), f 26 (by decide) (by decide) (by decide), f 24 (by decide) (by decide) (by decide)]
  exact ⟨g1, g2, g3, g4, g5, g6, g7, g8⟩
theorem tC_eq {s t : gS} (h : ∀ p q, RW9 t p q = RW9 s p q) (p1 p2 : Int32) : ∀ n : Nat, tC t p1 p2 n = tC s p1 p2 n
  | 0 => rfl
  | n + 1 => by
    unfold tC bo
    rw [tC_eq h p1 p2 n, h, h]
/-- the tree so far, on both sides -/
noncomputable def TGr (s τ κ t : gS) (k : Int32) : Prop := (∀ j, j ≠ 140 → j ≠ 193 → j ≠ 194 → j ≠ 195 → κ.1 j = τ.1 j) ∧ (∀ j, j ≠ 34 → j ≠ 35 → j ≠ 36 → t.1 j = s.1 j) ∧ t.2 = s.2 ∧ JM t ∧ κ.1 140 10 = k ∧ 0 ≤ k.toInt ∧ (∀ i : Nat, i < 12 → κ.1 193 i = t.1 35 i) ∧ Tv t ∧ k.toInt + nTv t ≤ 12 ∧ 1 ≤ nTv t ∧ (∀ i : Nat, (i : Int) < (s.1 15 7).toInt → (t.1 35 i).toInt < (s.1 15 7).toInt) ∧ (∀ i : Nat, (s.1 15 7).toInt ≤ (i : Int) → i < 12 → t.1 35 i = Int32.ofNat i) ∧ ∀ b : Nat, (b : Int) < k.toInt → (t.1 34 b = 100 * κ.1 194 b + κ.1 195 b ∧ (0 ≤ (κ.1 194 b).toInt ∧ (κ.1 194 b).toInt < (s.1 15 7).toInt) ∧ 0 ≤ (κ.1 195 b).toInt ∧ (κ.1 195 b).toInt < (s.1 15 7).toInt)
/-- a tie is taken: both sides merge -/
theorem merge_2 {s τ κ t : gS} {k a b : Int32} (b7 : (s.1 15 7).toInt ≤ 12) (h : TGr s τ κ t k) (a0 : 0 ≤ a.toInt) (a1 : a.toInt < (s.1 15 7).toInt) (b0 : 0 ≤ b.toInt) (b1 : b.toInt < (s.1 15 7).toInt) (hab : κ.1 194 k.toInt.toNat = a ∧ κ.1 195 k.toInt.toNat = b) (ne : t.1 35 a.toInt.toNat ≠ t.1 35 b.toInt.toNat) {g : Int32 × Int32 × gS → Option (Int32 × gS)} {R : Int32 × gS → Int32 × gS → Prop} (go : ∀ κ' t', TGr s τ κ' t' (k + 1) → Re (some ((1 : Int32), κ')) (g (k + 1, 1, t')) R) : Re (lpc (S := Int32 × gS) K9 (fun rec x => bX7_addBranch_144 κ (t.1 35 b.toInt.toNat) (t.1 35 a.toInt.toNat) (fun a4 σ1 => rec (a4, σ1)) x.1 x.2) (0, κ)) (lpc (S := Int32 × gS) K9 (fun rec x => bX10_treeOf_180 (gsI t 34 k.toInt.toNat (100 * a + b)) (k + 1) 1 a (t.1 35 b.toInt.toNat) (fun a1 a2 σ1 => g (a1, a2, σ1)) (fun a6 σ1 => rec (a6, σ1)) x.1 x.2) (0, gsI t 34 k.toInt.toNat (100 * a + b))) R := by
  obtain ⟨h1, h2, h3, h4, h5, h6, h7, h8, h9, h10, h11, h12, h13⟩ := h
  have z0' := z0
  have l1 : (1 : Int32).toInt = 1 := by decide
  have l12 : (12 : Int32).toInt = 12 := by decide
  have ek : (k + 1).toInt = k.toInt + 1 := i_inc (c := 12) (by omega) (by omega) (by decide)
  obtain ⟨f, hf⟩ : ∃ f, f = t.1 35 b.toInt.toNat := ⟨_, rfl⟩
  obtain ⟨v, hv⟩ : ∃ v, v = t.1 35 a.toInt.toNat := ⟨_, rfl⟩
  rw [← hf, ← hv] at ne ⊢
  refine re_lpc (I := fun (n : Nat) (x y : Int32 × gS) => n = (12 - y.1.toInt).toNat ∧ 0 ≤ y.1.toInt ∧ y.1.toInt ≤ 12 ∧ x.1 = y.1 ∧ (∀ j, j ≠ 193 → x.2.1 j = κ.1 j) ∧ (∀ j, j ≠ 34 → j ≠ 35 → y.2.1 j = t.1 j) ∧ y.2.2 = t.2 ∧ JM y.2 ∧ (∀ i, i ≠ k.toInt.toNat → y.2.1 34 i = t.1 34 i) ∧ y.2.1 34 k.toInt.toNat = 100 * a + b ∧ (∀ i : Nat, i < 12 → x.2.1 193 i = y.2.1 35 i) ∧ ∀ i : Nat, i < 12 → y.2.1 35 i = if (i : Int) < y.1.toInt then (if t.1 35 i = f then v else t.1 35 i) else t.1 35 i) (fun F G n x y hs hrec => ?_) K9 K9 12 (0, κ) (0, gsI t 34 k.toInt.toNat (100 * a + b)) ⟨by dsimp only; omega, by dsimp only; omega, by dsimp only; omega, rfl, fun _ _ => rfl, fun j j1 j2 => gsI_row j1, rfl, JM_w h4 (Int32.le_toInt _) (Int32.toInt_le _), fun i hi => by dsimp only; rw [gsI_at, if_neg hi], by dsimp only; rw [gsI_at, if_pos rfl], fun i hi => by dsimp only; rw [gsI_row (by decide)]; exact h7 i hi, fun i hi => by dsimp only; rw [gsI_row (by decide), if_neg (by omega)]⟩ (by unfold K9; omega) (by unfold K9; omega)
  obtain ⟨i', ρ⟩ := x
  obtain ⟨i, u⟩ := y
  obtain ⟨hn, i0, i1, ei, p1, p2, p3, p4, p5, p6, p7, p8⟩ := hs
  dsimp only at hn i0 i1 ei p1 p2 p3 p4 p5 p6 p7 p8 ⊢
  subst ei
  unfold bX7_addBranch_144 bX10_treeOf_180
  by_cases hk : (12 : Int32) ≤ i'
  · have hk' := Int32.le_iff_toInt_le.mp hk
    rw [if_pos hk, if_pos hk, nm_eq]
    have all : ∀ j, j < 12 → u.1 35 j = if t.1 35 j = f then v else t.1 35 j := fun j hj => by rw [p8 j hj, if_pos (by omega)]
    obtain ⟨d1, d2, d3⟩ := nTv_dec (σ := t) (τ := u) h8 (a := a.toInt.toNat) (b := b.toInt.toNat) (by omega) (by omega) hf.symm hv.symm ne all
    have va := h11 a.toInt.toNat (by omega)
    rw [← hv] at va
    have fb := h11 b.toInt.toNat (by omega)
    rw [← hf] at fb
    refine go _ u ⟨fun j j1 j2 j3 j4 => by rw [gsI_row j1, p1 j j2]; exact h1 j j1 j2 j3 j4, fun j j1 j2 j3 => by rw [p2 j j1 j2]; exact h2 j j1 j2 j3, p3.trans h3, p4, by rw [gsI_at, if_pos rfl, p1 140 (by decide), h5], by omega, fun j hj => by rw [gsI_row (by decide)]; exact p7 j hj, d3, by omega, d2, fun j hj => ?_, fun j j0 j1 => ?_, fun c hc => ?_⟩
    · rw [all j (by omega)]
      by_cases z : t.1 35 j = f
      · rw [if_pos z]; exact va
      · rw [if_neg z]; exact h11 j hj
    · have q := h12 j j0 j1
      rw [all j j1, if_neg (fun z => by
        rw [q] at z
        rw [← z, iofNat_toInt (by omega)] at fb
        omega)]
      exact q
    · rw [gsI_row (show 194 ≠ 140 by decide), gsI_row (show 195 ≠ 140 by decide), p1 194 (by decide), p1 195 (by decide)]
      by_cases z : c = k.toInt.toNat
      · rw [z, p6, hab.1, hab.2]
        exact ⟨rfl, ⟨a0, a1⟩, b0, b1⟩
      · rw [p5 c z]
        exact h13 c (by omega)
  have hlt := q_gt hk
  have e1 := i_inc (a := i') (c := 60) (by omega) (by omega) (by decide)
  have gi := gb_of (i := i') (n := 12) i0 (by omega)
  have ua : u.1 35 a.toInt.toNat = v := by
    rw [p8 a.toInt.toNat (by omega)]
    by_cases z : (a.toInt.toNat : Int) < i'.toInt
    · rw [if_pos z, ← hv, if_neg ne]
    · rw [if_neg z, ← hv]
  have ui : u.1 35 i'.toInt.toNat = t.1 35 i'.toInt.toNat := by rw [p8 _ (by omega), if_neg (by omega)]
  have nx : ∀ ρ1 u1, (∀ j, j ≠ 193 → ρ1.1 j = ρ.1 j) → (∀ j, j ≠ 35 → u1.1 j = u.1 j) → u1.2 = u.2 → JM u1 → (∀ j : Nat, j < 12 → ρ1.1 193 j = u1.1 35 j) → (∀ j : Nat, j ≠ i'.toInt.toNat → u1.1 35 j = u.1 35 j) → u1.1 35 i'.toInt.toNat = (if t.1 35 i'.toInt.toNat = f then v else t.1 35 i'.toInt.toNat) → Re (F (i' + 1, ρ1)) (G (i' + 1, u1)) R := fun ρ1 u1 q1 q2 q3 q4 q5 q6 q7 => hrec (12 - (i' + 1).toInt).toNat (i' + 1, ρ1) (i' + 1, u1) (by omega) ⟨rfl, by dsimp only; omega, by dsimp only; omega, rfl, fun j hj => (q1 j hj).trans (p1 j hj), fun j j1 j2 => (q2 j j2).trans (p2 j j1 j2), q3.trans p3, q4, fun c hc => by dsimp only; rw [q2 34 (by decide)]; exact p5 c hc, by dsimp only; rw [q2 34 (by decide)]; exact p6, q5, fun c hc => by
    dsimp only
    by_cases z : c = i'.toInt.toNat
    · rw [z, q7, if_pos (show ((i'.toInt.toNat : Nat) : Int) < (i' + 1).toInt by omega)]
    · rw [q6 c z, p8 c hc]
      by_cases y : (c : Int) < i'.toInt
      · rw [if_pos y, if_pos (show (c : Int) < (i' + 1).toInt by omega)]
      · rw [if_neg y, if_neg (show ¬ (c : Int) < (i' + 1).toInt by omega)]⟩
  rw [if_neg hk, if_neg hk]
  simp only [nm_eq]
  rw [q_gd gi, q_gd gi, n_toInt, p7 _ (by omega), ui]
  by_cases z : t.1 35 i'.toInt.toNat = f
  · rw [if_pos z, q_gd gi, if_pos z, q_gd (gb_of a0 (by omega)), q_gd gi, n_toInt, ua]
    refine nx _ _ (fun j hj => gsI_row hj) (fun j hj => gsI_row hj) rfl (JM_w p4 (Int32.le_toInt _) (Int32.toInt_le _)) (fun j hj => ?_) (fun j hj => ?_) ?_
    · rw [gsI_at, gsI_at]
      by_cases y : j = i'.toInt.toNat
      · rw [if_pos y, if_pos y]
      · rw [if_neg y, if_neg y]; exact p7 j hj
    · rw [gsI_at, if_neg hj]
    · rw [gsI_at, if_pos rfl, if_pos z]
  · rw [if_neg z, if_neg z, q_gd gi]
    exact nx _ _ (fun _ _ => rfl) (fun _ _ => rfl) rfl p4 p7 (fun _ _ => rfl) (by rw [ui, if_neg z])
end P12ZZC
