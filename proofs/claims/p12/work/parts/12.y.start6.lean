/-! THE GEOMETRY: a start, 6: all is cleared; points are put -/
section P12Y6
theorem lp_to {S β : Type} {B : (S → Option β) → S → Option β} {I : Nat → S → Prop} {P : S → Prop} {E : S → Option β} (step : ∀ n s, I n s → (P s ∧ ∀ rec, B rec s = E s) ∨ ∃ m s', m < n ∧ I m s' ∧ ∀ rec, B rec s = rec s') : ∀ (N K : Nat) (s : S), I N s → N < K → ∃ t, P t ∧ lpc K B s = E t := by
  intro N
  induction N using Nat.strongRecOn with
  | _ N ih =>
    intro K s hI hK
    rw [lpc_pos (by omega)]
    rcases step N s hI with ⟨h1, h2⟩ | ⟨m, s', h1, h2, h3⟩
    · exact ⟨s, h1, h2 _⟩
    · rw [h3]
      exact ih m h1 (K - 1) s' h2 (by omega)
noncomputable def RC (σ s ρ : gS) : Prop := (∀ k, k ≠ 84 → k ≠ 50 → k ≠ 51 → k ≠ 53 → k ≠ 54 → k ≠ 56 → k ≠ 57 → k ≠ 48 → ρ.1 k = σ.1 k) ∧ ρ.2 = σ.2 ∧ (∀ i : Nat, i < 12 → ρ.1 84 i = 0) ∧ (∀ i : Nat, i < 12 → ρ.1 50 i = 0 ∧ ρ.1 51 i = 0) ∧ (∀ i : Nat, i < 20 → ρ.1 53 i = 0 ∧ ρ.1 54 i = 0) ∧ (∀ i : Nat, i < 6 → ρ.1 56 i = 0 ∧ ρ.1 57 i = 0) ∧ ∀ p : Nat, (p : Int) < (s.1 15 7).toInt → ρ.1 48 p = if s.1 17 (12 + p) = 4 then 0 else s.1 17 (12 + p)
theorem rs_step {σx x : gS} {rec : Int32 → gS → Option gS} {a : Int32} {P : gS → Prop} (ha : a = 0 ∨ a = 1) (k : ∀ y : gS, (∀ j, j ≠ 50 + a.toInt.toNat → j ≠ 53 + a.toInt.toNat → j ≠ 56 + a.toInt.toNat → y.1 j = x.1 j) → y.2 = x.2 → (∀ i : Nat, i < 12 → y.1 (50 + a.toInt.toNat) i = 0) → (∀ i : Nat, i < 20 → y.1 (53 + a.toInt.toNat) i = 0) → (∀ i : Nat, i < 6 → y.1 (56 + a.toInt.toNat) i = 0) → Ok (rec (a + 1) y) P) : Ok (bX6_reset_10 σx rec a x) P := by
  have g2 : gb a 2 = true := by rcases ha with rfl | rfl <;> decide
  unfold bX6_reset_10
  rw [if_neg (by rcases ha with rfl | rfl <;> decide), q_gd g2]
  refine ok_bd.mpr ((k_fill (σ := x) (c := 50 + a.toNatClampNeg) (v := 0) (n := 12) (by rcases ha with rfl | rfl <;> decide) (by rcases ha with rfl | rfl <;> decide) (by decide)).mono (fun b hb => ?_))
  obtain ⟨b1, b2, b3⟩ := hb
  rw [q_gd g2]
  refine ok_bd.mpr ((k_fill (σ := b) (c := 53 + a.toNatClampNeg) (v := 0) (n := 20) (by rcases ha with rfl | rfl <;> decide) (by rcases ha with rfl | rfl <;> decide) (by decide)).mono (fun c hc => ?_))
  obtain ⟨c1, c2, c3⟩ := hc
  rw [q_gd g2]
  refine ok_bd.mpr ((k_fill (σ := c) (c := 56 + a.toNatClampNeg) (v := 0) (n := 6) (by rcases ha with rfl | rfl <;> decide) (by rcases ha with rfl | rfl <;> decide) (by decide)).mono (fun d hd => ?_))
  obtain ⟨d1, d2, d3⟩ := hd
  rw [nm_eq]
  rw [n_toInt] at b1 b3 c1 c3 d1 d3
  have aa : a.toInt.toNat ≤ 1 := by rcases ha with rfl | rfl <;> decide
  refine k d (fun j j1 j2 j3 => by rw [d1 j j3, c1 j j2, b1 j j1]) (by rw [d2, c2, b2]) (fun i hi => ?_) (fun i hi => ?_) d3
  · rw [d1 _ (by omega), c1 _ (by omega)]
    exact b3 i hi
  · rw [d1 _ (by omega)]
    exact c3 i hi
theorem k_reset {σ s : gS} (h : TRd σ s) (n0 : 0 ≤ (s.1 15 7).toInt) (n1 : (s.1 15 7).toInt ≤ 12) : Ok (fX6_reset σ) (RC σ s) := by
  have z0' := z0
  unfold fX6_reset
  refine ok_bd.mpr ((k_fill (σ := σ) (c := 84) (v := 0) (n := 12) (by decide) (by decide) (by decide)).mono (fun a ha => ?_))
  obtain ⟨a1, a2, a3⟩ := ha
  refine ok_nm.mpr ?_
  rw [lpc_pos (by unfold K9; omega)]
  refine rs_step (a := 0) (.inl rfl) (fun d d1 d2 b3 c3 d3 => ?_)
  rw [lpc_pos (by unfold K9; omega)]
  refine rs_step (a := 1) (.inr rfl) (fun g g1 g2 e3 f3 g3 => ?_)
  rw [n_0] at d1 b3 c3 d3
  rw [n_1] at g1 e3 f3 g3
  rw [lpc_pos (by unfold K9; omega)]
  have s2 : ∀ rec : Int32 × gS → Option gS, bX6_reset_10 a (fun a1 σ1 => rec (a1, σ1)) 2 g = lpc (S := Int32 × gS) K9 (fun rec s => bX6_reset_62 g (fun a1 σ1 => rec (a1, σ1)) s.1 s.2) (0, g) := fun rec => by
    unfold bX6_reset_10
    rw [if_pos (by decide), nm_eq]
  show Ok (bX6_reset_10 a _ 2 g) _
  rw [s2]
  have fr : ∀ k, k ≠ 84 → k ≠ 50 → k ≠ 51 → k ≠ 53 → k ≠ 54 → k ≠ 56 → k ≠ 57 → g.1 k = σ.1 k := fun k k1 k2 k3 k4 k5 k6 k7 => by rw [g1 k k3 k5 k7, d1 k k2 k4 k6, a1 k k1]
  refine ok_lpc (I := fun (m : Nat) (t : Int32 × gS) => m = ((s.1 15 7).toInt - t.1.toInt).toNat ∧ 0 ≤ t.1.toInt ∧ t.1.toInt ≤ (s.1 15 7).toInt ∧ (∀ k, k ≠ 48 → t.2.1 k = g.1 k) ∧ t.2.2 = g.2 ∧ ∀ p : Nat, (p : Int) < t.1.toInt → t.2.1 48 p = if s.1 17 (12 + p) = 4 then 0 else s.1 17 (12 + p)) (fun rec m t hs hrec => ?_) K9 (s.1 15 7).toInt.toNat (0, g) ⟨by dsimp only; omega, by dsimp only; omega, by dsimp only; omega, fun _ _ => rfl, rfl, fun q hq => absurd hq (by dsimp only; omega)⟩ (by unfold K9; omega)
  obtain ⟨p, τ⟩ := t
  obtain ⟨hm, p0, p1, h1, h2, h3⟩ := hs
  dsimp only at hm p0 p1 h1 h2 h3 ⊢
  unfold bX6_reset_62
  have e7 : τ.1 3 ((1 : Int32).toNatClampNeg) = s.1 15 7 := by
    rw [h1 3 (by decide), fr 3 (by decide) (by decide) (by decide) (by decide) (by decide) (by decide) (by decide)]
    exact (tr_n h).2.2.1
  rw [q_gd (by decide), nm_eq, e7]
  refine ok_ite.mpr ⟨fun hk => ok_some.mpr ?_, fun hk => ?_⟩
  · have hk' := Int32.le_iff_toInt_le.mp hk
    refine ⟨fun k k1 k2 k3 k4 k5 k6 k7 k8 => by rw [h1 k k8, fr k k1 k2 k3 k4 k5 k6 k7], by rw [h2, g2, d2, a2], fun i hi => ?_, fun i hi => ⟨?_, ?_⟩, fun i hi => ⟨?_, ?_⟩, fun i hi => ⟨?_, ?_⟩, fun q hq => h3 q (by omega)⟩
    · rw [h1 84 (by decide), g1 84 (by decide) (by decide) (by decide), d1 84 (by decide) (by decide) (by decide)]
      exact a3 i hi
    · rw [h1 50 (by decide), g1 50 (by decide) (by decide) (by decide)]
      exact b3 i hi
    · rw [h1 51 (by decide)]
      exact e3 i hi
    · rw [h1 53 (by decide), g1 53 (by decide) (by decide) (by decide)]
      exact c3 i hi
    · rw [h1 54 (by decide)]
      exact f3 i hi
    · rw [h1 56 (by decide), g1 56 (by decide) (by decide) (by decide)]
      exact d3 i hi
    · rw [h1 57 (by decide)]
      exact g3 i hi
  have hlt := q_gt hk
  have ei := i_inc (a := p) (c := 60) (by omega) (by omega) (by decide)
  have gp := gb_of (i := p) (n := 12) p0 (by omega)
  have e9 : τ.1 9 p.toInt.toNat = s.1 17 (12 + p.toInt.toNat) := by
    rw [h1 9 (by decide), fr 9 (by decide) (by decide) (by decide) (by decide) (by decide) (by decide) (by decide)]
    exact (h.2.2.1 p.toInt.toNat (by omega)).2.1
  have go : ∀ v : Int32, v = (if s.1 17 (12 + p.toInt.toNat) = 4 then 0 else s.1 17 (12 + p.toInt.toNat)) → Ok (rec (p + 1, gsI τ 48 p.toInt.toNat v)) (RC σ s) := fun v hv => by
    refine hrec ((s.1 15 7).toInt - (p + 1).toInt).toNat _ (by omega) ⟨rfl, by dsimp only; omega, by dsimp only; omega, fun k hk => (gsI_row hk).trans (h1 k hk), h2, fun q hq => ?_⟩
    dsimp only at hq ⊢
    rw [gsI_at]
    by_cases z : q = p.toInt.toNat
    · rw [if_pos z, hv, z]
    · rw [if_neg z]
      exact h3 q (by omega)
  rw [q_gd gp, nm_eq, n_toInt, e9]
  by_cases t4 : s.1 17 (12 + p.toInt.toNat) = 4
  · rw [if_pos t4, q_gd gp, nm_eq, nm_eq]
    exact go 0 (by rw [if_pos t4])
  · rw [if_neg t4, q_gd gp, nm_eq, q_gd gp, nm_eq, nm_eq]
    exact go _ (by rw [if_neg t4])
noncomputable def RZ (s t : gS) : Prop := (∀ k, k ≠ 27 → k ≠ 28 → k ≠ 29 → t.1 k = s.1 k) ∧ t.2 = s.2 ∧ (∀ i : Nat, i < 76 → t.1 28 i = 0) ∧ ∀ p : Nat, p < 12 → (t.1 27 p = if s.1 17 (12 + p) = 4 then 0 else s.1 17 (12 + p)) ∧ t.1 29 p = if p = 0 then 1 else 0
theorem m_reset (s : gS) : ∃ t, RZ s t ∧ fX10_starts s = lpc (S := Int32 × gS) K9 (fun rec s' => bX10_starts_89 t (fun a1 σ1 => rec (a1, σ1)) s'.1 s'.2) (if s.1 15 7 = 0 then 0 else 1, t) := by
  have z0' := z0
  have l12 : (12 : Int32).toInt = 12 := by decide
  have l76 : (76 : Int32).toInt = 76 := by decide
  obtain ⟨⟨x, u⟩, ⟨u1, u2, u3⟩, eu⟩ := lp_to (B := fun rec s' => bX10_starts_2 s (fun a1 σ1 => rec (a1, σ1)) s'.1 s'.2) (I := fun (n : Nat) (t : Int32 × gS) => n = (76 - t.1.toInt).toNat ∧ 0 ≤ t.1.toInt ∧ t.1.toInt ≤ 76 ∧ (∀ k, k ≠ 28 → t.2.1 k = s.1 k) ∧ t.2.2 = s.2 ∧ ∀ i : Nat, (i : Int) < t.1.toInt → t.2.1 28 i = 0) (P := fun t => (∀ k, k ≠ 28 → t.2.1 k = s.1 k) ∧ t.2.2 = s.2 ∧ ∀ i : Nat, i < 76 → t.2.1 28 i = 0) (E := fun t => lpc (S := Int32 × gS) K9 (fun rec s' => bX10_starts_23 t.2 (fun a1 σ1 => rec (a1, σ1)) s'.1 s'.2) (0, t.2)) (fun n t hs => by
    obtain ⟨a, τ⟩ := t
    obtain ⟨hn, a0, a1, h1, h2, h3⟩ := hs
    dsimp only at hn a0 a1 h1 h2 h3 ⊢
    by_cases hk : 76 ≤ a
    · have hk' := Int32.le_iff_toInt_le.mp hk
      refine .inl ⟨⟨h1, h2, fun i hi => h3 i (by omega)⟩, fun rec => ?_⟩
      unfold bX10_starts_2
      rw [if_pos hk, nm_eq]
    · have hlt := q_gt hk
      have ei := i_inc (a := a) (c := 80) (by omega) (by omega) (by decide)
      refine .inr ⟨(76 - (a + 1).toInt).toNat, (a + 1, gsI τ 28 a.toInt.toNat 0), by omega, ⟨rfl, by dsimp only; omega, by dsimp only; omega, fun k hk => (gsI_row hk).trans (h1 k hk), h2, fun i hi => ?_⟩, fun rec => ?_⟩
      · dsimp only at hi ⊢
        rw [gsI_at]
        by_cases z : i = a.toInt.toNat
        · rw [if_pos z]
        · rw [if_neg z]
          exact h3 i (by omega)
      · unfold bX10_starts_2
        rw [if_neg hk, q_gd (gb_of (by omega) (by omega)), nm_eq, nm_eq]
        rfl) 76 K9 (0, s) ⟨by dsimp only; omega, by dsimp only; omega, by dsimp only; omega, fun _ _ => rfl, rfl, fun i hi => absurd hi (by dsimp only; omega)⟩ (by unfold K9; omega)
  dsimp only at u1 u2 u3 eu
  obtain ⟨⟨y, t⟩, t1, et⟩ := lp_to (B := fun rec s' => bX10_starts_23 u (fun a1 σ1 => rec (a1, σ1)) s'.1 s'.2) (I := fun (n : Nat) (t : Int32 × gS) => n = (12 - t.1.toInt).toNat ∧ 0 ≤ t.1.toInt ∧ t.1.toInt ≤ 12 ∧ (∀ k, k ≠ 27 → k ≠ 29 → t.2.1 k = u.1 k) ∧ t.2.2 = u.2 ∧ ∀ p : Nat, (p : Int) < t.1.toInt → (t.2.1 27 p = if s.1 17 (12 + p) = 4 then 0 else s.1 17 (12 + p)) ∧ t.2.1 29 p = if p = 0 then 1 else 0) (P := fun t => RZ s t.2) (E := fun t => lpc (S := Int32 × gS) K9 (fun rec s' => bX10_starts_89 t.2 (fun a1 σ1 => rec (a1, σ1)) s'.1 s'.2) (if s.1 15 7 = 0 then 0 else 1, t.2)) (fun n t hs => by
    obtain ⟨a, τ⟩ := t
    obtain ⟨hn, a0, a1, h1, h2, h3⟩ := hs
    dsimp only at hn a0 a1 h1 h2 h3 ⊢
    by_cases hk : 12 ≤ a
    · have hk' := Int32.le_iff_toInt_le.mp hk
      refine .inl ⟨⟨fun k k1 k2 k3 => (h1 k k1 k3).trans (u1 k k2), h2.trans u2, fun i hi => by rw [h1 28 (by decide) (by decide)]; exact u3 i hi, fun p hp => h3 p (by omega)⟩, fun rec => ?_⟩
      unfold bX10_starts_23
      rw [if_pos hk, q_bd (m_pictures τ), h1 15 (by decide) (by decide), u1 15 (by decide)]
      by_cases z : s.1 15 7 = 0
      · rw [if_pos z, if_pos z, nm_eq]
      · rw [if_neg z, if_neg z, nm_eq]
    · have hlt := q_gt hk
      have ei := i_inc (a := a) (c := 80) (by omega) (by omega) (by decide)
      have ga := gb_of (i := a) (n := 12) a0 (by omega)
      have e12 : (12 + a).toInt = 12 + a.toInt := by rw [iadd_toInt] <;> omega
      have n12 : (12 + a).toNatClampNeg = 12 + a.toInt.toNat := n_add (k := 12) (by decide) a0 (by omega)
      obtain ⟨v, hv⟩ : ∃ v, v = (if s.1 17 (12 + a.toInt.toNat) = 4 then 0 else s.1 17 (12 + a.toInt.toNat)) := ⟨_, rfl⟩
      obtain ⟨b, hb⟩ : ∃ b : Int32, b = (if a.toInt.toNat = 0 then 1 else 0) := ⟨_, rfl⟩
      refine .inr ⟨(12 - (a + 1).toInt).toNat, (a + 1, gsI (gsI τ 27 a.toInt.toNat v) 29 a.toInt.toNat b), by omega, ⟨rfl, by dsimp only; omega, by dsimp only; omega, fun k k1 k2 => by rw [gsI_row k2, gsI_row k1]; exact h1 k k1 k2, h2, fun p hp => ?_⟩, fun rec => ?_⟩
      · dsimp only at hp ⊢
        rw [gsI_row (show 27 ≠ 29 by decide), gsI_at, gsI_at, gsI_row (show 29 ≠ 27 by decide)]
        by_cases z : p = a.toInt.toNat
        · rw [if_pos z, if_pos z, hv, hb, z]
          exact ⟨rfl, rfl⟩
        · rw [if_neg z, if_neg z]
          exact h3 p (by omega)
      · have j : ∀ w : Int32, w = v → jX10_starts_54 τ (fun a1 σ1 => rec (a1, σ1)) a w a = rec (a + 1, gsI (gsI τ 27 a.toInt.toNat v) 29 a.toInt.toNat b) := fun w hw => by
          unfold jX10_starts_54
          rw [q_gd ga, nm_eq, n_toInt, hw]
          by_cases z : a = 0
          · have z' : a.toInt.toNat = 0 := by rw [z]; decide
            rw [if_pos z, q_gd ga, nm_eq, nm_eq, nb1, hb, if_pos z']
          · have z' : ¬ a.toInt.toNat = 0 := fun y => z (Int32.toInt_inj.mp (by omega))
            rw [if_neg z, q_gd ga, nm_eq, nm_eq, nb0, hb, if_neg z']
        unfold bX10_starts_23
        rw [if_neg hk, q_gd (gb_of (by omega) (by omega)), nm_eq, nm_eq, n12, h1 17 (by decide) (by decide), u1 17 (by decide)]
        by_cases t4 : s.1 17 (12 + a.toInt.toNat) = 4
        · rw [if_pos t4]
          exact j 0 (by rw [hv, if_pos t4])
        · rw [if_neg t4]
          exact j _ (by rw [hv, if_neg t4])) 12 K9 (0, u) ⟨by dsimp only; omega, by dsimp only; omega, by dsimp only; omega, fun _ _ _ => rfl, rfl, fun i hi => absurd hi (by dsimp only; omega)⟩ (by unfold K9; omega)
  dsimp only at t1 et
  refine ⟨t, t1, ?_⟩
  unfold fX10_starts
  rw [nm_eq]
  exact eu.trans et
/-- where rows put a point at a start's end -/
noncomputable def PVd (t : gS) (d k q : Nat) (a : Int32) : Int32 := if fI (srB t (Int32.ofNat q)) d k = -1 then 0 else puO t (fI (srB t (Int32.ofNat q)) d k).toInt.toNat a
theorem PVd_t {t : gS} {d k q : Nat} {a : Int32} (hk : k < 1000) (h : srB t (Int32.ofNat q) k = true) : PVd t (d + 1) k q a = puO t k a := by
  unfold PVd
  rw [fI_t h, if_neg (ofN_m1 (by omega)), iofNat_toInt (by omega)]
  rfl
theorem PVd_f {t : gS} {d k q : Nat} {a : Int32} (h : ¬ srB t (Int32.ofNat q) k = true) : PVd t (d + 1) k q a = PVd t d (k + 1) q a := by
  unfold PVd
  rw [fI_f h]
noncomputable def PUT (σ t τ : gS) (d k : Nat) : Prop := (∀ j, j ≠ 53 → j ≠ 54 → τ.1 j = σ.1 j) ∧ τ.2 = σ.2 ∧ ∀ q : Nat, (q : Int) < (t.1 15 8).toInt → τ.1 53 q = PVd t d k q 0 ∧ τ.1 54 q = PVd t d k q 1
theorem k_putPoints {σ t : gS} (h : SP9 σ t) (zz : ∀ i : Nat, i < 20 → σ.1 53 i = 0 ∧ σ.1 54 i = 0) (al : ∀ p : Nat, (p : Int) < (t.1 15 7).toInt → ¬ t.1 29 p = 0) : Ok (fX6_putPoints σ) (fun τ => ∃ μ, PUT σ t μ (t.1 15 9).toInt.toNat 0 ∧ (∀ k, k ≠ 53 → k ≠ 54 → τ.1 k = μ.1 k) ∧ τ.2 = μ.2 ∧ ∀ q : Nat, (q : Int) < (t.1 15 8).toInt → PF μ q τ) := by
  obtain ⟨b9, b8, b7, b6⟩ := h.2.1.1
  have z0' := z0
  have l1 : (1 : Int32).toInt = 1 := by decide
  have lm1 : (-1 : Int32).toInt = -1 := by decide
  have e3 : σ.1 3 ((3 : Int32).toNatClampNeg) = t.1 15 9 := (tr_n h.1).1
  obtain ⟨v, hv⟩ : ∃ v, v = t.1 15 9 - 1 := ⟨_, rfl⟩
  have e1 : v.toInt = (t.1 15 9).toInt - 1 := by rw [hv, isub_toInt] <;> omega
  unfold fX6_putPoints
  rw [q_gd (by decide), nm_eq, nm_eq, e3, ← hv]
  clear hv
  refine ok_lpc (I := fun (n : Nat) (u : Int32 × gS) => n = (u.1.toInt + 1).toNat ∧ -1 ≤ u.1.toInt ∧ u.1.toInt < (t.1 15 9).toInt ∧ PUT σ t u.2 ((t.1 15 9).toInt.toNat - n) n) (fun rec n u hs hrec => ?_) K9 (t.1 15 9).toInt.toNat (v, σ) ⟨by dsimp only; omega, by dsimp only; omega, by dsimp only; omega, fun j _ _ => rfl, rfl, fun q hq => ?_⟩ (by unfold K9; omega)
  · obtain ⟨a, τ⟩ := u
    obtain ⟨hn, a0, a1, hL⟩ := hs
    dsimp only at hn a0 a1 hL ⊢
    unfold bX6_putPoints_12
    refine ok_ite.mpr ⟨fun hk => ?_, fun hk => ?_⟩
    · have hk' := Int32.lt_iff_toInt_lt.mp hk
      have : n = 0 := by omega
      rw [this] at hL
      refine ok_bd.mpr ((k_placeFixed (σ := τ) (n := t.1 15 8) (by rw [hL.1 3 (by decide) (by decide)]; exact (tr_n h.1).2.1) b8.1 b8.2).mono (fun μ hμ => ok_some.mpr ⟨τ, hL, hμ⟩))
    have hk' : 0 ≤ a.toInt := by
      rcases lt_or a 0 with ⟨y, -⟩ | ⟨-, y⟩
      · exact absurd y hk
      · omega
    have hτ : SP9 τ t := SP_c h (fun k hk => hL.1 k (by omega) (by omega))
    obtain ⟨b, hb⟩ : ∃ b, b = a + (-1) := ⟨_, rfl⟩
    have e2 : b.toInt = a.toInt - 1 := by rw [hb, iadd_toInt] <;> omega
    clear e1
    have en : n = a.toInt.toNat + 1 := by omega
    have W := h.2.1.2.1 a.toInt.toNat (by omega)
    have R := hτ.1.2.2.2.2 a.toInt.toNat (by omega)
    rw [en] at hL
    rw [q_bd (c_usesK τ hk' (by omega)), hτ.2.2.2.2.1 a.toInt.toNat (by omega)]
    by_cases u : t.1 26 a.toInt.toNat = 0
    · obtain ⟨Q, hQ⟩ : ∃ Q, Q = qO t a.toInt.toNat := ⟨_, rfl⟩
      have hQ2 : (t.1 23 (60 + a.toInt.toNat)).toNatClampNeg = Q := by rw [hQ]; rfl
      have f : ¬ t.1 29 (pO t a.toInt.toNat) = 0 := al _ (by unfold pO; omega)
      rw [if_pos u, if_neg one_ne, q_gd (by decide), q_gd (gb_of (by omega) (by omega)), nm_eq, n_toInt, R.2.1]
      have p0 := k_put hτ (r := a) (a := 0) hk' a1 (by decide) (by decide)
      rw [q_bd p0, q_gd (gb_of (by omega) (by omega)), nm_eq, hQ2, q_gd (by decide), q_gd (gb_of (by omega) (by omega)), nm_eq, gsI_row (show 11 ≠ 53 by decide), R.2.1]
      have p1 := k_put (SP_c (τ := gsI τ 53 Q (puO t a.toInt.toNat 0)) hτ (fun k hk => gsI_row (by omega))) (r := a) (a := 1) hk' a1 (by decide) (by decide)
      rw [q_bd p1, q_gd (gb_of (by omega) (by omega)), nm_eq, nm_eq, hQ2, ← hb]
      clear hb
      refine hrec a.toInt.toNat (b, _) (by omega) ⟨by dsimp only; omega, by dsimp only; omega, by dsimp only; omega, fun j j1 j2 => ?_, hL.2.1, fun q hq => ?_⟩
      · show (gsI (gsI τ 53 Q _) 54 Q _).1 j = _
        rw [gsI_row j2, gsI_row j1]
        exact hL.1 j j1 j2
      · show (gsI (gsI τ 53 Q _) 54 Q _).1 53 q = _ ∧ (gsI (gsI τ 53 Q _) 54 Q _).1 54 q = _
        rw [gsI_row (show 53 ≠ 54 by decide), gsI_at, gsI_at, gsI_row (show 54 ≠ 53 by decide)]
        rw [show (t.1 15 9).toInt.toNat - a.toInt.toNat = (t.1 15 9).toInt.toNat - (a.toInt.toNat + 1) + 1 by omega]
        by_cases z : q = Q
        · have hc : srB t (Int32.ofNat q) a.toInt.toNat = true := decide_eq_true ⟨u, by rw [z, hQ]; exact (i32_of W.2.1.1).symm, f⟩
          rw [if_pos z, if_pos z, PVd_t (by omega) hc, PVd_t (by omega) hc]
          exact ⟨rfl, rfl⟩
        · have hc : ¬ srB t (Int32.ofNat q) a.toInt.toNat = true := fun y => by
            have y2 := (of_decide_eq_true y).2.1
            refine z ?_
            rw [hQ]
            unfold qO
            rw [y2, iofNat_toInt (by omega)]
            omega
          rw [if_neg z, if_neg z, PVd_f hc, PVd_f hc]
          exact hL.2.2 q hq
    · rw [if_neg u, if_pos rfl, nm_eq, ← hb]
      clear hb
      refine hrec a.toInt.toNat (b, _) (by omega) ⟨by dsimp only; omega, by dsimp only; omega, by dsimp only; omega, hL.1, hL.2.1, fun q hq => ?_⟩
      rw [show (t.1 15 9).toInt.toNat - a.toInt.toNat = (t.1 15 9).toInt.toNat - (a.toInt.toNat + 1) + 1 by omega]
      have hc : ¬ srB t (Int32.ofNat q) a.toInt.toNat = true := fun y => u (of_decide_eq_true y).1
      rw [PVd_f hc, PVd_f hc]
      exact hL.2.2 q hq
  · rw [Nat.sub_self]
    exact zz q (by omega)
/-- the reference's points at a start's end -/
noncomputable def PO (t o : gS) (m : Nat) : Prop := (∀ k, k ≠ 28 → o.1 k = t.1 k) ∧ o.2 = t.2 ∧ (∀ i, i < 12 ∨ (32 ≤ i ∧ i < 50) ∨ 70 ≤ i → o.1 28 i = t.1 28 i) ∧ ∀ q : Nat, q < m → o.1 28 (12 + q) = PVd t (t.1 15 9).toInt.toNat 0 q 0 ∧ o.1 28 (50 + q) = PVd t (t.1 15 9).toInt.toNat 0 q 1
theorem m_points133 {t : gS} (w : WF t) (al : Int32) : Ok (lpc (S := Int32 × gS) K9 (fun rec s' => bX10_starts_133 t al (fun a2 σ1 => rec (a2, σ1)) s'.1 s'.2) (0, t)) (fun o => o.1 = al ∧ ∃ μ, PO t μ (t.1 15 8).toInt.toNat ∧ (∀ k, k ≠ 28 → o.2.1 k = μ.1 k) ∧ o.2.2 = μ.2 ∧ (∀ i, i < 12 ∨ (32 ≤ i ∧ i < 50) ∨ 70 ≤ i → o.2.1 28 i = μ.1 28 i) ∧ ∀ q : Nat, (q : Int) < (μ.1 15 8).toInt → SC μ q o.2) := by
  obtain ⟨b9, b8, b7, b6⟩ := w.1
  have z0' := z0
  have l12 : (12 : Int32).toInt = 12 := by decide
  have l2 : (2 : Int32).toInt = 2 := by decide
  refine ok_lpc (I := fun (m : Nat) (u : Int32 × gS) => m = ((t.1 15 8).toInt - u.1.toInt).toNat ∧ 0 ≤ u.1.toInt ∧ u.1.toInt ≤ (t.1 15 8).toInt ∧ PO t u.2 u.1.toInt.toNat) (fun rec m u hs hrec => ?_) K9 (t.1 15 8).toInt.toNat (0, t) ⟨by dsimp only; omega, by dsimp only; omega, by dsimp only; omega, fun _ _ => rfl, rfl, fun _ _ => rfl, fun q hq => absurd hq (by dsimp only; omega)⟩ (by unfold K9; omega)
  obtain ⟨a, τ⟩ := u
  obtain ⟨hm, a0, a1, hL⟩ := hs
  dsimp only at hm a0 a1 hL ⊢
  unfold bX10_starts_133
  have h1 := hL.1
  have wτ : WF τ := WF_eq w (fun k _ k2 => h1 k k2)
  rw [q_bd (m_points τ), h1 15 (by decide)]
  refine ok_ite.mpr ⟨fun hk => ?_, fun hk => ?_⟩
  · have hk' := Int32.le_iff_toInt_le.mp hk
    have e15 : τ.1 15 8 = t.1 15 8 := by rw [h1 15 (by decide)]
    refine ok_bd.mpr ((m_standControls (s := τ) (by rw [e15]; exact b8.1) (by rw [e15]; exact b8.2)).mono (fun μ hμ => ok_some.mpr ⟨rfl, τ, ?_, hμ.1, hμ.2.1, hμ.2.2.1, hμ.2.2.2⟩))
    rw [show a.toInt.toNat = (t.1 15 8).toInt.toNat by omega] at hL
    exact hL
  have hlt := q_gt hk
  have ei := i_inc (a := a) (c := 60) (by omega) (by omega) (by decide)
  obtain ⟨Q, hQ⟩ : ∃ Q, Q = a.toInt.toNat := ⟨_, rfl⟩
  have eQ : Int32.ofNat Q = a := by rw [hQ]; exact i32_of a0
  -- the two axes
  have ax : ∀ v : Int32, v = SR9 t a → lpc (S := Int32 × gS) K9 (fun rec1 s' => bX10_starts_161 τ al a v (fun a2 σ1 => rec (a2, σ1)) (fun a4 σ1 => rec1 (a4, σ1)) s'.1 s'.2) (0, τ) = rec (a + 1, gsI (gsI τ 28 (12 + Q) (PVd t (t.1 15 9).toInt.toNat 0 Q 0)) 28 (50 + Q) (PVd t (t.1 15 9).toInt.toNat 0 Q 1)) := fun v hv => by
    have hv2 : fI (srB t (Int32.ofNat Q)) (t.1 15 9).toInt.toNat 0 = v := by rw [eQ, hv]; rfl
    have st : ∀ (rec1 : Int32 × gS → Option (Int32 × gS)) (ρ : gS) (b : Int32), b = 0 ∨ b = 1 → (∀ k, k ≠ 28 → ρ.1 k = t.1 k) → (∀ i, i < 12 ∨ (38 ≤ i ∧ i < 50) → ρ.1 28 i = t.1 28 i) → bX10_starts_161 τ al a v (fun a2 σ1 => rec (a2, σ1)) (fun a4 σ1 => rec1 (a4, σ1)) b ρ = rec1 (b + 1, gsI ρ 28 (38 * b.toInt.toNat + 12 + Q) (PVd t (t.1 15 9).toInt.toNat 0 Q b)) := fun rec1 ρ b hb hρ h28 => by
      have b00 : 0 ≤ b.toInt := by rcases hb with rfl | rfl <;> decide
      have b11 : b.toInt ≤ 1 := by rcases hb with rfl | rfl <;> decide
      have y1 := ix_38b (a := b) (x := 12) (y := a) b00 b11 l12 (by decide) (by decide) rfl a0 (by omega)
      have y2 : (38 * b + 12 + a).toNatClampNeg = 38 * b.toInt.toNat + 12 + Q := by rw [n_toInt]; omega
      have gg := gb_of (i := 38 * b + 12 + a) (n := 76) (by omega) (by omega)
      unfold bX10_starts_161 PVd
      rw [if_neg (q_nle (by omega)), hv2]
      by_cases z : v = -1
      · rw [if_pos z, if_pos z, q_gd gg, nm_eq, nm_eq, y2]
      · have wρ : WF ρ := WF_eq w (fun k _ k2 => hρ k k2)
        have hin : ∃ j : Nat, (j : Int) < (t.1 15 9).toInt ∧ v = Int32.ofNat j := by
          rw [hv] at z ⊢
          unfold SR9 at z ⊢
          rcases fI_spec (srB t a) (t.1 15 9).toInt.toNat 0 (by omega) with ⟨y, -⟩ | ⟨j, j0, j1, j2, j3, j4⟩
          · exact absurd y z
          · exact ⟨j, by omega, Int32.toInt_inj.mp (by rw [j3, iofNat_toInt (by omega)])⟩
        obtain ⟨j, j1, j2⟩ := hin
        have ej : (Int32.ofNat j).toInt.toNat = j := by rw [iofNat_toInt (by omega)]; omega
        have pe : puO ρ j b = puO t j b := by
          have W := (w.2.1 j j1).1
          unfold puO tO
          have : pO ρ j = pO t j := by unfold pO; rw [hρ 22 (by decide)]
          rw [this, hρ 27 (by decide), hρ 24 (by decide), h28 _ (by unfold pO; rcases hb with rfl | rfl; (rw [n_0]; omega); (rw [n_1]; omega))]
        rw [if_neg z, if_neg z, j2, q_bd (pu_M wρ (by rw [hρ 15 (by decide)]; exact j1) b00 b11), q_gd gg, nm_eq, nm_eq, y2, pe, ej]
    refine lp_2 (s1 := (1, gsI τ 28 (12 + Q) (PVd t (t.1 15 9).toInt.toNat 0 Q 0))) (s2 := (2, gsI (gsI τ 28 (12 + Q) (PVd t (t.1 15 9).toInt.toNat 0 Q 0)) 28 (50 + Q) (PVd t (t.1 15 9).toInt.toNat 0 Q 1))) (fun rec1 => ?_) (fun rec1 => ?_) (fun rec1 => ?_)
    · have := st rec1 τ 0 (.inl rfl) h1 (fun i hi => hL.2.2.1 i (by omega))
      rw [n_0, show 38 * 0 + 12 + Q = 12 + Q by omega] at this
      exact this
    · have := st rec1 (gsI τ 28 (12 + Q) (PVd t (t.1 15 9).toInt.toNat 0 Q 0)) 1 (.inr rfl) (fun k hk => by rw [gsI_row hk]; exact h1 k hk) (fun i hi => by rw [gsI_at, if_neg (by omega)]; exact hL.2.2.1 i (by omega))
      rw [n_1, show 38 * 1 + 12 + Q = 50 + Q by omega] at this
      exact this
    · show bX10_starts_161 τ al a v _ _ 2 _ = _
      unfold bX10_starts_161
      rw [if_pos (by decide), nm_eq]
  have go : Ok (rec (a + 1, gsI (gsI τ 28 (12 + Q) (PVd t (t.1 15 9).toInt.toNat 0 Q 0)) 28 (50 + Q) (PVd t (t.1 15 9).toInt.toNat 0 Q 1))) (fun o => o.1 = al ∧ ∃ μ, PO t μ (t.1 15 8).toInt.toNat ∧ (∀ k, k ≠ 28 → o.2.1 k = μ.1 k) ∧ o.2.2 = μ.2 ∧ (∀ i, i < 12 ∨ (32 ≤ i ∧ i < 50) ∨ 70 ≤ i → o.2.1 28 i = μ.1 28 i) ∧ ∀ q : Nat, (q : Int) < (μ.1 15 8).toInt → SC μ q o.2) := by
    refine hrec ((t.1 15 8).toInt - (a + 1).toInt).toNat _ (by omega) ⟨rfl, by dsimp only; omega, by dsimp only; omega, fun k hk => by rw [gsI_row hk, gsI_row hk]; exact h1 k hk, hL.2.1, fun i hi => ?_, fun q hq => ?_⟩
    · rw [gsI_at, if_neg (by omega), gsI_at, if_neg (by omega)]
      exact hL.2.2.1 i hi
    · dsimp only at hq
      rw [gsI_at, gsI_at, gsI_at, gsI_at]
      by_cases z : q = Q
      · rw [if_neg (show ¬ 12 + q = 50 + Q by omega), if_pos (show 12 + q = 12 + Q by omega), if_pos (show 50 + q = 50 + Q by omega), z]
        exact ⟨rfl, rfl⟩
      · rw [if_neg (show ¬ 12 + q = 50 + Q by omega), if_neg (show ¬ 12 + q = 12 + Q by omega), if_neg (show ¬ 50 + q = 50 + Q by omega), if_neg (show ¬ 50 + q = 12 + Q by omega)]
        exact hL.2.2.2 q (by omega)
  rw [q_bd (m_pictures τ), h1 15 (by decide)]
  have sre : SR9 τ a = SR9 t a := SR9_eq (fun k hk => h1 k (by omega)) a
  by_cases z7 : t.1 15 7 = 0
  · have n9 : (t.1 15 9).toInt.toNat = 0 := by
      by_cases z : (t.1 15 9).toInt = 0
      · omega
      · have W := (w.2.1 0 (by omega)).1
        rw [z7] at W
        omega
    rw [if_pos z7, nm_eq, nm_eq, ax (-1) (by unfold SR9; rw [n9]; rfl)]
    exact go
  · rw [if_neg z7, q_bd (m9_startedRow wτ a), nm_eq, nm_eq, ax _ sre]
    exact go
end P12Y6
