/-! THE GEOMETRY: a start, 4: a picture started by others, on both sides -/
section P12Y4
theorem TR_k {σ s τ t : gS} (h : TRd σ s) (a : ∀ k, k < 47 → τ.1 k = σ.1 k) (b : ∀ k, 14 ≤ k → k ≤ 25 → t.1 k = s.1 k) (c : t.2 = s.2) : TRd τ t :=
  TR_eq h (fun k hk => a k (by simp at hk; omega)) (fun k i h1 h2 _ => ⟨by rw [b k h1 h2], by rw [c]⟩)
theorem RW9_eq {s t : gS} (b : ∀ k, k = 15 ∨ k = 22 ∨ k = 23 ∨ k = 26 → t.1 k = s.1 k) (p q : Int32) : RW9 t p q = RW9 s p q := by
  unfold RW9 roB
  rw [b 15 (by decide), b 22 (by decide), b 23 (by decide), b 26 (by decide)]
theorem SR9_eq {s t : gS} (b : ∀ k, k = 15 ∨ k = 22 ∨ k = 23 ∨ k = 26 ∨ k = 29 → t.1 k = s.1 k) (q : Int32) : SR9 t q = SR9 s q := by
  unfold SR9 srB pO
  rw [b 15 (by decide), b 22 (by decide), b 23 (by decide), b 26 (by decide), b 29 (by decide)]
theorem sr_in {s : gS} (w : WF s) {q : Int32} {j : Nat} (hj : (j : Int) < (s.1 15 9).toInt) (h : SR9 s q = Int32.ofNat j) : srB s q j = true := by
  have b9 := w.1.1
  unfold SR9 at h
  rcases fI_spec (srB s q) (s.1 15 9).toInt.toNat 0 (by omega) with ⟨h1, -⟩ | ⟨i, i0, i1, i2, i3, i4⟩
  · rw [h1] at h
    exact absurd h.symm (ofN_m1 (by omega))
  · rw [h, iofNat_toInt (by omega)] at i3
    have : i = j := by omega
    rw [← this]
    exact i2
noncomputable def PRel (τ s : gS) (p : Nat) (B : Int) (τ2 s2 : gS) : Prop := (∀ k, k ≠ 50 → k ≠ 51 → τ2.1 k = τ.1 k) ∧ τ2.2 = τ.2 ∧ (∀ k, k ≠ 28 → k ≠ 29 → s2.1 k = s.1 k) ∧ s2.2 = s.2 ∧ (∀ i, i ≠ p → i ≠ 38 + p → s2.1 28 i = s.1 28 i) ∧ (∀ i, s2.1 29 i = if i = p then 1 else s.1 29 i) ∧ (τ2.1 50 p = s2.1 28 p ∧ τ2.1 51 p = s2.1 28 (38 + p)) ∧ (∀ j, j ≠ p → τ2.1 50 j = τ.1 50 j ∧ τ2.1 51 j = τ.1 51 j) ∧ PBd s2 (B + 2000000)
set_option maxHeartbeats 1000000 in
theorem place_2 {τ s : gS} {B : Int} {p : Int32} {F : Nat} (h : SP9 τ s) (m : MB s) (hp : PBd s B) (hB0 : 0 ≤ B) (hB : B ≤ 500000000) (N : LN s τ p) (hF : FP s τ F) (p0 : 0 ≤ p.toInt) (p1 : p.toInt < (s.1 15 7).toInt) (un : s.1 29 p.toInt.toNat = 0) : Re (lpc (S := Int32 × gS) K9 (fun rec s' => bX6_startLinked_40 τ p (Int32.ofNat F) (fun a3 σ1 => rec (a3, σ1)) s'.1 s'.2) (0, τ)) (lpc (S := Int32) K9 (fun rec s' => bX10_startsBy_55 s p (fun a2 => rec (a2)) s') 0) (PRel τ s p.toInt.toNat B) := by
  have w := h.2.1
  obtain ⟨b9, b8, b7, b6⟩ := w.1
  have z0' := z0
  have l1 : (1 : Int32).toInt = 1 := by decide
  obtain ⟨f1, f2, f3⟩ := hF
  obtain ⟨r, j, x1, x2, x3, x4, x5, x6, x7, x8⟩ := ln_at w N f1 f2
  have eF : (Int32.ofNat F).toInt = F := iofNat_toInt (by omega)
  have er : (Int32.ofNat r).toInt = r := iofNat_toInt (by omega)
  have er' : (Int32.ofNat r).toInt.toNat = r := by omega
  have nF : (Int32.ofNat F).toNatClampNeg = F := by rw [n_toInt]; omega
  obtain ⟨P, hP⟩ : ∃ P, P = p.toInt.toNat := ⟨_, rfl⟩
  have hPn : p.toNatClampNeg = P := by rw [n_toInt, hP]
  rw [← hP] at un ⊢
  have hne : ¬ pO s j = P := fun z => (of_decide_eq_true (sr_in w x2 x5)).2.2 (by rw [z]; exact un)
  have pj12 : pO s j < 12 := by have := (w.2.1 j x2).1; unfold pO; omega
  obtain ⟨v0, hv0⟩ : ∃ v, v = puO s j 0 - tO s r 0 := ⟨_, rfl⟩
  obtain ⟨v1, hv1⟩ : ∃ v, v = puO s j 1 - tO s r 1 := ⟨_, rfl⟩
  -- the class's side
  have eC : lpc (S := Int32 × gS) K9 (fun rec s' => bX6_startLinked_40 τ p (Int32.ofNat F) (fun a3 σ1 => rec (a3, σ1)) s'.1 s'.2) (0, τ) = some (gsI (gsI τ 50 P v0) 51 P v1) := by
    have st : ∀ (rec : Int32 × gS → Option gS) (τ1 : gS) (a : Int32), a = 0 ∨ a = 1 → (∀ k, k ≠ 50 → τ1.1 k = τ.1 k) → bX6_startLinked_40 τ p (Int32.ofNat F) (fun a3 σ1 => rec (a3, σ1)) a τ1 = rec (a + 1, gsI τ1 (50 + a.toInt.toNat) P (puO s j a - tO s r a)) := fun rec τ1 a ha hτ1 => by
      have a00 : 0 ≤ a.toInt := by rcases ha with rfl | rfl <;> decide
      have a11 : a.toInt ≤ 1 := by rcases ha with rfl | rfl <;> decide
      have l2 : (2 : Int32).toInt = 2 := by decide
      have k88 : τ1.1 (88 + a.toNatClampNeg) F = puO s j a := by
        rcases ha with rfl | rfl
        · rw [hτ1 _ (by decide)]; exact x7
        · rw [hτ1 _ (by decide)]; exact x8
      have hT : TRd τ1 s := TR_k h.1 (fun k hk => hτ1 k (by omega)) (fun _ _ _ => rfl) rfl
      have hN : TN τ1 s := by
        unfold TN MSd
        rw [hτ1 48 (by decide), hτ1 13 (by decide), hτ1 14 (by decide)]
        exact h.2.2.1
      have kt := k_turned hT w hN (r := Int32.ofNat r) (a := a) (by omega) (by omega) a00 a11
      rw [er'] at kt
      unfold bX6_startLinked_40
      rw [if_neg (q_nle (by omega)), q_gd (gb_of (by omega) (by omega)), q_gd (gb_of (by omega) (by omega)), q_gd (gb_of (by omega) (by omega)), nm_eq, nF, k88, q_gd (gb_of (by omega) (by omega)), nm_eq, hτ1 86 (by decide), x6, q_bd kt, q_gd (gb_of (by omega) (by omega)), nm_eq, nm_eq, hPn]
      rfl
    refine lp_2 (s1 := (1, gsI τ 50 P v0)) (s2 := (2, gsI (gsI τ 50 P v0) 51 P v1)) (fun rec => ?_) (fun rec => ?_) (fun rec => ?_)
    · rw [hv0]; exact st rec τ 0 (.inl rfl) (fun _ _ => rfl)
    · rw [hv1]; exact st rec (gsI τ 50 P v0) 1 (.inr rfl) (fun k hk => gsI_row hk)
    · show bX6_startLinked_40 τ p (Int32.ofNat F) _ 2 _ = _
      unfold bX6_startLinked_40
      rw [if_pos (by decide)]
  have eM : lpc (S := Int32) K9 (fun rec s' => bX10_startsBy_55 s p (fun a2 => rec (a2)) s') 0 = some (gsI (gsI (gsI s 28 P v0) 28 (38 + P) v1) 29 P 1) := by
    have e82 : lpc (S := Int32 × gS) K9 (fun rec s' => bX10_startsBy_82 s p (Int32.ofNat F) (fun a3 σ1 => rec (a3, σ1)) s'.1 s'.2) (0, s) = some (gsI (gsI (gsI s 28 P v0) 28 (38 + P) v1) 29 P 1) := by
      have st : ∀ (rec : Int32 × gS → Option gS) (s1 : gS) (a : Int32), a = 0 ∨ a = 1 → (∀ k, k ≠ 28 → s1.1 k = s.1 k) → s1.1 28 (38 * a.toInt.toNat + pO s j) = s.1 28 (38 * a.toInt.toNat + pO s j) → bX10_startsBy_82 s p (Int32.ofNat F) (fun a3 σ1 => rec (a3, σ1)) a s1 = rec (a + 1, gsI s1 28 (38 * a.toInt.toNat + P) (puO s j a - tO s r a)) := fun rec s1 a ha h1 h28 => by
        have a00 : 0 ≤ a.toInt := by rcases ha with rfl | rfl <;> decide
        have a11 : a.toInt ≤ 1 := by rcases ha with rfl | rfl <;> decide
        have l2 : (2 : Int32).toInt = 2 := by decide
        have w1 : WF s1 := WF_eq w (fun k _ k1 => h1 k k1)
        have n9 : s1.1 15 9 = s.1 15 9 := by rw [h1 15 (by decide)]
        have q1 : puO s1 j a = puO s j a := by
          unfold puO tO
          have : pO s1 j = pO s j := by unfold pO; rw [h1 22 (by decide)]
          rw [this, h28, h1 27 (by decide), h1 24 (by decide)]
        have q2 : tO s1 r a = tO s r a := tO_eq (fun k _ k1 => h1 k k1) r a
        have wt := wf_turned w1 (r := Int32.ofNat r) (a := a) (by omega) (by rw [n9]; omega) a00 a11
        rw [er', q2] at wt
        have ix := ix_38 (a := a) (x := p) a00 a11 rfl p0 (by omega)
        have ixn : (38 * a + p).toNatClampNeg = 38 * a.toInt.toNat + P := by rw [n_toInt]; omega
        unfold bX10_startsBy_82
        rw [if_neg (q_nle (by omega)), q_bd (m9_startedRow w1 _), SR9_eq (fun k hk => h1 k (by omega)), x5, q_bd (pu_M w1 (by rw [n9]; exact x2) a00 a11), q1, q_bd (m9_rowOf w1 _ _), RW9_eq (fun k hk => h1 k (by omega)), x3, q_bd wt, q_gd (gb_of (by omega) (by omega)), nm_eq, nm_eq, ixn]
      refine lp_2 (s1 := (1, gsI s 28 P v0)) (s2 := (2, gsI (gsI s 28 P v0) 28 (38 + P) v1)) (fun rec => ?_) (fun rec => ?_) (fun rec => ?_)
      · rw [hv0]
        have := st rec s 0 (.inl rfl) (fun _ _ => rfl) rfl
        rw [show 38 * (0 : Int32).toInt.toNat + P = P by rw [n_0]; omega] at this
        exact this
      · rw [hv1]
        exact st rec (gsI s 28 P v0) 1 (.inr rfl) (fun k hk => gsI_row hk) (by rw [gsI_at, if_neg (by rw [n_1]; omega)])
      · show bX10_startsBy_82 s p (Int32.ofNat F) _ 2 _ = _
        unfold bX10_startsBy_82
        rw [if_pos (by decide), q_gd (gb_of (by omega) (by omega)), nm_eq, hPn, nb1]
    refine lp_scan (F := F) (by omega) (fun rec q hq => ?_) (fun rec => ?_) F K9 0 (by omega) (by omega) (by unfold K9; omega)
    · show bX10_startsBy_55 s p rec (Int32.ofNat q) = _
      have hno := ln_no N (q := q) (by omega) (f3 q hq)
      unfold bX10_startsBy_55
      rw [q_bd (m9_rowOf w p _)]
      by_cases c1 : RW9 s p (Int32.ofNat q) = -1
      · rw [if_pos c1, nm_eq, ofN_s]
      · rw [if_neg c1, q_bd (m9_startedRow w _), if_pos (hno.resolve_left c1), nm_eq, ofN_s]
    · show bX10_startsBy_55 s p rec (Int32.ofNat F) = _
      unfold bX10_startsBy_55
      rw [q_bd (m9_rowOf w p _), x3, if_neg (ofN_m1 (by omega)), q_bd (m9_startedRow w _), x5, if_neg (ofN_m1 (by omega)), nm_eq]
      exact e82
  refine ⟨_, _, eC, eM, fun k k1 k2 => by rw [gsI_row k2, gsI_row k1], rfl, fun k k1 k2 => by rw [gsI_row k2, gsI_row k1, gsI_row k1], rfl, fun i i1 i2 => ?_, fun i => ?_, ⟨?_, ?_⟩, fun i hi => ⟨?_, ?_⟩, fun i hi => ?_⟩
  · rw [gsI_row (by decide), gsI_at, if_neg i2, gsI_at, if_neg i1]
  · rw [gsI_at, gsI_row (by decide), gsI_row (by decide)]
  · rw [gsI_row (by decide), gsI_at, if_pos rfl, gsI_row (by decide), gsI_at, if_neg (by omega), gsI_at, if_pos rfl]
  · rw [gsI_at, if_pos rfl, gsI_row (by decide), gsI_at, if_pos rfl]
  · rw [gsI_row (by decide), gsI_at, if_neg hi]
  · rw [gsI_at, if_neg hi, gsI_row (by decide)]
  · rw [gsI_row (by decide), gsI_at, gsI_at]
    have T : ∀ a : Int32, -999900 ≤ (tO s r a).toInt ∧ (tO s r a).toInt ≤ 999900 := fun a => tV_in (m r x1).1 (m r x1).2
    have T0 := T 0
    have T1 := T 1
    have P0 := pu_in w m hp hB x2 (a := 0) (by decide) (by decide)
    have P1 := pu_in w m hp hB x2 (a := 1) (by decide) (by decide)
    have i0 : v0.toInt = (puO s j 0).toInt - (tO s r 0).toInt := by rw [hv0, isub_toInt] <;> omega
    have i1 : v1.toInt = (puO s j 1).toInt - (tO s r 1).toInt := by rw [hv1, isub_toInt] <;> omega
    have hh := hp i hi
    by_cases y : i = 38 + P
    · rw [if_pos y]; omega
    · rw [if_neg y]
      by_cases y2 : i = P
      · rw [if_pos y2]; omega
      · rw [if_neg y2]; omega
noncomputable def bT (V : Int32 → Int64) (b t : Int32) : Int32 := if V b ≤ V t then b else t
theorem bT_in {V : Int32 → Int64} {b t : Int32} (b0 : 0 ≤ b.toInt ∧ b.toInt ≤ 3) (t0 : 0 ≤ t.toInt ∧ t.toInt ≤ 3) : 0 ≤ (bT V b t).toInt ∧ (bT V b t).toInt ≤ 3 := by
  unfold bT
  by_cases h : V b ≤ V t
  · rw [if_pos h]; exact b0
  · rw [if_neg h]; exact t0
theorem k_firstLink {τ s : gS} {F : Nat} (h : TRd τ s) (w : WF s) (hF : FP s τ F) : fX6_firstLink τ = some (Int32.ofNat F) := by
  obtain ⟨b9, b8, b7, b6⟩ := w.1
  obtain ⟨f1, f2, f3⟩ := hF
  have e3 : τ.1 3 ((2 : Int32).toNatClampNeg) = s.1 15 8 := (tr_n h).2.1
  unfold fX6_firstLink
  rw [nm_eq]
  have st : ∀ (rec : Int32 → Option Int32) (q : Nat), q ≤ F → bX6_firstLink_2 τ rec (Int32.ofNat q) = if τ.1 86 q = -1 then rec (Int32.ofNat (q + 1)) else some (Int32.ofNat q) := fun rec q hq => by
    have eq : (Int32.ofNat q).toInt = q := iofNat_toInt (by omega)
    have nq : (Int32.ofNat q).toNatClampNeg = q := by rw [n_toInt]; omega
    unfold bX6_firstLink_2
    rw [q_gd (by decide), nm_eq, e3, if_neg (q_nle (by omega)), q_gd (gb_of (by omega) (by omega)), nm_eq, nq, nm_eq, ofN_s]
  refine lp_scan (F := F) (by omega) (fun rec q hq => ?_) (fun rec => ?_) F K9 0 (by omega) (by omega) (by unfold K9; omega)
  · show bX6_firstLink_2 τ rec (Int32.ofNat q) = _
    rw [st rec q (by omega), if_pos (f3 q hq)]
  · show bX6_firstLink_2 τ rec (Int32.ofNat F) = _
    rw [st rec F (by omega), if_neg f2]
/-- a picture's turn is set, on both sides -/
theorem SP_turn {τ s : gS} {P : Nat} {b : Int32} (h : SP9 τ s) (b0 : 0 ≤ b.toInt ∧ b.toInt ≤ 3) : SP9 (gsI τ 48 P b) (gsI s 27 P b) := by
  obtain ⟨h1, h2, h3, h4, h5, h6⟩ := h
  have m : ∀ k, k ≠ 27 → (gsI s 27 P b).1 k = s.1 k := fun k hk => gsI_row hk
  have c : ∀ k, k ≠ 48 → (gsI τ 48 P b).1 k = τ.1 k := fun k hk => gsI_row hk
  refine ⟨TR_k h1 (fun k hk => c k (by omega)) (fun k k1 k2 => m k (by omega)) rfl, ⟨?_, ?_, fun p hp => ?_⟩, ⟨fun p hp => ?_, ?_⟩, ?_, ?_, ?_⟩
  · rw [m 15 (by decide)]; exact h2.1
  · rw [m 15 (by decide), m 22 (by decide), m 23 (by decide), m 25 (by decide)]; exact h2.2.1
  · rw [m 15 (by decide)] at hp
    rw [m 15 (by decide), m 16 (by decide), m 18 (by decide), gsI_at]
    refine ⟨(h2.2.2 p hp).1, (h2.2.2 p hp).2.1, ?_⟩
    by_cases z : p = P
    · rw [if_pos z]; exact b0
    · rw [if_neg z]; exact (h2.2.2 p hp).2.2
  · rw [m 15 (by decide)] at hp
    rw [gsI_at, gsI_at, h3.1 p hp]
  · unfold MSd
    rw [c 13 (by decide), c 14 (by decide), m 15 (by decide), m 24 (by decide)]
    exact h3.2
  · intro a p ha hp
    rw [m 15 (by decide)] at hp
    rw [c _ (by omega), m 28 (by decide)]
    exact h4 a p ha hp
  · rw [c 58 (by decide), m 15 (by decide), m 26 (by decide)]; exact h5
  · rw [c 84 (by decide), m 15 (by decide), m 29 (by decide)]; exact h6
noncomputable def LRel (τ s : gS) (p : Nat) (B : Int) (τ2 s2 : gS) : Prop := (∀ k, k ≠ 48 → k ≠ 50 → k ≠ 51 → τ2.1 k = τ.1 k) ∧ τ2.2 = τ.2 ∧ (∀ k, k ≠ 27 → k ≠ 28 → k ≠ 29 → s2.1 k = s.1 k) ∧ s2.2 = s.2 ∧ SP9 (gsI τ2 84 p 1) s2 ∧ PBd s2 (B + 2000000) ∧ (∀ i, s2.1 29 i = if i = p then 1 else s.1 29 i) ∧ ∀ i, i ≠ p → i ≠ 38 + p → s2.1 28 i = s.1 28 i
theorem SP_place {τ s τ2 s2 : gS} {P : Nat} {B : Int} (h : SP9 τ s) (hP : P < 12) (r : PRel τ s P B τ2 s2) : SP9 (gsI τ2 84 P 1) s2 := by
  obtain ⟨h1, h2, h3, h4, h5, h6⟩ := h
  obtain ⟨r1, r2, r3, r4, r5, r6, ⟨r7, r8⟩, r9, -⟩ := r
  have c : ∀ k, k ≠ 50 → k ≠ 51 → k ≠ 84 → (gsI τ2 84 P 1).1 k = τ.1 k := fun k a b d => (gsI_row d).trans (r1 k a b)
  have b7 := h2.1.2.2.1
  refine ⟨TR_k h1 (fun k hk => c k (by omega) (by omega) (by omega)) (fun k k1 k2 => r3 k (by omega) (by omega)) r4, ?_, ?_, fun a p ha hp => ?_, ?_, fun p hp => ?_⟩
  · unfold WF
    rw [r3 15 (by decide) (by decide), r3 22 (by decide) (by decide), r3 23 (by decide) (by decide), r3 25 (by decide) (by decide), r3 16 (by decide) (by decide), r3 18 (by decide) (by decide), r3 27 (by decide) (by decide)]
    exact h2
  · unfold TN MSd
    rw [c 48 (by decide) (by decide) (by decide), c 13 (by decide) (by decide) (by decide), c 14 (by decide) (by decide) (by decide), r3 15 (by decide) (by decide), r3 24 (by decide) (by decide), r3 27 (by decide) (by decide)]
    exact h3
  · rw [r3 15 (by decide) (by decide)] at hp
    rw [gsI_row (by omega)]
    have ha2 : a = 0 ∨ a = 1 := by omega
    by_cases z : p = P
    · subst z
      rcases ha2 with rfl | rfl
      · rw [show 38 * 0 + p = p by omega]; exact r7
      · rw [show 38 * 1 + p = 38 + p by omega]; exact r8
    · rw [r5 _ (by omega) (by omega), ← h4 a p ha hp]
      rcases ha2 with rfl | rfl
      · exact (r9 p z).1
      · exact (r9 p z).2
  · rw [c 58 (by decide) (by decide) (by decide), r3 15 (by decide) (by decide), r3 26 (by decide) (by decide)]
    exact h5
  · rw [r3 15 (by decide) (by decide)] at hp
    rw [gsI_at, r6, r1 84 (by decide) (by decide)]
    by_cases z : p = P
    · rw [if_pos z, if_pos z]; exact ⟨rfl, .inr rfl⟩
    · rw [if_neg z, if_neg z]; exact h6 p hp
set_option maxHeartbeats 1000000 in
theorem link_2 {τ s : gS} {B : Int} {p : Int32} (h : SP9 τ s) (m : MB s) (hp : PBd s B) (hB0 : 0 ≤ B) (hB : B ≤ 500000000) (N : LN s τ p) (p0 : 0 ≤ p.toInt) (p1 : p.toInt < (s.1 15 7).toInt) (un : s.1 29 p.toInt.toNat = 0) (ex : ∃ q : Nat, (q : Int) < (s.1 15 8).toInt ∧ ¬ τ.1 86 q = -1) : Re (fX6_startLinked τ p) (fX10_startsBy s p) (LRel τ s p.toInt.toNat B) := by
  have w := h.2.1
  obtain ⟨b9, b8, b7, b6⟩ := w.1
  obtain ⟨F, hF⟩ := fp_ex ex
  have e12 : (12 + p).toInt = 12 + p.toInt := by
    have l12 : (12 : Int32).toInt = 12 := by decide
    rw [iadd_toInt] <;> omega
  have n12 : (12 + p).toNatClampNeg = 12 + p.toInt.toNat := n_add (k := 12) (by decide) p0 (by omega)
  have P := h.1.2.2.1 p.toInt.toNat (by omega)
  unfold fX6_startLinked fX10_startsBy
  rw [q_bd (k_firstLink h.1 w hF), nm_eq, if_neg (ofN_m1 (by have := hF.1; omega)), q_gd (gb_of (by omega) (by omega)), nm_eq, n_toInt, P.2.1, q_gd (gb_of (by omega) (by omega)), nm_eq, nm_eq, n12]
  by_cases t4 : s.1 17 (12 + p.toInt.toNat) = 4
  · rw [if_pos t4, if_pos t4]
    obtain ⟨V, hV⟩ : ∃ V : Int32 → Int64, V = fun t => (fX10_unlike s p t).getD 0 := ⟨_, rfl⟩
    have hu : ∀ t : Int32, 0 ≤ t.toInt ∧ t.toInt ≤ 3 → fX6_unlikeness τ t (Int32.ofNat F) = some (V t) ∧ fX10_unlike s p t = some (V t) := fun t ht => by
      obtain ⟨a, b, e1, e2, e3⟩ := unlike_2 h m hp hB N hF ht.1 ht.2
      have : V t = b := by rw [hV]; show (fX10_unlike s p t).getD 0 = b; rw [e2]; rfl
      rw [this, e1, e2, e3]
      exact ⟨rfl, rfl⟩
    have i0 : 0 ≤ (0 : Int32).toInt ∧ (0 : Int32).toInt ≤ 3 := by decide
    have i1 : 0 ≤ (1 : Int32).toInt ∧ (1 : Int32).toInt ≤ 3 := by decide
    have i2 : 0 ≤ (2 : Int32).toInt ∧ (2 : Int32).toInt ≤ 3 := by decide
    have i3 : 0 ≤ (3 : Int32).toInt ∧ (3 : Int32).toInt ≤ 3 := by decide
    have c1 := bT_in (V := V) i0 i1
    have c2 := bT_in (V := V) c1 i2
    have c3 := bT_in (V := V) c2 i3
    have l4 : (4 : Int32).toInt = 4 := by decide
    have eC : fX6_leastUnlikeTurn τ (Int32.ofNat F) = some (bT V (bT V (bT V 0 1) 2) 3) := by
      have st : ∀ (rec : Int32 × Int32 → Option Int32) (b t : Int32), (0 ≤ b.toInt ∧ b.toInt ≤ 3) → (0 ≤ t.toInt ∧ t.toInt ≤ 3) → bX6_leastUnlikeTurn_4 τ (Int32.ofNat F) (fun a2 a3 => rec (a2, a3)) b t = rec (bT V b t, t + 1) := fun rec b t hb ht => by
        unfold bX6_leastUnlikeTurn_4 bT
        rw [if_neg (q_nle (by omega)), q_bd (hu t ht).1, q_bd (hu b hb).1]
        by_cases z : V b ≤ V t
        · rw [if_pos z, if_pos z, nm_eq]
        · rw [if_neg z, if_neg z, nm_eq, nm_eq]
      unfold fX6_leastUnlikeTurn
      rw [nm_eq, nm_eq]
      refine lp_3 (s1 := (bT V 0 1, 2)) (s2 := (bT V (bT V 0 1) 2, 3)) (s3 := (bT V (bT V (bT V 0 1) 2) 3, 4)) (fun rec => st rec 0 1 i0 i1) (fun rec => st rec _ 2 c1 i2) (fun rec => st rec _ 3 c2 i3) (fun rec => ?_)
      show bX6_leastUnlikeTurn_4 τ (Int32.ofNat F) _ _ 4 = _
      unfold bX6_leastUnlikeTurn_4
      rw [if_pos (by decide)]
    obtain ⟨b, hb⟩ : ∃ b, b = bT V (bT V (bT V 0 1) 2) 3 := ⟨_, rfl⟩
    rw [← hb] at eC c3
    have eM : lpc (S := Int32 × Int32) K9 (fun rec s' => bX10_startsBy_17 s p (fun a2 a3 => rec (a2, a3)) s'.1 s'.2) (0, 1) = lpc (S := Int32) K9 (fun rec s' => bX10_startsBy_55 (gsI s 27 p.toInt.toNat b) p (fun a2 => rec (a2)) s') 0 := by
      have st : ∀ (rec : Int32 × Int32 → Option gS) (b t : Int32), (0 ≤ b.toInt ∧ b.toInt ≤ 3) → (0 ≤ t.toInt ∧ t.toInt ≤ 3) → bX10_startsBy_17 s p (fun a2 a3 => rec (a2, a3)) b t = rec (bT V b t, t + 1) := fun rec b t hb ht => by
        unfold bX10_startsBy_17 bT
        rw [if_neg (q_nle (by omega)), q_bd (hu t ht).2, q_bd (hu b hb).2]
        by_cases z : V b ≤ V t
        · rw [if_pos z, if_pos z, nm_eq]
        · rw [if_neg z, if_neg z, nm_eq, nm_eq]
      refine lp_3 (s1 := (bT V 0 1, 2)) (s2 := (bT V (bT V 0 1) 2, 3)) (s3 := (b, 4)) (fun rec => st rec 0 1 i0 i1) (fun rec => st rec _ 2 c1 i2) (fun rec => by rw [hb]; exact st rec _ 3 c2 i3) (fun rec => ?_)
      show bX10_startsBy_17 s p _ b 4 = _
      unfold bX10_startsBy_17
      rw [if_pos (by decide), q_gd (gb_of (by omega) (by omega)), nm_eq, nm_eq]
      rfl
    rw [q_bd eC, q_gd (gb_of (by omega) (by omega)), nm_eq, nm_eq, nm_eq, nm_eq, eM]
    obtain ⟨Q, hQ⟩ : ∃ Q, Q = p.toInt.toNat := ⟨_, rfl⟩
    rw [← hQ] at un ⊢
    have m27 : ∀ k, k ≠ 27 → (gsI s 27 Q b).1 k = s.1 k := fun k hk => gsI_row hk
    have c48 : ∀ k, k ≠ 48 → (gsI τ 48 Q b).1 k = τ.1 k := fun k hk => gsI_row hk
    have h' := SP_turn (P := Q) (b := b) h c3
    have N' : LN (gsI s 27 Q b) (gsI τ 48 Q b) p := fun q hq => by
      rw [m27 15 (by decide)] at hq
      rw [SR9_eq (t := gsI s 27 Q b) (s := s) (fun k hk => m27 k (by omega)), RW9_eq (t := gsI s 27 Q b) (s := s) (fun k hk => m27 k (by omega)), c48 86 (by decide), c48 88 (by decide), c48 89 (by decide), m27 15 (by decide)]
      rcases N q hq with n1 | ⟨j, j0, j1, j2, j3, j4⟩
      · exact .inl n1
      · have hne : ¬ pO s j = Q := fun z => (of_decide_eq_true (sr_in w j0 j1)).2.2 (by rw [z]; exact un)
        have pe : ∀ a, puO (gsI s 27 Q b) j a = puO s j a := fun a => by
          unfold puO tO
          have : pO (gsI s 27 Q b) j = pO s j := by unfold pO; rw [m27 22 (by decide)]
          rw [this, m27 28 (by decide), m27 24 (by decide), gsI_at, if_neg hne]
        exact .inr ⟨j, j0, j1, j2, by rw [pe]; exact j3, by rw [pe]; exact j4⟩
    have F' : FP (gsI s 27 Q b) (gsI τ 48 Q b) F := by
      unfold FP
      rw [m27 15 (by decide), c48 86 (by decide)]
      exact hF
    have mb' : MB (gsI s 27 Q b) := MB_eq m (m27 15 (by decide)) (m27 24 (by decide))
    have pb' : PBd (gsI s 27 Q b) B := by unfold PBd; rw [m27 28 (by decide)]; exact hp
    refine (place_2 h' mb' pb' hB0 hB N' F' p0 (by rw [m27 15 (by decide)]; exact p1) (by rw [m27 29 (by decide), ← hQ]; exact un)).mono (fun τ2 s2 r => ?_)
    rw [← hQ] at r
    have sp := SP_place h' (by omega) r
    obtain ⟨r1, r2, r3, r4, r5, r6, r7, r9, r10⟩ := r
    refine ⟨fun k k1 k2 k3 => (r1 k k2 k3).trans (c48 k k1), r2, fun k k1 k2 k3 => (r3 k k2 k3).trans (m27 k k1), r4, sp, r10, fun i => by rw [r6, m27 29 (by decide)], fun i i1 i2 => by rw [r5 i i1 i2, m27 28 (by decide)]⟩
  · rw [if_neg t4, if_neg t4, nm_eq]
    refine (place_2 h m hp hB0 hB N hF p0 p1 un).mono (fun τ2 s2 r => ?_)
    have sp := SP_place h (by omega) r
    obtain ⟨r1, r2, r3, r4, r5, r6, r7, r9, r10⟩ := r
    exact ⟨fun k k1 k2 k3 => r1 k k2 k3, r2, fun k k1 k2 k3 => r3 k k2 k3, r4, sp, r10, r6, r5⟩
end P12Y4
