/-! THE GEOMETRY: a round, on the reference's side: points -/
section P12K
noncomputable def sW : Nat → (Nat → Bool) → (Nat → Int) → Int
  | 0, _, _ => 0
  | n + 1, u, w => sW n u w + if u n = true then w n else 0
noncomputable def sS : Nat → (Nat → Bool) → (Nat → Int) → (Nat → Int) → Int
  | 0, _, _, _ => 0
  | n + 1, u, w, t => sS n u w t + if u n = true then w n * t n else 0
theorem sW_in {u : Nat → Bool} {w : Nat → Int} : ∀ n, (∀ r, r < n → u r = true → 0 ≤ w r ∧ w r ≤ 9) → 0 ≤ sW n u w ∧ sW n u w ≤ 9 * n
  | 0, _ => ⟨Int.le_refl _, Int.le_refl _⟩
  | n + 1, h => by
    have ih := sW_in n (fun r hr hu => h r (by omega) hu)
    unfold sW
    by_cases z : u n = true
    · have := h n (by omega) z
      rw [if_pos z]
      omega
    · rw [if_neg z]
      omega
theorem sS_in {u : Nat → Bool} {w t : Nat → Int} : ∀ n, (∀ r, r < n → u r = true → (0 ≤ w r ∧ w r ≤ 9) ∧ (-2147483648 ≤ t r ∧ t r ≤ 2147483647)) → -2147483648 * sW n u w ≤ sS n u w t ∧ sS n u w t ≤ 2147483647 * sW n u w
  | 0, _ => ⟨Int.le_refl _, Int.le_refl _⟩
  | n + 1, h => by
    have ih := sS_in n (fun r hr hu => h r (by omega) hu)
    unfold sW sS
    by_cases z : u n = true
    · have hh := h n (by omega) z
      rw [if_pos z, if_pos z, Int.mul_add, Int.mul_add]
      have a := Int.mul_le_mul_of_nonneg_left hh.2.1 hh.1.1
      have b := Int.mul_le_mul_of_nonneg_left hh.2.2 hh.1.1
      rw [Int.mul_comm (w n) (-2147483648)] at a
      rw [Int.mul_comm (w n) 2147483647] at b
      omega
    · rw [if_neg z, if_neg z, Int.add_zero, Int.add_zero]
      exact ih
theorem sW_eq {u v : Nat → Bool} {w x : Nat → Int} : ∀ n, (∀ r, r < n → u r = v r ∧ (u r = true → w r = x r)) → sW n u w = sW n v x
  | 0, _ => rfl
  | n + 1, h => by
    unfold sW
    rw [sW_eq n (fun r hr => h r (by omega)), (h n (by omega)).1]
    by_cases z : v n = true
    · rw [if_pos z, if_pos z, (h n (by omega)).2 (by rw [(h n (by omega)).1]; exact z)]
    · rw [if_neg z, if_neg z]
theorem sS_eq {u v : Nat → Bool} {w x t y : Nat → Int} : ∀ n, (∀ r, r < n → u r = v r ∧ (u r = true → w r = x r ∧ t r = y r)) → sS n u w t = sS n v x y
  | 0, _ => rfl
  | n + 1, h => by
    unfold sS
    rw [sS_eq n (fun r hr => h r (by omega)), (h n (by omega)).1]
    by_cases z : v n = true
    · have := (h n (by omega)).2 (by rw [(h n (by omega)).1]; exact z)
      rw [if_pos z, if_pos z, this.1, this.2]
    · rw [if_neg z, if_neg z]
/-- what is well formed in what stands told, on the reference's side -/
noncomputable def WF (σ : gS) : Prop := ((0 ≤ (σ.1 15 9).toInt ∧ (σ.1 15 9).toInt ≤ 60) ∧ (0 ≤ (σ.1 15 8).toInt ∧ (σ.1 15 8).toInt ≤ 20) ∧ (0 ≤ (σ.1 15 7).toInt ∧ (σ.1 15 7).toInt ≤ 12) ∧ 0 ≤ (σ.1 15 6).toInt ∧ (σ.1 15 6).toInt ≤ 6) ∧ (∀ r : Nat, (r : Int) < (σ.1 15 9).toInt → (0 ≤ (σ.1 22 (60 + r)).toInt ∧ (σ.1 22 (60 + r)).toInt < (σ.1 15 7).toInt) ∧ (0 ≤ (σ.1 23 (60 + r)).toInt ∧ (σ.1 23 (60 + r)).toInt < (σ.1 15 8).toInt) ∧ 1 ≤ (σ.1 25 (60 + r)).toInt ∧ (σ.1 25 (60 + r)).toInt ≤ 9) ∧ ∀ p : Nat, (p : Int) < (σ.1 15 7).toInt → (0 ≤ (σ.1 16 (12 + p)).toInt ∧ (σ.1 16 (12 + p)).toInt < (σ.1 15 6).toInt) ∧ (0 ≤ (σ.1 18 (12 + p)).toInt ∧ (σ.1 18 (12 + p)).toInt ≤ 9) ∧ 0 ≤ (σ.1 27 p).toInt ∧ (σ.1 27 p).toInt ≤ 3
theorem WF_eq {σ τ : gS} (h : WF σ) (e : ∀ k, k ≠ 0 → k ≠ 28 → τ.1 k = σ.1 k) : WF τ := by
  unfold WF
  rw [e 15 (by decide) (by decide), e 22 (by decide) (by decide), e 23 (by decide) (by decide), e 25 (by decide) (by decide), e 16 (by decide) (by decide), e 18 (by decide) (by decide), e 27 (by decide) (by decide)]
  exact h
theorem wf_row {σ : gS} (h : WF σ) {r : Int32} (r0 : 0 ≤ r.toInt) (r1 : r.toInt < (σ.1 15 9).toInt) : fX10_pictureOf σ r = some (σ.1 22 (60 + r.toInt.toNat)) ∧ fX10_pointOf σ r = some (σ.1 23 (60 + r.toInt.toNat)) ∧ fX10_weightOf σ r = some (σ.1 25 (60 + r.toInt.toNat)) ∧ r.toInt ≤ 59 := by
  have l60 : (60 : Int32).toInt = 60 := by decide
  obtain ⟨⟨b9, -⟩, -⟩ := h
  have e : (60 + r).toNatClampNeg = 60 + r.toInt.toNat := n_add (k := 60) (by decide) r0 (by omega)
  have e2 : (60 + r).toInt = 60 + r.toInt := by rw [iadd_toInt] <;> omega
  have g := gb_of (i := 60 + r) (n := 120) (by omega) (by omega)
  refine ⟨?_, ?_, ?_, by omega⟩
  · unfold fX10_pictureOf
    rw [q_gd g, nm_eq, e]
  · unfold fX10_pointOf
    rw [q_gd g, nm_eq, e]
  · unfold fX10_weightOf
    rw [q_gd g, nm_eq, e]
theorem wf_turned {σ : gS} (h : WF σ) {r a : Int32} (r0 : 0 ≤ r.toInt) (r1 : r.toInt < (σ.1 15 9).toInt) (a0 : 0 ≤ a.toInt) (a1 : a.toInt ≤ 1) : fX10_turned σ r a = some (tO σ r.toInt.toNat a) := by
  obtain ⟨w1, w2, w3, r59⟩ := wf_row h r0 r1
  obtain ⟨⟨b9, b8, b7, b6⟩, hr, hp⟩ := h
  have R := hr r.toInt.toNat (by omega)
  have T := hp (pO σ r.toInt.toNat) (by unfold pO; omega)
  have z := m_turnedBy (σ := σ) (t := σ.1 27 (pO σ r.toInt.toNat)) T.2.2.1 T.2.2.2 a0 a1 r0 r59
  unfold fX10_turned
  rw [q_bd w1, q_gd (gb_of (by omega) (by omega)), nm_eq, n_toInt]
  unfold pO at z
  rw [q_bd z]
  rfl
theorem wf_put {σ : gS} (h : WF σ) {r a : Int32} (r0 : 0 ≤ r.toInt) (r1 : r.toInt < (σ.1 15 9).toInt) (a0 : 0 ≤ a.toInt) (a1 : a.toInt ≤ 1) : fX10_put σ r a = some (puO σ r.toInt.toNat a) := by
  obtain ⟨w1, w2, w3, r59⟩ := wf_row h r0 r1
  have tu := wf_turned h r0 r1 a0 a1
  obtain ⟨⟨b9, b8, b7, b6⟩, hr, hp⟩ := h
  have R := hr r.toInt.toNat (by omega)
  have e := ix_38 (a := a) (x := σ.1 22 (60 + r.toInt.toNat)) a0 a1 rfl R.1.1 (by omega)
  have en : (38 * a + σ.1 22 (60 + r.toInt.toNat)).toNatClampNeg = 38 * a.toInt.toNat + pO σ r.toInt.toNat := by rw [n_toInt]; unfold pO; omega
  unfold fX10_put
  rw [q_bd w1, q_gd (gb_of (by omega) (by omega)), nm_eq, q_bd tu, en]
  rfl
/-- a new place -/
noncomputable def nw (W s old : Int) : Int := if 0 < W then BE W s old else old
/-- one place is made anew; the means' cells are left as they are -/
noncomputable def MV (σ : gS) (I : Nat) (x : Int) (o : Int32 × gS) : Prop := (∀ k, k ≠ 0 → k ≠ 28 → o.2.1 k = σ.1 k) ∧ (∀ i, i ≠ 41 → o.2.1 0 i = σ.1 0 i) ∧ (∀ i, i ≠ I → o.2.1 28 i = σ.1 28 i) ∧ (o.2.1 28 I).toInt = x ∧ (o.1 = if (σ.1 28 I).toInt = x then 0 else 1) ∧ ∀ k i, ¬ (k = 0 ∧ i = 40) → o.2.2 k i = σ.2 k i
/-- means are being gathered -/
noncomputable def GA (σ : gS) (W s : Int) (τ : gS) : Prop := (∀ k, k ≠ 0 → τ.1 k = σ.1 k) ∧ (∀ i, i ≠ 41 → τ.1 0 i = σ.1 0 i) ∧ (∀ k i, ¬ (k = 0 ∧ i = 40) → τ.2 k i = σ.2 k i) ∧ (τ.1 0 41).toInt = W ∧ (τ.2 0 40).toInt = s
theorem GA_0 (σ : gS) : ∃ τ, fX10_noMean σ = some τ ∧ GA σ 0 0 τ := by
  refine ⟨_, rfl, fun k hk => gsI_row hk, fun i hi => ?_, fun k i hk => ?_, ?_, ?_⟩
  · show (gsI (gsL σ 0 40 0) 0 41 0).1 0 i = _
    rw [gsI_at, if_neg hi]
    rfl
  · show (gsL σ 0 40 0).2 k i = _
    rw [gsL_2, if_neg hk]
  · show ((gsI (gsL σ 0 40 0) 0 41 0).1 0 41).toInt = 0
    rw [gsI_at, if_pos rfl]
    decide
  · show ((gsL σ 0 40 0).2 0 40).toInt = 0
    rw [gsL_2, if_pos ⟨rfl, rfl⟩]
    decide
theorem GA_add {σ τ : gS} {W s : Int} {w t : Int32} (h : GA σ W s τ) (w0 : 0 ≤ w.toInt) (w1 : w.toInt ≤ 9) (W0 : 0 ≤ W) (W1 : W ≤ 1000) (s0 : -2147483648 * W ≤ s) (s1 : s ≤ 2147483647 * W) : ∃ ρ, fX10_mean τ w t = some ρ ∧ GA σ (W + w.toInt) (s + w.toInt * t.toInt) ρ := by
  obtain ⟨h1, h2, h3, h4, h5⟩ := h
  have tl := Int32.le_toInt t
  have th := i32_hi t
  have a := Int.mul_le_mul_of_nonneg_left tl w0
  have b := Int.mul_le_mul_of_nonneg_left th w0
  refine ⟨_, rfl, fun k hk => (gsI_row hk).trans (h1 k hk), fun i hi => ?_, fun k i hk => ?_, ?_, ?_⟩
  · show (gsI (gsL τ 0 40 _) 0 41 _).1 0 i = _
    rw [gsI_at, if_neg hi]
    exact h2 i hi
  · show (gsL τ 0 40 _).2 k i = _
    rw [gsL_2, if_neg hk]
    exact h3 k i hk
  · show ((gsI (gsL τ 0 40 _) 0 41 (τ.1 0 41 + w)).1 0 41).toInt = _
    rw [gsI_at, if_pos rfl, iadd_toInt (by rw [h4]; omega) (by rw [h4]; omega), h4]
  · show ((gsL τ 0 40 (τ.2 0 40 + w.toInt64 * t.toInt64)).2 0 40).toInt = _
    have m : (w.toInt64 * t.toInt64).toInt = w.toInt * t.toInt := by rw [lmul_toInt (by rw [i64_of, i64_of]; omega) (by rw [i64_of, i64_of]; omega), i64_of, i64_of]
    rw [gsL_2, if_pos ⟨rfl, rfl⟩, ladd_toInt (by rw [h5, m]; omega) (by rw [h5, m]; omega), h5, m]
theorem GA_end {σ τ : gS} {W s : Int} {i : Int32} (h : GA σ W s τ) (i0 : 0 ≤ i.toInt) (i1 : i.toInt < 76) (W0 : 0 ≤ W) (W1 : W ≤ 1000) (s0 : -2147483648 * W ≤ s) (s1 : s ≤ 2147483647 * W) : ∃ o, fX10_becomes τ i = some o ∧ vp_nar .boolean o.1 = o.1 ∧ MV σ i.toInt.toNat (nw W s (σ.1 28 i.toInt.toNat).toInt) o := by
  obtain ⟨h1, h2, h3, h4, h5⟩ := h
  by_cases z : 0 < W
  · obtain ⟨v, v1, v2⟩ := m_become (σ := τ) i0 i1 h4 z W1 h5 s0 s1
    rw [h1 28 (by decide)] at v1 v2
    refine ⟨_, v2, ?_, fun k k0 k1 => (gsI_row k1).trans (h1 k k0), fun j hj => ?_, fun j hj => ?_, ?_, ?_, fun k j hk => h3 k j hk⟩
    · by_cases y : σ.1 28 i.toInt.toNat = v
      · rw [if_pos y]; exact nb0
      · rw [if_neg y]; exact nb1
    · show (gsI τ 28 i.toInt.toNat v).1 0 j = _
      rw [gsI_row (by decide)]
      exact h2 j hj
    · show (gsI τ 28 i.toInt.toNat v).1 28 j = _
      rw [gsI_at, if_neg hj, h1 28 (by decide)]
    · show ((gsI τ 28 i.toInt.toNat v).1 28 i.toInt.toNat).toInt = _
      rw [gsI_at, if_pos rfl, v1]
      exact (if_pos z).symm
    · show (if σ.1 28 i.toInt.toNat = v then (0 : Int32) else 1) = _
      unfold nw
      rw [if_pos z]
      by_cases y : σ.1 28 i.toInt.toNat = v
      · rw [if_pos y, if_pos (by rw [← v1, y])]
      · rw [if_neg y, if_neg (fun x => y (Int32.toInt_inj.mp (by rw [v1]; exact x)))]
  · have e : fX10_becomes τ i = some (0, τ) := by
      unfold fX10_becomes
      exact if_pos (Int32.toInt_inj.mp (by rw [h4, z0]; omega))
    refine ⟨_, e, nb0, fun k k0 k1 => h1 k k0, h2, fun j hj => by show τ.1 28 j = _; rw [h1 28 (by decide)], ?_, ?_, h3⟩
    · show (τ.1 28 i.toInt.toNat).toInt = _
      rw [h1 28 (by decide)]
      exact (if_neg z).symm
    · unfold nw
      rw [if_neg z, if_pos rfl]
noncomputable def wO (σ : gS) (r : Nat) : Int := (σ.1 25 (60 + r)).toInt
theorem GA_wf {σ τ : gS} {W s : Int} (h : WF σ) (g : GA σ W s τ) : WF τ := WF_eq h (fun k k0 _ => g.1 k k0)
theorem GA_tO {σ τ : gS} {W s : Int} (g : GA σ W s τ) (r : Nat) (a : Int32) : tO τ r a = tO σ r a := by
  unfold tO pO
  rw [g.1 27 (by decide), g.1 22 (by decide), g.1 24 (by decide)]
theorem GA_puO {σ τ : gS} {W s : Int} (g : GA σ W s τ) (r : Nat) (a : Int32) : puO τ r a = puO σ r a := by
  unfold puO
  rw [GA_tO g]
  unfold pO
  rw [g.1 28 (by decide), g.1 22 (by decide)]
theorem wf_w {σ : gS} (h : WF σ) {n : Nat} (hn : (n : Int) ≤ (σ.1 15 9).toInt) : ∀ r, r < n → 0 ≤ wO σ r ∧ wO σ r ≤ 9 := fun r hr => by
  have := (h.2.1 r (by omega)).2.2
  unfold wO
  omega
theorem sW_in' {u : Nat → Bool} {σ : gS} (h : WF σ) {n : Nat} (hn : (n : Int) ≤ (σ.1 15 9).toInt) : 0 ≤ sW n u (wO σ) ∧ sW n u (wO σ) ≤ 540 := by
  have a := sW_in (u := u) n (fun r hr _ => wf_w h hn r hr)
  have := h.1.1.2
  omega
theorem sS_in' {u : Nat → Bool} {t : Nat → Int32} {σ : gS} (h : WF σ) {n : Nat} (hn : (n : Int) ≤ (σ.1 15 9).toInt) : -2147483648 * sW n u (wO σ) ≤ sS n u (wO σ) (fun r => (t r).toInt) ∧ sS n u (wO σ) (fun r => (t r).toInt) ≤ 2147483647 * sW n u (wO σ) :=
  sS_in n (fun r hr _ => ⟨wf_w h hn r hr, Int32.le_toInt _, i32_hi _⟩)
/-- the rows in use of a point, of a picture -/
noncomputable def uQ (σ : gS) (q : Nat) (r : Nat) : Bool := decide (σ.1 26 r = 0 ∧ qO σ r = q)
noncomputable def uP (σ : gS) (p : Nat) (r : Nat) : Bool := decide (σ.1 26 r = 0 ∧ pO σ r = p)
noncomputable def nQ (σ : gS) (q : Nat) (a : Int32) : Int := nw (sW (σ.1 15 9).toInt.toNat (uQ σ q) (wO σ)) (sS (σ.1 15 9).toInt.toNat (uQ σ q) (wO σ) (fun r => (puO σ r a).toInt)) (σ.1 28 (38 * a.toInt.toNat + (12 + q))).toInt
theorem m_point {σ : gS} (h : WF σ) {q a : Int32} (q0 : 0 ≤ q.toInt) (q1 : q.toInt < (σ.1 15 8).toInt) (a0 : 0 ≤ a.toInt) (a1 : a.toInt ≤ 1) : Ok (fX10_isPointAltered σ q a) (MV σ (38 * a.toInt.toNat + (12 + q.toInt.toNat)) (nQ σ q.toInt.toNat a)) := by
  obtain ⟨σ2, e0, g0⟩ := GA_0 σ
  have l12 : (12 : Int32).toInt = 12 := by decide
  have z0' := z0
  obtain ⟨b9, b8, b7, b6⟩ := h.1
  have ei := ix_38b (a := a) (x := 12) (y := q) a0 a1 l12 (by decide) (by decide) rfl q0 (by omega)
  have en : (38 * a + 12 + q).toInt.toNat = 38 * a.toInt.toNat + (12 + q.toInt.toNat) := by omega
  unfold fX10_isPointAltered
  rw [q_bd e0, nm_eq]
  refine ok_lpc (I := fun (n : Nat) (s : Int32 × gS) => n = ((σ.1 15 9).toInt - s.1.toInt).toNat ∧ 0 ≤ s.1.toInt ∧ s.1.toInt ≤ (σ.1 15 9).toInt ∧ GA σ (sW s.1.toInt.toNat (uQ σ q.toInt.toNat) (wO σ)) (sS s.1.toInt.toNat (uQ σ q.toInt.toNat) (wO σ) (fun r => (puO σ r a).toInt)) s.2) (fun rec n s hs hrec => ?_) K9 (σ.1 15 9).toInt.toNat (0, σ2) ⟨by dsimp only; omega, by dsimp only; omega, by dsimp only; omega, g0⟩ (by unfold K9; omega)
  obtain ⟨k, τ⟩ := s
  obtain ⟨hn, k0, k1, g⟩ := hs
  dsimp only at hn k0 k1 g ⊢
  have sw := sW_in' (u := uQ σ q.toInt.toNat) h (n := k.toInt.toNat) (by omega)
  have ss := sS_in' (u := uQ σ q.toInt.toNat) (t := fun r => puO σ r a) h (n := k.toInt.toNat) (by omega)
  have hτ := GA_wf h g
  have er : τ.1 15 9 = σ.1 15 9 := by rw [g.1 15 (by decide)]
  unfold bX10_isPointAltered_6
  rw [q_bd (m_rows τ), er]
  refine ok_ite.mpr ⟨fun hk => ?_, fun hk => ?_⟩
  · have : k.toInt.toNat = (σ.1 15 9).toInt.toNat := by have := Int32.le_iff_toInt_le.mp hk; omega
    rw [this] at sw ss g
    obtain ⟨o, o1, o2, o3⟩ := GA_end g (i := 38 * a + 12 + q) (by omega) (by omega) sw.1 (by omega) ss.1 ss.2
    rw [q_bd2 o1, o2]
    rw [en] at o3
    exact ok_some.mpr o3
  · have hlt := q_gt hk
    have e1 := i_inc (a := k) (c := 60) (by omega) (by omega) (by decide)
    have ek : (k + 1).toInt.toNat = k.toInt.toNat + 1 := by omega
    obtain ⟨w1, w2, w3, r59⟩ := wf_row hτ (r := k) k0 (by rw [er]; exact hlt)
    have R := h.2.1 k.toInt.toNat (by omega)
    have skip : uQ σ q.toInt.toNat k.toInt.toNat = false → Ok (nm (k + 1 : Int32) fun x => rec (x, τ)) (MV σ (38 * a.toInt.toNat + (12 + q.toInt.toNat)) (nQ σ q.toInt.toNat a)) := fun hu => by
      rw [nm_eq]
      refine hrec ((σ.1 15 9).toInt - (k + 1).toInt).toNat (k + 1, τ) (by omega) ⟨rfl, by dsimp only; omega, by dsimp only; omega, ?_⟩
      dsimp only
      rw [ek]
      unfold sW sS
      rw [if_neg (by rw [hu]; decide), if_neg (by rw [hu]; decide), Int.add_zero, Int.add_zero]
      exact g
    refine ok_gd.mpr ⟨gb_of (by omega) (by omega), ?_⟩
    rw [nm_eq, n_toInt, g.1 26 (by decide)]
    refine ok_ite.mpr ⟨fun hd => ?_, fun hd => skip (decide_eq_false (fun z => hd z.1))⟩
    rw [q_bd w2, g.1 23 (by decide)]
    refine ok_ite.mpr ⟨fun hq => ?_, fun hq => skip (decide_eq_false (fun z => hq (Int32.toInt_inj.mp (by have := z.2; unfold qO at this; omega))))⟩
    obtain ⟨ρ, m1, m2⟩ := GA_add (t := puO σ k.toInt.toNat a) g (w := σ.1 25 (60 + k.toInt.toNat)) (by omega) (by omega) sw.1 (by omega) ss.1 ss.2
    rw [q_bd w3, g.1 25 (by decide), q_bd (wf_put hτ k0 (by rw [er]; exact hlt) a0 a1), GA_puO g, q_bd m1, nm_eq]
    refine hrec ((σ.1 15 9).toInt - (k + 1).toInt).toNat (k + 1, ρ) (by omega) ⟨rfl, by dsimp only; omega, by dsimp only; omega, ?_⟩
    dsimp only
    rw [ek]
    unfold sW sS
    have hu : uQ σ q.toInt.toNat k.toInt.toNat = true := decide_eq_true ⟨hd, by unfold qO; rw [hq]⟩
    rw [if_pos hu, if_pos hu]
    exact m2
end P12K
