/-! TIES, 2: the class's survey -/
section P12ZY
theorem GE_lo {σ τ s : gS} (h : GE σ s) (f : ∀ k, k < 142 → τ.1 k = σ.1 k) : GE τ s := by
  obtain ⟨g1, g2, g3, g4, g5, g6, g7, g8⟩ := h
  unfold GE MSd
  rw [f 47 (by decide), f 48 (by decide), f 58 (by decide), f 13 (by decide), f 14 (by decide)]
  refine ⟨g1, g2, g3, fun a p ha hp => ?_, fun a p ha hp => ?_, fun a p ha hp => ?_, g7, g8⟩
  · rw [f _ (by omega)]; exact g4 a p ha hp
  · rw [f _ (by omega)]; exact g5 a p ha hp
  · rw [f _ (by omega)]; exact g6 a p ha hp
theorem TR_lo {σ τ s : gS} (h : TRd σ s) (f : ∀ k, k < 142 → τ.1 k = σ.1 k) : TRd τ s := TR_k h (fun k hk => f k (by omega)) (fun _ _ _ => rfl) rfl
/-- rows of pictures and points, as the class lays them -/
noncomputable def MX (s τ : gS) : Prop := ∀ p q : Nat, (p : Int) < (s.1 15 7).toInt → (q : Int) < (s.1 15 8).toInt → τ.1 (142 + p) q = RW9 s (Int32.ofNat p) (Int32.ofNat q)
/-- one tie, as the class lays it -/
noncomputable def TT (s τ : gS) (p1 p2 : Nat) : Prop := τ.1 (155 + p1) p2 = tC s (Int32.ofNat p1) (Int32.ofNat p2) (s.1 15 8).toInt.toNat ∧ (0 < (tC s (Int32.ofNat p1) (Int32.ofNat p2) (s.1 15 8).toInt.toNat).toInt → (τ.1 (168 + p1) p2).toInt = (tS s (Int32.ofNat p1) (Int32.ofNat p2) 0 (s.1 15 8).toInt.toNat).toInt / (tC s (Int32.ofNat p1) (Int32.ofNat p2) (s.1 15 8).toInt.toNat).toInt ∧ (τ.1 (181 + p1) p2).toInt = (tS s (Int32.ofNat p1) (Int32.ofNat p2) 1 (s.1 15 8).toInt.toNat).toInt / (tC s (Int32.ofNat p1) (Int32.ofNat p2) (s.1 15 8).toInt.toNat).toInt)
noncomputable def LO (σ τ : gS) : Prop := (∀ k, k < 142 ∨ 193 ≤ k → τ.1 k = σ.1 k) ∧ τ.2 = σ.2
noncomputable def PT3 (τ κ : gS) (p1 p2 : Nat) : Prop := (∀ k, k ≠ 155 + p1 → k ≠ 168 + p1 → k ≠ 181 + p1 → κ.1 k = τ.1 k) ∧ κ.2 = τ.2 ∧ (∀ i, i ≠ p2 → κ.1 (155 + p1) i = τ.1 (155 + p1) i ∧ κ.1 (168 + p1) i = τ.1 (168 + p1) i ∧ κ.1 (181 + p1) i = τ.1 (181 + p1) i)
theorem sz_t : ∀ p : Fin 12, gsz zC.1 0 0 (168 + p.1) = 12 ∧ gis zC.1 0 0 (142 + p.1) = true ∧ gsz zC.1 0 0 (142 + p.1) = 20 := by decide
set_option maxHeartbeats 1000000 in
theorem k_st7 {σ s τ : gS} (h : GT σ s) (f : LO σ τ) (m : MX s τ) {p1 p2 : Int32} (h1 : 0 ≤ p1.toInt) (g1 : p1.toInt < (s.1 15 7).toInt) (h2 : 0 ≤ p2.toInt) (g2 : p2.toInt < (s.1 15 7).toInt) : Ok (fX7_surveyTie τ p1 p2) (fun κ => PT3 τ κ p1.toInt.toNat p2.toInt.toNat ∧ TT s κ p1.toInt.toNat p2.toInt.toNat) := by
  have w := wf_gt h
  obtain ⟨b9, b8, b7, b6⟩ := gt_n h
  have z0' := z0
  have fl : ∀ k, k < 142 → τ.1 k = σ.1 k := fun k hk => f.1 k (.inl hk)
  have T := TR_lo h.2.2.1 fl
  have E := GE_lo h.2.2.2 fl
  have e2 : τ.1 3 ((2 : Int32).toNatClampNeg) = s.1 15 8 := (tr_n T).2.1
  have o1 : Int32.ofNat p1.toInt.toNat = p1 := i32_of h1
  have o2 : Int32.ofNat p2.toInt.toNat = p2 := i32_of h2
  have ga := gb_of (i := p1) (n := 12) h1 (by omega)
  have gb2 := gb_of (i := p2) (n := 12) h2 (by omega)
  have gz : gsz zC.1 0 0 (168 + p1.toInt.toNat) = 12 := (sz_t ⟨p1.toInt.toNat, by omega⟩).1
  unfold fX7_surveyTie
  rw [nm_eq, nm_eq, nm_eq, nm_eq]
  refine ok_lpc (I := fun (n : Nat) (t : Int32 × Int64 × Int64 × Int32) => n = ((s.1 15 8).toInt - t.2.2.2.toInt).toNat ∧ 0 ≤ t.2.2.2.toInt ∧ t.2.2.2.toInt ≤ (s.1 15 8).toInt ∧ t.1 = tC s p1 p2 t.2.2.2.toInt.toNat ∧ t.2.1 = tS s p1 p2 0 t.2.2.2.toInt.toNat ∧ t.2.2.1 = tS s p1 p2 1 t.2.2.2.toInt.toNat) (fun rec n t hs hrec => ?_) K9 (s.1 15 8).toInt.toNat (0, 0, 0, 0) ⟨by dsimp only; omega, by dsimp only; omega, by dsimp only; omega, rfl, rfl, rfl⟩ (by unfold K9; omega)
  obtain ⟨c, x, y, q⟩ := t
  obtain ⟨hn, q0, q1, hc, hx, hy⟩ := hs
  dsimp only at hn q0 q1 hc hx hy ⊢
  unfold bX7_surveyTie_11
  rw [q_gd (by decide), nm_eq, e2]
  refine ok_ite.mpr ⟨fun hk => ?_, fun hk => ?_⟩
  · have hk' := Int32.le_iff_toInt_le.mp hk
    rw [show q.toInt.toNat = (s.1 15 8).toInt.toNat by omega] at hc hx hy
    have c1 := tC_in s p1 p2 (s.1 15 8).toInt.toNat (by omega)
    have s0 := tS_in h p1 p2 0 (s.1 15 8).toInt.toNat (by omega)
    have s1 := tS_in h p1 p2 1 (s.1 15 8).toInt.toNat (by omega)
    rw [← hc] at c1 s0 s1
    rw [← hx] at s0
    rw [← hy] at s1
    rw [q_gd ga, q_gd gb2, nm_eq, q_gd ga, n_toInt, n_toInt]
    have fin : ∀ (u v : Int32), (0 < c.toInt → u.toInt = x.toInt / c.toInt ∧ v.toInt = y.toInt / c.toInt) → PT3 τ (gsI (gsI (gsI τ (155 + p1.toInt.toNat) p2.toInt.toNat c) (168 + p1.toInt.toNat) p2.toInt.toNat u) (181 + p1.toInt.toNat) p2.toInt.toNat v) p1.toInt.toNat p2.toInt.toNat ∧ TT s (gsI (gsI (gsI τ (155 + p1.toInt.toNat) p2.toInt.toNat c) (168 + p1.toInt.toNat) p2.toInt.toNat u) (181 + p1.toInt.toNat) p2.toInt.toNat v) p1.toInt.toNat p2.toInt.toNat := fun u v huv => by
      refine ⟨⟨fun k k1 k2 k3 => by rw [gsI_row k3, gsI_row k2, gsI_row k1], rfl, fun i hi => ⟨?_, ?_, ?_⟩⟩, ?_, ?_⟩
      · rw [gsI_row (by omega), gsI_row (by omega), gsI_at, if_neg hi]
      · rw [gsI_row (by omega), gsI_at, if_neg hi, gsI_row (by omega)]
      · rw [gsI_at, if_neg hi, gsI_row (by omega), gsI_row (by omega)]
      · rw [gsI_row (by omega), gsI_row (by omega), gsI_at, if_pos rfl, o1, o2, hc]
      · rw [o1, o2, ← hc, ← hx, ← hy]
        intro hp
        rw [gsI_row (by omega), gsI_at, if_pos rfl, gsI_at, if_pos rfl]
        exact huv hp
    by_cases z : c = 0
    · rw [if_pos z]
      unfold jX7_surveyTie_157
      rw [gz, q_gd gb2, nm_eq, q_gd ga, if_pos z, q_gd gb2, nm_eq, n_toInt, n_toInt]
      exact ok_some.mpr (fin 0 0 (fun y => by rw [z, z0] at y; omega))
    · have cp : 0 < c.toInt := by
        have : c.toInt ≠ 0 := fun y => z (Int32.toInt_inj.mp (by omega))
        omega
      have ek : c.toInt64.toInt = c.toInt := Int32.toInt_toInt64 c
      rw [if_neg z]
      obtain ⟨f0, ef0, vf0⟩ := r_floor (gsI τ (155 + p1.toInt.toNat) p2.toInt.toNat c) (x := x) (c := c.toInt64) (M := 1999800) (by rw [ek]; exact cp) (by rw [ek, Int.neg_mul]; exact s0.1) (by rw [ek]; exact s0.2) (by decide) (by rw [ek]; omega)
      rw [q_bd ef0]
      unfold jX7_surveyTie_157
      obtain ⟨f1, ef1, vf1⟩ := r_floor (gsI (gsI τ (155 + p1.toInt.toNat) p2.toInt.toNat c) (168 + p1.toInt.toNat) p2.toInt.toNat f0.toInt32) (x := y) (c := c.toInt64) (M := 1999800) (by rw [ek]; exact cp) (by rw [ek, Int.neg_mul]; exact s1.1) (by rw [ek]; exact s1.2) (by decide) (by rw [ek]; omega)
      rw [gz, q_gd gb2, nm_eq, q_gd ga, if_neg z, n_toInt, n_toInt, q_bd ef1, q_gd gb2, nm_eq]
      rw [ek] at vf0 vf1
      have i0 := fl_in cp s0.1 s0.2
      have i1 := fl_in cp s1.1 s1.2
      exact ok_some.mpr (fin f0.toInt32 f1.toInt32 (fun _ => ⟨by rw [Int64.toInt_toInt32, vf0]; exact Int.bmod_eq_of_le (by omega) (by omega), by rw [Int64.toInt_toInt32, vf1]; exact Int.bmod_eq_of_le (by omega) (by omega)⟩))
  have hlt := q_gt hk
  have ei := i_inc (a := q) (c := 60) (by omega) (by omega) (by decide)
  have eq : Int32.ofNat q.toInt.toNat = q := i32_of q0
  have en : (q + 1).toInt.toNat = q.toInt.toNat + 1 := by omega
  have go : ∀ (c1 : Int32) (x1 y1 : Int64), c1 = (if bo s p1 p2 q.toInt.toNat = true then c + 1 else c) → x1 = (if bo s p1 p2 q.toInt.toNat = true then x + tDf s p1 p2 0 q.toInt.toNat else x) → y1 = (if bo s p1 p2 q.toInt.toNat = true then y + tDf s p1 p2 1 q.toInt.toNat else y) → Ok (rec (c1, x1, y1, q + 1)) (fun κ => PT3 τ κ p1.toInt.toNat p2.toInt.toNat ∧ TT s κ p1.toInt.toNat p2.toInt.toNat) := fun c1 x1 y1 h1 h2 h3 => hrec ((s.1 15 8).toInt - (q + 1).toInt).toNat _ (by omega) ⟨rfl, by dsimp only; omega, by dsimp only; omega, by
    dsimp only
    rw [en, h1, hc]
    rfl, by
    dsimp only
    rw [en, h2, hx]
    rfl, by
    dsimp only
    rw [en, h3, hy]
    rfl⟩
  unfold bo tDf at go
  rw [eq] at go
  have m1 := m p1.toInt.toNat q.toInt.toNat (by omega) (by omega)
  have m2 := m p2.toInt.toNat q.toInt.toNat (by omega) (by omega)
  rw [o1, eq] at m1
  rw [o2, eq] at m2
  simp only [nm_eq]
  rw [q_gd ga, q_gd (gb_of q0 (by omega)), q_gd gb2, q_gd (gb_of q0 (by omega)), n_toInt, n_toInt, n_toInt, m1, m2]
  refine ok_ite.mpr ⟨fun z => go c x y ?_ ?_ ?_, fun z => ?_⟩
  · rw [if_neg (fun y => (of_decide_eq_true y).1 z)]
  · rw [if_neg (fun y => (of_decide_eq_true y).1 z)]
  · rw [if_neg (fun y => (of_decide_eq_true y).1 z)]
  refine ok_ite.mpr ⟨fun v => go c x y ?_ ?_ ?_, fun v => ?_⟩
  · rw [if_neg (fun x => (of_decide_eq_true x).2 v)]
  · rw [if_neg (fun x => (of_decide_eq_true x).2 v)]
  · rw [if_neg (fun x => (of_decide_eq_true x).2 v)]
  obtain ⟨r1, k1, e1, -⟩ := ro_in w z
  obtain ⟨r2, k2, e2, -⟩ := ro_in w v
  have i1 : (RW9 s p1 q).toInt = r1 := by rw [e1, iofNat_toInt (by omega)]
  have i2 : (RW9 s p2 q).toInt = r2 := by rw [e2, iofNat_toInt (by omega)]
  have tu := fun (r a : Int32) r0 r1 a0 a1 => (tu_2 (σC := τ) (σM := s) ⟨h.2.1, T⟩ E (r := r) (a := a) r0 r1 a0 a1).1
  rw [q_bd (tu (RW9 s p1 q) 0 (by omega) (by omega) (by decide) (by decide)), q_bd (tu (RW9 s p2 q) 0 (by omega) (by omega) (by decide) (by decide)), q_bd (tu (RW9 s p1 q) 1 (by omega) (by omega) (by decide) (by decide)), q_bd (tu (RW9 s p2 q) 1 (by omega) (by omega) (by decide) (by decide))]
  refine go _ _ _ ?_ ?_ ?_
  · rw [if_pos (decide_eq_true ⟨z, v⟩)]
  · rw [if_pos (decide_eq_true ⟨z, v⟩)]
  · rw [if_pos (decide_eq_true ⟨z, v⟩)]
end P12ZY
