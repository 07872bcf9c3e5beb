/-! THE GEOMETRY: a round, on the class's side: pictures, drifts -/
section P12Q
noncomputable def nPK (σ : gS) (a p : Nat) : Int := nw (sW (σ.1 3 3).toInt.toNat (uPK σ p) (wK σ) + cK σ p) (sS (σ.1 3 3).toInt.toNat (uPK σ p) (wK σ) (fun r => (tPK σ a r).toInt) + cK σ p * (cTK σ p a).toInt) (σ.1 (50 + a) p).toInt
noncomputable def nDK (σ : gS) (a s : Nat) : Int := nw (sW (σ.1 3 1).toInt.toNat (uDK σ s) (cK σ)) (sS (σ.1 3 1).toInt.toNat (uDK σ s) (cK σ) (fun p => (tDK σ a p).toInt)) (σ.1 (56 + a) s).toInt
set_option maxHeartbeats 1000000 in
theorem c_pictures {σ : gS} (h : WFC σ) {a : Int32} (a0 : 0 ≤ a.toInt) (a1 : a.toInt ≤ 1) : Ok (fX1_movePictures σ a) (CV σ (50 + a.toInt.toNat) (σ.1 3 1).toInt.toNat (nPK σ a.toInt.toNat)) := by
  have z0' := z0
  obtain ⟨b9, b8, b7, b6⟩ := h.1
  have ga := gb_of (i := a) (n := 2) (by omega) (by omega)
  unfold fX1_movePictures
  refine ok_bd.mpr ((GC_0 σ).mono (fun σ2 g0 => ?_))
  rw [nm_eq]
  refine ok_lpc (I := fun (n : Nat) (s : Int32 × gS) => n = ((σ.1 3 3).toInt - s.1.toInt).toNat ∧ 0 ≤ s.1.toInt ∧ s.1.toInt ≤ (σ.1 3 3).toInt ∧ GC σ (fun q => sW s.1.toInt.toNat (uPK σ q) (wK σ)) (fun q => sS s.1.toInt.toNat (uPK σ q) (wK σ) (fun r => (tPK σ a.toInt.toNat r).toInt)) s.2) (fun rec n s hs hrec => ?_) K9 (σ.1 3 3).toInt.toNat (0, σ2) ⟨by dsimp only; omega, by dsimp only; omega, by dsimp only; omega, g0⟩ (by unfold K9; omega)
  obtain ⟨k, τ⟩ := s
  obtain ⟨hn, k0, k1, g⟩ := hs
  dsimp only at hn k0 k1 g ⊢
  have e3 : τ.1 3 ((3 : Int32).toNatClampNeg) = σ.1 3 3 := by rw [g.1]; rfl
  unfold bX1_movePictures_6
  rw [q_gd (by decide), nm_eq, e3]
  refine ok_ite.mpr ⟨fun hk => ?_, fun hk => ?_⟩
  · have ek : k.toInt.toNat = (σ.1 3 3).toInt.toNat := by have := Int32.le_iff_toInt_le.mp hk; omega
    rw [ek] at g
    rw [nm_eq]
    have sw : ∀ q, 0 ≤ sW (σ.1 3 3).toInt.toNat (uPK σ q) (wK σ) ∧ sW (σ.1 3 3).toInt.toNat (uPK σ q) (wK σ) ≤ 540 := fun q => sWK h (by omega)
    have ss : ∀ q, -2147483648 * sW (σ.1 3 3).toInt.toNat (uPK σ q) (wK σ) ≤ sS (σ.1 3 3).toInt.toNat (uPK σ q) (wK σ) (fun r => (tPK σ a.toInt.toNat r).toInt) ∧ sS (σ.1 3 3).toInt.toNat (uPK σ q) (wK σ) (fun r => (tPK σ a.toInt.toNat r).toInt) ≤ 2147483647 * sW (σ.1 3 3).toInt.toNat (uPK σ q) (wK σ) := fun q => sSK h (by omega)
    refine ok_lpc (I := fun (n : Nat) (s : Int32 × gS) => n = ((σ.1 3 1).toInt - s.1.toInt).toNat ∧ 0 ≤ s.1.toInt ∧ s.1.toInt ≤ (σ.1 3 1).toInt ∧ GC σ (fun q => sW (σ.1 3 3).toInt.toNat (uPK σ q) (wK σ) + if (q : Int) < s.1.toInt then cK σ q else 0) (fun q => sS (σ.1 3 3).toInt.toNat (uPK σ q) (wK σ) (fun r => (tPK σ a.toInt.toNat r).toInt) + if (q : Int) < s.1.toInt then cK σ q * (cTK σ q a.toInt.toNat).toInt else 0) s.2) (fun rec n s hs hrec => ?_) K9 (σ.1 3 1).toInt.toNat (0, τ) ⟨by dsimp only; omega, by dsimp only; omega, by dsimp only; omega, GC_eq g (fun q hq => ⟨by dsimp only; rw [if_neg (by omega), Int.add_zero], by dsimp only; rw [if_neg (by omega), Int.add_zero]⟩)⟩ (by unfold K9; omega)
    obtain ⟨k, τ⟩ := s
    obtain ⟨hn, k0, k1, g⟩ := hs
    dsimp only at hn k0 k1 g ⊢
    have e2 : τ.1 3 ((1 : Int32).toNatClampNeg) = σ.1 3 1 := by rw [g.1]; rfl
    unfold bX1_movePictures_93
    rw [q_gd (by decide), nm_eq, e2]
    refine ok_ite.mpr ⟨fun hk => ?_, fun hk => ?_⟩
    · have hk := Int32.le_iff_toInt_le.mp hk
      rw [q_gd ga, q_gd (by decide), nm_eq, n_toInt]
      have hm := c_moveEach (σ := τ) (c := 50 + a.toInt.toNat) (n := σ.1 3 1) (by omega) (by omega) (by rw [z50 (by omega)]; omega) g.2.2 (fun q hq => by
        by_cases z : (q : Int) < k.toInt
        · rw [if_pos z, if_pos z]
          have C := (h.2.2 q (by omega)).2
          have hc : 0 ≤ cK σ q ∧ cK σ q ≤ 9 := C
          have tl := Int.mul_le_mul_of_nonneg_left (Int32.le_toInt (cTK σ q a.toInt.toNat)) hc.1
          have th := Int.mul_le_mul_of_nonneg_left (i32_hi (cTK σ q a.toInt.toNat)) hc.1
          have s1 := sw q
          have s2 := ss q
          exact .inl ⟨by omega, by omega, by omega, by omega⟩
        · rw [if_neg z, if_neg z, Int.add_zero, Int.add_zero]
          have s1 := sw q
          exact .inl ⟨s1.1, by omega, (ss q).1, (ss q).2⟩)
      refine ok_bd2.mpr (hm.mono (fun o ho => ?_))
      obtain ⟨m1, m2, m3, m4, m5, m6⟩ := ho
      rw [vpb m5]
      refine ok_some.mpr ⟨fun k hk => (m1 k hk).trans (by rw [g.1]), fun k k1 k2 => by rw [m2]; exact g.2.1 k k1 k2, fun j hj => ?_, fun j hj => by rw [m4 j hj, g.1], m5, by rw [m6, g.1]⟩
      rw [m3 j hj, g.1]
      unfold nPK
      dsimp only
      rw [if_pos (show (j : Int) < k.toInt by omega), if_pos (show (j : Int) < k.toInt by omega)]
    · have hlt := q_gt hk
      have e1 := i_inc (a := k) (c := 60) (by omega) (by omega) (by decide)
      have gk := gb_of (i := k) (n := 12) (by omega) (by omega)
      have C := h.2.2 k.toInt.toNat (by omega)
      have ct : fX5_centreAt_47 τ k a = some (cTK σ k.toInt.toNat a.toInt.toNat) := by
        unfold fX5_centreAt_47
        rw [q_gd ga, q_gd gk, nm_eq, n_toInt, g.1, q_gd (gb_of (by omega) (by omega)), nm_eq, q_gd ga, q_gd gk, nm_eq, n_toInt, n_toInt]
        rfl
      have s1 := sw k.toInt.toNat
      have s2 := ss k.toInt.toNat
      obtain ⟨ρ, m1, m2⟩ := GC_add (q := k) (w := σ.1 20 k.toInt.toNat) (t := cTK σ k.toInt.toNat a.toInt.toNat) g k0 (by omega) C.2.1 C.2.2 (by rw [if_neg (by omega)]; omega) (by rw [if_neg (by omega)]; omega) (by rw [if_neg (by omega), if_neg (by omega), Int.add_zero, Int.add_zero]; exact s2.1) (by rw [if_neg (by omega), if_neg (by omega), Int.add_zero, Int.add_zero]; exact s2.2)
      rw [q_gd gk, nm_eq, n_toInt, q_bd ct, g.1, q_bd m1, nm_eq]
      refine hrec ((σ.1 3 1).toInt - (k + 1).toInt).toNat (k + 1, ρ) (by omega) ⟨rfl, by dsimp only; omega, by dsimp only; omega, GC_eq m2 (fun q hq => ?_)⟩
      dsimp only
      by_cases z : q = k.toInt.toNat
      · rw [if_neg (show ¬ (q : Int) < k.toInt by omega), if_neg (show ¬ (q : Int) < k.toInt by omega), if_pos z, if_pos z, if_pos (show (q : Int) < (k + 1).toInt by omega), if_pos (show (q : Int) < (k + 1).toInt by omega), Int.add_zero, Int.add_zero, z]
        exact ⟨rfl, rfl⟩
      · rw [if_neg z, if_neg z, Int.add_zero, Int.add_zero]
        by_cases y : (q : Int) < k.toInt
        · rw [if_pos y, if_pos y, if_pos (show (q : Int) < (k + 1).toInt by omega), if_pos (show (q : Int) < (k + 1).toInt by omega)]
          exact ⟨rfl, rfl⟩
        · rw [if_neg y, if_neg y, if_neg (show ¬ (q : Int) < (k + 1).toInt by omega), if_neg (show ¬ (q : Int) < (k + 1).toInt by omega)]
          exact ⟨rfl, rfl⟩
  · have hlt := q_gt hk
    have e1 := i_inc (a := k) (c := 60) (by omega) (by omega) (by decide)
    have ek : (k + 1).toInt.toNat = k.toInt.toNat + 1 := by omega
    have R := h.2.1 k.toInt.toNat (by omega)
    have gk := gb_of (i := k) (n := 60) (by omega) (by omega)
    rw [q_bd (c_usesK τ k0 (by omega)), g.1]
    by_cases hd : σ.1 58 k.toInt.toNat = 0
    · rw [if_pos hd, if_neg one_ne, q_gd ga, q_gd gk, nm_eq, n_toInt, q_gd (gb_of (by omega) (by omega)), nm_eq, q_gd ga, q_gd gk, nm_eq, nm_eq, q_gd gk, nm_eq, q_gd gk, nm_eq, n_toInt, n_toInt]
      have sw := sWK (u := uPK σ (pK σ k.toInt.toNat)) h (n := k.toInt.toNat) (by omega)
      have ss := sSK (u := uPK σ (pK σ k.toInt.toNat)) (t := tPK σ a.toInt.toNat) h (n := k.toInt.toNat) (by omega)
      obtain ⟨ρ, m1, m2⟩ := GC_add (q := σ.1 10 k.toInt.toNat) (w := σ.1 15 k.toInt.toNat) (t := tPK σ a.toInt.toNat k.toInt.toNat) g (by omega) (by omega) (by omega) (by omega) sw.1 (by show sW k.toInt.toNat (uPK σ (pK σ k.toInt.toNat)) (wK σ) ≤ 1000; omega) ss.1 ss.2
      have m1' : fX1_addPull τ (σ.1 10 k.toInt.toNat) (σ.1 15 k.toInt.toNat) (σ.1 (53 + a.toInt.toNat) (σ.1 11 k.toInt.toNat).toInt.toNat - σ.1 (94 + a.toInt.toNat) k.toInt.toNat) = some ρ := m1
      rw [q_bd m1', nm_eq]
      refine hrec ((σ.1 3 3).toInt - (k + 1).toInt).toNat (k + 1, ρ) (by omega) ⟨rfl, by dsimp only; omega, by dsimp only; omega, GC_eq m2 (fun q hq => ?_)⟩
      dsimp only
      rw [ek, sW_1, sS_1]
      by_cases z : q = (σ.1 10 k.toInt.toNat).toInt.toNat
      · have hu : uPK σ q k.toInt.toNat = true := decide_eq_true ⟨hd, z.symm⟩
        rw [if_pos z, if_pos z, if_pos hu, if_pos hu]
        exact ⟨rfl, rfl⟩
      · have hu : ¬ uPK σ q k.toInt.toNat = true := fun y => z (of_decide_eq_true y).2.symm
        rw [if_neg z, if_neg z, if_neg hu, if_neg hu]
        exact ⟨rfl, rfl⟩
    · rw [if_neg hd, if_pos rfl, nm_eq]
      refine hrec ((σ.1 3 3).toInt - (k + 1).toInt).toNat (k + 1, τ) (by omega) ⟨rfl, by dsimp only; omega, by dsimp only; omega, GC_eq g (fun q hq => ?_)⟩
      dsimp only
      have hu : ¬ uPK σ q k.toInt.toNat = true := fun y => hd (of_decide_eq_true y).1
      rw [ek, sW_1, sS_1, if_neg hu, if_neg hu, Int.add_zero, Int.add_zero]
      exact ⟨rfl, rfl⟩
set_option maxHeartbeats 1000000 in
theorem c_drifts1 {σ : gS} (h : WFC σ) {a : Int32} (a0 : 0 ≤ a.toInt) (a1 : a.toInt ≤ 1) : Ok (fX1_moveDrifts σ a) (CV σ (56 + a.toInt.toNat) (σ.1 3 0).toInt.toNat (nDK σ a.toInt.toNat)) := by
  have z0' := z0
  obtain ⟨b9, b8, b7, b6⟩ := h.1
  have ga := gb_of (i := a) (n := 2) (by omega) (by omega)
  have cw : ∀ r : Nat, (r : Int) < (σ.1 3 1).toInt → 0 ≤ cK σ r ∧ cK σ r ≤ 9 := fun r hr => (h.2.2 r hr).2
  unfold fX1_moveDrifts
  refine ok_bd.mpr ((GC_0 σ).mono (fun σ2 g0 => ?_))
  rw [nm_eq]
  refine ok_lpc (I := fun (n : Nat) (s : Int32 × gS) => n = ((σ.1 3 1).toInt - s.1.toInt).toNat ∧ 0 ≤ s.1.toInt ∧ s.1.toInt ≤ (σ.1 3 1).toInt ∧ GC σ (fun q => sW s.1.toInt.toNat (uDK σ q) (cK σ)) (fun q => sS s.1.toInt.toNat (uDK σ q) (cK σ) (fun r => (tDK σ a.toInt.toNat r).toInt)) s.2) (fun rec n s hs hrec => ?_) K9 (σ.1 3 1).toInt.toNat (0, σ2) ⟨by dsimp only; omega, by dsimp only; omega, by dsimp only; omega, g0⟩ (by unfold K9; omega)
  obtain ⟨k, τ⟩ := s
  obtain ⟨hn, k0, k1, g⟩ := hs
  dsimp only at hn k0 k1 g ⊢
  have e1' : τ.1 3 ((1 : Int32).toNatClampNeg) = σ.1 3 1 := by rw [g.1]; rfl
  have e0' : τ.1 3 ((0 : Int32).toNatClampNeg) = σ.1 3 0 := by rw [g.1]; rfl
  have sw : ∀ q, 0 ≤ sW k.toInt.toNat (uDK σ q) (cK σ) ∧ sW k.toInt.toNat (uDK σ q) (cK σ) ≤ 9 * k.toInt.toNat := fun q => sW_in _ (fun r hr _ => cw r (by omega))
  have ss : ∀ q, -2147483648 * sW k.toInt.toNat (uDK σ q) (cK σ) ≤ sS k.toInt.toNat (uDK σ q) (cK σ) (fun r => (tDK σ a.toInt.toNat r).toInt) ∧ sS k.toInt.toNat (uDK σ q) (cK σ) (fun r => (tDK σ a.toInt.toNat r).toInt) ≤ 2147483647 * sW k.toInt.toNat (uDK σ q) (cK σ) := fun q => sS_in _ (fun r hr _ => ⟨cw r (by omega), Int32.le_toInt _, i32_hi _⟩)
  unfold bX1_moveDrifts_6
  rw [q_gd (by decide), nm_eq, e1']
  refine ok_ite.mpr ⟨fun hk => ?_, fun hk => ?_⟩
  · have ek : k.toInt.toNat = (σ.1 3 1).toInt.toNat := by have := Int32.le_iff_toInt_le.mp hk; omega
    rw [ek] at g sw ss
    rw [q_gd ga, q_gd (by decide), nm_eq, n_toInt, e0']
    have hm := c_moveEach (σ := τ) (c := 56 + a.toInt.toNat) (n := σ.1 3 0) (by omega) (by omega) (by rw [z56 (by omega)]; omega) g.2.2 (fun q hq => by
      have s1 := sw q
      exact .inl ⟨s1.1, by omega, (ss q).1, (ss q).2⟩)
    refine ok_bd2.mpr (hm.mono (fun o ho => ?_))
    obtain ⟨m1, m2, m3, m4, m5, m6⟩ := ho
    rw [vpb m5]
    refine ok_some.mpr ⟨fun k hk => (m1 k hk).trans (by rw [g.1]), fun k k1 k2 => by rw [m2]; exact g.2.1 k k1 k2, fun j hj => ?_, fun j hj => by rw [m4 j hj, g.1], m5, by rw [m6, g.1]⟩
    rw [m3 j hj, g.1]
    rfl
  · have hlt := q_gt hk
    have e1 := i_inc (a := k) (c := 60) (by omega) (by omega) (by decide)
    have ek : (k + 1).toInt.toNat = k.toInt.toNat + 1 := by omega
    have C := h.2.2 k.toInt.toNat (by omega)
    have gk := gb_of (i := k) (n := 12) (by omega) (by omega)
    have s1 := sw (sK σ k.toInt.toNat)
    have s2 := ss (sK σ k.toInt.toNat)
    obtain ⟨ρ, m1, m2⟩ := GC_add (q := σ.1 8 k.toInt.toNat) (w := σ.1 20 k.toInt.toNat) (t := tDK σ a.toInt.toNat k.toInt.toNat) g C.1.1 (by omega) C.2.1 C.2.2 s1.1 (by show sW k.toInt.toNat (uDK σ (sK σ k.toInt.toNat)) (cK σ) ≤ 1000; omega) s2.1 s2.2
    have m1' : fX1_addPull τ (σ.1 8 k.toInt.toNat) (σ.1 20 k.toInt.toNat) (σ.1 (50 + a.toInt.toNat) k.toInt.toNat - 100 * σ.1 (22 + a.toInt.toNat) k.toInt.toNat) = some ρ := m1
    rw [q_gd ga, q_gd gk, nm_eq, q_gd ga, q_gd gk, nm_eq, nm_eq, q_gd gk, nm_eq, q_gd gk, nm_eq, n_toInt, n_toInt, g.1, q_bd m1', nm_eq]
    refine hrec ((σ.1 3 1).toInt - (k + 1).toInt).toNat (k + 1, ρ) (by omega) ⟨rfl, by dsimp only; omega, by dsimp only; omega, GC_eq m2 (fun q hq => ?_)⟩
    dsimp only
    rw [ek, sW_1, sS_1]
    by_cases z : q = (σ.1 8 k.toInt.toNat).toInt.toNat
    · have hu : uDK σ q k.toInt.toNat = true := decide_eq_true z.symm
      rw [if_pos z, if_pos z, if_pos hu, if_pos hu]
      exact ⟨rfl, rfl⟩
    · have hu : ¬ uDK σ q k.toInt.toNat = true := fun y => z (of_decide_eq_true y).symm
      rw [if_neg z, if_neg z, if_neg hu, if_neg hu]
      exact ⟨rfl, rfl⟩
end P12Q
