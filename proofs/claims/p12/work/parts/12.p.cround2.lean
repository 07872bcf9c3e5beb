/-! THE GEOMETRY: a round, on the class's side: points, pictures, drifts -/
section P12P
noncomputable def WFC (σ : gS) : Prop := ((0 ≤ (σ.1 3 3).toInt ∧ (σ.1 3 3).toInt ≤ 60) ∧ (0 ≤ (σ.1 3 2).toInt ∧ (σ.1 3 2).toInt ≤ 20) ∧ (0 ≤ (σ.1 3 1).toInt ∧ (σ.1 3 1).toInt ≤ 12) ∧ 0 ≤ (σ.1 3 0).toInt ∧ (σ.1 3 0).toInt ≤ 6) ∧ (∀ r : Nat, (r : Int) < (σ.1 3 3).toInt → (0 ≤ (σ.1 10 r).toInt ∧ (σ.1 10 r).toInt < (σ.1 3 1).toInt) ∧ (0 ≤ (σ.1 11 r).toInt ∧ (σ.1 11 r).toInt < (σ.1 3 2).toInt) ∧ 1 ≤ (σ.1 15 r).toInt ∧ (σ.1 15 r).toInt ≤ 9) ∧ ∀ p : Nat, (p : Int) < (σ.1 3 1).toInt → (0 ≤ (σ.1 8 p).toInt ∧ (σ.1 8 p).toInt < (σ.1 3 0).toInt) ∧ 0 ≤ (σ.1 20 p).toInt ∧ (σ.1 20 p).toInt ≤ 9
theorem WFC_eq {σ τ : gS} (h : WFC σ) (e : ∀ k, k < 47 → τ.1 k = σ.1 k) : WFC τ := by
  unfold WFC
  rw [e 3 (by decide), e 10 (by decide), e 11 (by decide), e 15 (by decide), e 8 (by decide), e 20 (by decide)]
  exact h
noncomputable def pK (σ : gS) (r : Nat) : Nat := (σ.1 10 r).toInt.toNat
noncomputable def qK (σ : gS) (r : Nat) : Nat := (σ.1 11 r).toInt.toNat
noncomputable def wK (σ : gS) (r : Nat) : Int := (σ.1 15 r).toInt
noncomputable def cK (σ : gS) (p : Nat) : Int := (σ.1 20 p).toInt
noncomputable def sK (σ : gS) (p : Nat) : Nat := (σ.1 8 p).toInt.toNat
noncomputable def uQK (σ : gS) (q r : Nat) : Bool := decide (σ.1 58 r = 0 ∧ qK σ r = q)
noncomputable def uPK (σ : gS) (p r : Nat) : Bool := decide (σ.1 58 r = 0 ∧ pK σ r = p)
noncomputable def uDK (σ : gS) (s p : Nat) : Bool := decide (sK σ p = s)
noncomputable def tQK (σ : gS) (a r : Nat) : Int32 := σ.1 (50 + a) (pK σ r) + σ.1 (94 + a) r
noncomputable def tPK (σ : gS) (a r : Nat) : Int32 := σ.1 (53 + a) (qK σ r) - σ.1 (94 + a) r
noncomputable def cTK (σ : gS) (p a : Nat) : Int32 := σ.1 (56 + a) (sK σ p) + 100 * σ.1 (22 + a) p
noncomputable def tDK (σ : gS) (a p : Nat) : Int32 := σ.1 (50 + a) p - 100 * σ.1 (22 + a) p
noncomputable def fixK (σ : gS) (q : Nat) : Prop := ¬ (σ.1 16 q &&& σ.1 47 1) = 0
theorem c_usesK (σ : gS) {r : Int32} (r0 : 0 ≤ r.toInt) (r1 : r.toInt ≤ 59) : fX5_uses_47 σ r = some (if σ.1 58 r.toInt.toNat = 0 then 1 else 0) := by
  unfold fX5_uses_47
  rw [q_gd (gb_of (by omega) (by omega)), nm_eq, n_toInt]
  by_cases z : σ.1 58 r.toInt.toNat = 0
  · rw [if_pos z, if_pos z]
  · rw [if_neg z, if_neg z]
theorem c_fixK (σ : gS) {q : Int32} (r0 : 0 ≤ q.toInt) (r1 : q.toInt ≤ 19) : (fX5_isFixed_47 σ q = some 0 ∧ ¬ fixK σ q.toInt.toNat) ∨ (fX5_isFixed_47 σ q = some 1 ∧ fixK σ q.toInt.toNat) := by
  unfold fX5_isFixed_47 fixK
  rw [q_gd (gb_of (by omega) (by omega)), nm_eq, n_toInt]
  by_cases z : (σ.1 16 q.toInt.toNat &&& σ.1 47 1) = 0
  · exact .inl ⟨if_pos z, fun y => y z⟩
  · exact .inr ⟨if_neg z, z⟩
/-- places of a row are made anew; weights and pulls are left as they are -/
noncomputable def CV (σ : gS) (c n : Nat) (F : Nat → Int) (o : Int32 × gS) : Prop := (∀ k, k ≠ c → o.2.1 k = σ.1 k) ∧ (∀ k, k ≠ 91 → k ≠ 92 → o.2.2 k = σ.2 k) ∧ (∀ j : Nat, j < n → (o.2.1 c j).toInt = F j) ∧ (∀ j : Nat, n ≤ j → o.2.1 c j = σ.1 c j) ∧ (o.1 = 0 ∨ o.1 = 1) ∧ (o.1 = 0 ↔ o.2.1 c = σ.1 c)
theorem sWK {σ : gS} {u : Nat → Bool} (h : WFC σ) {n : Nat} (hn : (n : Int) ≤ (σ.1 3 3).toInt) : 0 ≤ sW n u (wK σ) ∧ sW n u (wK σ) ≤ 540 := by
  have a := sW_in (u := u) (w := wK σ) n (fun r hr _ => by have := (h.2.1 r (by omega)).2.2; unfold wK; omega)
  have := h.1.1.2
  omega
theorem sSK {σ : gS} {u : Nat → Bool} {t : Nat → Int32} (h : WFC σ) {n : Nat} (hn : (n : Int) ≤ (σ.1 3 3).toInt) : -2147483648 * sW n u (wK σ) ≤ sS n u (wK σ) (fun r => (t r).toInt) ∧ sS n u (wK σ) (fun r => (t r).toInt) ≤ 2147483647 * sW n u (wK σ) :=
  sS_in n (fun r hr _ => ⟨by have := (h.2.1 r (by omega)).2.2; unfold wK; omega, Int32.le_toInt _, i32_hi _⟩)
theorem sW_1 {n : Nat} {u : Nat → Bool} {w : Nat → Int} : sW (n + 1) u w = sW n u w + if u n = true then w n else 0 := rfl
theorem sS_1 {n : Nat} {u : Nat → Bool} {w t : Nat → Int} : sS (n + 1) u w t = sS n u w t + if u n = true then w n * t n else 0 := rfl
theorem z53 {a : Nat} (h : a < 2) : gsz zC.1 0 0 (53 + a) = 20 := by
  have : a = 0 ∨ a = 1 := by omega
  rcases this with rfl | rfl <;> decide
theorem z50 {a : Nat} (h : a < 2) : gsz zC.1 0 0 (50 + a) = 12 := by
  have : a = 0 ∨ a = 1 := by omega
  rcases this with rfl | rfl <;> decide
theorem z56 {a : Nat} (h : a < 2) : gsz zC.1 0 0 (56 + a) = 6 := by
  have : a = 0 ∨ a = 1 := by omega
  rcases this with rfl | rfl <;> decide
noncomputable def nQK (σ : gS) (a q : Nat) : Int := nw (if σ.1 16 q &&& σ.1 47 1 = 0 then sW (σ.1 3 3).toInt.toNat (uQK σ q) (wK σ) else 0) (sS (σ.1 3 3).toInt.toNat (uQK σ q) (wK σ) (fun r => (tQK σ a r).toInt)) (σ.1 (53 + a) q).toInt
set_option maxHeartbeats 1000000 in
theorem c_points {σ : gS} (h : WFC σ) {a : Int32} (a0 : 0 ≤ a.toInt) (a1 : a.toInt ≤ 1) : Ok (fX1_movePoints σ a) (CV σ (53 + a.toInt.toNat) (σ.1 3 2).toInt.toNat (nQK σ a.toInt.toNat)) := by
  have z0' := z0
  obtain ⟨b9, b8, b7, b6⟩ := h.1
  have ga := gb_of (i := a) (n := 2) (by omega) (by omega)
  unfold fX1_movePoints
  refine ok_bd.mpr ((GC_0 σ).mono (fun σ2 g0 => ?_))
  rw [nm_eq]
  refine ok_lpc (I := fun (n : Nat) (s : Int32 × gS) => n = ((σ.1 3 3).toInt - s.1.toInt).toNat ∧ 0 ≤ s.1.toInt ∧ s.1.toInt ≤ (σ.1 3 3).toInt ∧ GC σ (fun q => sW s.1.toInt.toNat (uQK σ q) (wK σ)) (fun q => sS s.1.toInt.toNat (uQK σ q) (wK σ) (fun r => (tQK σ a.toInt.toNat r).toInt)) s.2) (fun rec n s hs hrec => ?_) K9 (σ.1 3 3).toInt.toNat (0, σ2) ⟨by dsimp only; omega, by dsimp only; omega, by dsimp only; omega, g0⟩ (by unfold K9; omega)
  obtain ⟨k, τ⟩ := s
  obtain ⟨hn, k0, k1, g⟩ := hs
  dsimp only at hn k0 k1 g ⊢
  have e3 : τ.1 3 ((3 : Int32).toNatClampNeg) = σ.1 3 3 := by rw [g.1]; rfl
  unfold bX1_movePoints_6
  rw [q_gd (by decide), nm_eq, e3]
  refine ok_ite.mpr ⟨fun hk => ?_, fun hk => ?_⟩
  · have ek : k.toInt.toNat = (σ.1 3 3).toInt.toNat := by have := Int32.le_iff_toInt_le.mp hk; omega
    rw [ek] at g
    rw [nm_eq]
    refine ok_lpc (I := fun (n : Nat) (s : Int32 × gS) => n = ((σ.1 3 2).toInt - s.1.toInt).toNat ∧ 0 ≤ s.1.toInt ∧ s.1.toInt ≤ (σ.1 3 2).toInt ∧ GC σ (fun q => if (q : Int) < s.1.toInt ∧ ¬ (σ.1 16 q &&& σ.1 47 1) = 0 then 0 else sW (σ.1 3 3).toInt.toNat (uQK σ q) (wK σ)) (fun q => sS (σ.1 3 3).toInt.toNat (uQK σ q) (wK σ) (fun r => (tQK σ a.toInt.toNat r).toInt)) s.2) (fun rec n s hs hrec => ?_) K9 (σ.1 3 2).toInt.toNat (0, τ) ⟨by dsimp only; omega, by dsimp only; omega, by dsimp only; omega, GC_eq g (fun q hq => ⟨by dsimp only; rw [if_neg (by omega)], rfl⟩)⟩ (by unfold K9; omega)
    obtain ⟨k, τ⟩ := s
    obtain ⟨hn, k0, k1, g⟩ := hs
    dsimp only at hn k0 k1 g ⊢
    have e2 : τ.1 3 ((2 : Int32).toNatClampNeg) = σ.1 3 2 := by rw [g.1]; rfl
    unfold bX1_movePoints_93
    rw [q_gd (by decide), nm_eq, e2]
    refine ok_ite.mpr ⟨fun hk => ?_, fun hk => ?_⟩
    · have hk := Int32.le_iff_toInt_le.mp hk
      rw [q_gd ga, q_gd (by decide), nm_eq, n_toInt]
      have hm := c_moveEach (σ := τ) (c := 53 + a.toInt.toNat) (n := σ.1 3 2) (by omega) (by omega) (by rw [z53 (by omega)]; omega) g.2.2 (fun q hq => by
        have sw := sWK (u := uQK σ q) h (n := (σ.1 3 3).toInt.toNat) (by omega)
        have ss := sSK (u := uQK σ q) (t := tQK σ a.toInt.toNat) h (n := (σ.1 3 3).toInt.toNat) (by omega)
        by_cases z : (q : Int) < k.toInt ∧ ¬ (σ.1 16 q &&& σ.1 47 1) = 0
        · exact .inr (by rw [if_pos z]; exact Int.le_refl _)
        · rw [if_neg z]
          exact .inl ⟨sw.1, by omega, ss.1, ss.2⟩)
      refine ok_bd2.mpr (hm.mono (fun o ho => ?_))
      obtain ⟨m1, m2, m3, m4, m5, m6⟩ := ho
      rw [vpb m5]
      refine ok_some.mpr ⟨fun k hk => (m1 k hk).trans (by rw [g.1]), fun k k1 k2 => by rw [m2]; exact g.2.1 k k1 k2, fun j hj => ?_, fun j hj => by rw [m4 j hj, g.1], m5, by rw [m6, g.1]⟩
      rw [m3 j hj, g.1]
      unfold nQK
      dsimp only
      by_cases z : (σ.1 16 j &&& σ.1 47 1) = 0
      · rw [if_pos z, if_neg (fun y => y.2 z)]
      · rw [if_neg z, if_pos ⟨by omega, z⟩]
    · have hlt := q_gt hk
      have e1 := i_inc (a := k) (c := 60) (by omega) (by omega) (by decide)
      have gk := gb_of (i := k) (n := 20) (by omega) (by omega)
      have fx : fixK τ k.toInt.toNat ↔ fixK σ k.toInt.toNat := by unfold fixK; rw [g.1]
      rcases c_fixK τ (q := k) k0 (by omega) with ⟨f1, f2⟩ | ⟨f1, f2⟩
      · rw [q_bd f1, if_pos rfl, nm_eq]
        refine hrec ((σ.1 3 2).toInt - (k + 1).toInt).toNat (k + 1, τ) (by omega) ⟨rfl, by dsimp only; omega, by dsimp only; omega, GC_eq g (fun q hq => ⟨?_, rfl⟩)⟩
        dsimp only
        by_cases z : (q : Int) < k.toInt ∧ ¬ (σ.1 16 q &&& σ.1 47 1) = 0
        · rw [if_pos z, if_pos ⟨by omega, z.2⟩]
        · rw [if_neg z, if_neg (fun y => z ⟨by
            have : q ≠ k.toInt.toNat := fun e => (fun w => f2 (fx.mpr w)) (by rw [← e]; exact y.2)
            omega, y.2⟩)]
      · rw [q_bd f1, if_neg one_ne, q_gd gk, nm_eq, nm_eq, n_toInt]
        refine hrec ((σ.1 3 2).toInt - (k + 1).toInt).toNat (k + 1, gsL τ 91 k.toInt.toNat 0) (by omega) ⟨rfl, by dsimp only; omega, by dsimp only; omega, g.1, fun j j1 j2 => ?_, fun q hq => ⟨?_, ?_⟩⟩
        · show (gsL τ 91 k.toInt.toNat 0).2 j = _
          rw [← g.2.1 j j1 j2]
          funext i
          rw [gsL_2, if_neg (fun z => j1 z.1)]
        · show ((gsL τ 91 k.toInt.toNat 0).2 91 q).toInt = _
          dsimp only
          rw [gsL_2]
          by_cases y : q = k.toInt.toNat
          · rw [if_pos ⟨rfl, y⟩, if_pos ⟨by omega, by rw [y]; exact fx.mp f2⟩]
            rfl
          · rw [if_neg (fun z => y z.2), (g.2.2 q hq).1]
            dsimp only
            by_cases z : (q : Int) < k.toInt ∧ ¬ (σ.1 16 q &&& σ.1 47 1) = 0
            · rw [if_pos z, if_pos ⟨by omega, z.2⟩]
            · rw [if_neg z, if_neg (fun x => z ⟨by omega, x.2⟩)]
        · show ((gsL τ 91 k.toInt.toNat 0).2 92 q).toInt = _
          rw [gsL_2, if_neg (by omega)]
          exact (g.2.2 q hq).2
  · have hlt := q_gt hk
    have e1 := i_inc (a := k) (c := 60) (by omega) (by omega) (by decide)
    have ek : (k + 1).toInt.toNat = k.toInt.toNat + 1 := by omega
    have R := h.2.1 k.toInt.toNat (by omega)
    have gk := gb_of (i := k) (n := 60) (by omega) (by omega)
    rw [q_bd (c_usesK τ k0 (by omega)), g.1]
    by_cases hd : σ.1 58 k.toInt.toNat = 0
    · rw [if_pos hd, if_neg one_ne, q_gd ga, q_gd gk, nm_eq, n_toInt, q_gd (gb_of (by omega) (by omega)), nm_eq, q_gd ga, q_gd gk, nm_eq, nm_eq, q_gd gk, nm_eq, q_gd gk, nm_eq, n_toInt, n_toInt]
      have sw := sWK (u := uQK σ (qK σ k.toInt.toNat)) h (n := k.toInt.toNat) (by omega)
      have ss := sSK (u := uQK σ (qK σ k.toInt.toNat)) (t := tQK σ a.toInt.toNat) h (n := k.toInt.toNat) (by omega)
      obtain ⟨ρ, m1, m2⟩ := GC_add (q := σ.1 11 k.toInt.toNat) (w := σ.1 15 k.toInt.toNat) (t := tQK σ a.toInt.toNat k.toInt.toNat) g (by omega) (by omega) (by omega) (by omega) sw.1 (by show sW k.toInt.toNat (uQK σ (qK σ k.toInt.toNat)) (wK σ) ≤ 1000; omega) ss.1 ss.2
      have m1' : fX1_addPull τ (σ.1 11 k.toInt.toNat) (σ.1 15 k.toInt.toNat) (σ.1 (50 + a.toInt.toNat) (σ.1 10 k.toInt.toNat).toInt.toNat + σ.1 (94 + a.toInt.toNat) k.toInt.toNat) = some ρ := m1
      rw [q_bd m1', nm_eq]
      refine hrec ((σ.1 3 3).toInt - (k + 1).toInt).toNat (k + 1, ρ) (by omega) ⟨rfl, by dsimp only; omega, by dsimp only; omega, GC_eq m2 (fun q hq => ?_)⟩
      dsimp only
      rw [ek, sW_1, sS_1]
      by_cases z : q = (σ.1 11 k.toInt.toNat).toInt.toNat
      · have hu : uQK σ q k.toInt.toNat = true := decide_eq_true ⟨hd, z.symm⟩
        rw [if_pos z, if_pos z, if_pos hu, if_pos hu]
        exact ⟨rfl, rfl⟩
      · have hu : ¬ uQK σ q k.toInt.toNat = true := fun y => z (of_decide_eq_true y).2.symm
        rw [if_neg z, if_neg z, if_neg hu, if_neg hu]
        exact ⟨rfl, rfl⟩
    · rw [if_neg hd, if_pos rfl, nm_eq]
      refine hrec ((σ.1 3 3).toInt - (k + 1).toInt).toNat (k + 1, τ) (by omega) ⟨rfl, by dsimp only; omega, by dsimp only; omega, GC_eq g (fun q hq => ?_)⟩
      dsimp only
      have hu : ¬ uQK σ q k.toInt.toNat = true := fun y => hd (of_decide_eq_true y).1
      rw [ek, sW_1, sS_1, if_neg hu, if_neg hu, Int.add_zero, Int.add_zero]
      exact ⟨rfl, rfl⟩
end P12P
