/-! THE TWO READERS, 7: what stands told, and the small steps -/
section PG
theorem bd_so {β γ : Type} {x : β} {E : β → Option γ} : bd (some x) E = E x := rfl
theorem bd2_so {β γ : Type} {x : β} {s : gS} {E : β → gS → Option γ} : bd2 (some (x, s)) E = E x s := rfl
theorem nm_eq {β γ : Type} {x : β} {E : β → γ} : nm x E = E x := rfl
theorem bd2_as {α β γ : Type} {f : Option (α × gS)} {E : α → gS → Option (β × gS)} {G : β → gS → Option γ} : bd2 (bd2 f E) G = bd2 f (fun a s => bd2 (E a s) G) := by
  cases f <;> rfl
/-! the reference does nothing behind a fault -/
theorem e_isHere {σ : gS} (h : ¬ σ.1 0 5 = 0) (p : Nat) : fX10_isHere σ p = some (0, σ) := if_neg h
theorem e_takes {σ : gS} (h : ¬ σ.1 0 5 = 0) (p : Nat) : fX10_takes σ p = some (0, σ) := (q_bd2 (e_isHere h p)).trans (if_pos rfl)
theorem e_asks {σ : gS} (h : ¬ σ.1 0 5 = 0) (p : Nat) : fX10_asks σ p = some σ := if_neg h
theorem e_asksSign {σ : gS} (h : ¬ σ.1 0 5 = 0) (p : Int32) : fX10_asksSign σ p = some σ := if_neg h
theorem e_number {σ : gS} (h : ¬ σ.1 0 5 = 0) (a b : Int32) : fX10_number σ a b = some (0, σ) := if_neg h
theorem e_name {σ : gS} (h : ¬ σ.1 0 5 = 0) : fX10_name σ = some (0, σ) := if_neg h
theorem e_oneOf {σ : gS} (hI : JM σ) (h : ¬ σ.1 0 5 = 0) {k : Int32} (h0 : 0 ≤ k.toInt) (h2 : k.toInt ≤ 2) : ∃ r, fX10_oneOf σ k = some (r, σ) := by
  unfold fX10_oneOf
  rw [q_bd2 (e_name h)]
  dsimp only
  rw [nm_eq, q_bd (m_nameOf hI _ h0 h2), nm_eq, if_neg h]
  unfold jX10_oneOf_35
  by_cases z : NA σ k 0 = -1
  · exact ⟨_, if_pos z⟩
  · exact ⟨_, if_neg z⟩
/-! what stands told in the drafts -/
noncomputable def PD (σC σM : gS) (p : Nat) : Prop := σC.1 30 p = σM.1 16 p ∧ σC.1 31 p = σM.1 17 p ∧ σC.1 42 p = σM.1 18 p ∧ (σM.1 16 p).toInt < (σM.1 15 0).toInt ∧ (0 ≤ (σM.1 17 p).toInt ∧ (σM.1 17 p).toInt ≤ 4) ∧ (0 ≤ (σM.1 18 p).toInt ∧ (σM.1 18 p).toInt ≤ 9) ∧ (σM.1 18 p ≠ 0 → σC.1 44 p = σM.1 19 (2 * p) ∧ σC.1 45 p = σM.1 19 (2 * p + 1))
noncomputable def QD (σC σM : gS) (q : Nat) : Prop := σC.1 38 q = σM.1 20 q ∧ 0 ≤ (σM.1 20 q).toInt ∧ (σM.1 20 q).toInt ≤ 2 ∧ (σM.1 20 q ≠ 0 → σC.1 40 q = σM.1 21 (2 * q) ∧ σC.1 41 q = σM.1 21 (2 * q + 1) ∧ (0 ≤ (σM.1 21 (2 * q)).toInt ∧ (σM.1 21 (2 * q)).toInt ≤ 9999) ∧ (0 ≤ (σM.1 21 (2 * q + 1)).toInt ∧ (σM.1 21 (2 * q + 1)).toInt ≤ 9999))
noncomputable def RD (σC σM : gS) (r : Nat) : Prop := σC.1 32 r = σM.1 22 r ∧ σC.1 33 r = σM.1 23 r ∧ (σM.1 22 r).toInt < (σM.1 15 1).toInt ∧ (σM.1 23 r).toInt < (σM.1 15 2).toInt ∧ σC.1 35 r = σM.1 24 (2 * r) ∧ σC.1 36 r = σM.1 24 (2 * r + 1) ∧ σC.1 37 r = σM.1 25 r ∧ (0 ≤ (σM.1 24 (2 * r)).toInt ∧ (σM.1 24 (2 * r)).toInt ≤ 9999) ∧ (0 ≤ (σM.1 24 (2 * r + 1)).toInt ∧ (σM.1 24 (2 * r + 1)).toInt ≤ 9999) ∧ (1 ≤ (σM.1 25 r).toInt ∧ (σM.1 25 r).toInt ≤ 9) ∧ ∀ i : Nat, i < r → ¬ (σM.1 22 i = σM.1 22 r ∧ σM.1 23 i = σM.1 23 r)
noncomputable def DS (σC σM : gS) : Prop := (∀ k : Nat, k < 6 → σC.1 25 k = σM.1 15 k) ∧ (0 ≤ (σM.1 15 4).toInt ∧ (σM.1 15 4).toInt ≤ 10) ∧ (∀ K : Nat, K ≤ 2 → DN K σC σM) ∧ (∀ p : Nat, (p : Int) < (σM.1 15 1).toInt → PD σC σM p) ∧ (∀ q : Nat, (q : Int) < (σM.1 15 2).toInt → QD σC σM q) ∧ (∀ r : Nat, (r : Int) < (σM.1 15 3).toInt → RD σC σM r) ∧ (∀ p : Nat, (σM.1 15 1).toInt ≤ (p : Int) → p < 12 → σC.1 42 p = 0) ∧ ∀ q : Nat, (σM.1 15 2).toInt ≤ (q : Int) → q < 20 → σC.1 38 q = 0
theorem DN_eq {σC σM τC τM : gS} {K : Nat} (h : DN K σC σM) (a : τC.1 25 = σC.1 25) (b : τC.1 (27 + K) = σC.1 (27 + K)) (c : τM.1 15 = σM.1 15) (d : τM.2 14 = σM.2 14) : DN K τC τM := by
  unfold DN
  rw [a, b, c, d]
  exact h
/-- what holds of rows that stay -/
theorem DS_eq {σC σM τC τM : gS} (h : DS σC σM) (a : ∀ k, 25 ≤ k → k ≤ 45 → τC.1 k = σC.1 k) (b : ∀ k, 14 ≤ k → k ≤ 25 → τM.1 k = σM.1 k) (c : τM.2 14 = σM.2 14) : DS τC τM := by
  obtain ⟨h1, h2, h3, h4, h5, h6, h7, h8⟩ := h
  have e15 := b 15 (by decide) (by decide)
  unfold DS PD QD RD
  rw [e15, a 25 (by decide) (by decide), a 30 (by decide) (by decide), a 31 (by decide) (by decide), a 42 (by decide) (by decide), a 38 (by decide) (by decide), a 40 (by decide) (by decide), a 41 (by decide) (by decide), a 32 (by decide) (by decide), a 33 (by decide) (by decide), a 44 (by decide) (by decide), a 45 (by decide) (by decide), a 35 (by decide) (by decide), a 36 (by decide) (by decide), a 37 (by decide) (by decide), b 19 (by decide) (by decide), b 24 (by decide) (by decide), b 25 (by decide) (by decide), b 16 (by decide) (by decide), b 17 (by decide) (by decide), b 18 (by decide) (by decide), b 20 (by decide) (by decide), b 21 (by decide) (by decide), b 22 (by decide) (by decide), b 23 (by decide) (by decide)]
  exact ⟨h1, h2, fun K hK => DN_eq (h3 K hK) (a 25 (by decide) (by decide)) (a (27 + K) (by omega) (by omega)) e15 c, h4, h5, h6, h7, h8⟩
theorem DS_fr {LC LM : List (Nat × Nat)} {σC σM τC τM : gS} (h : DS σC σM) (FC : Fr LC σC τC) (hC : ∀ q ∈ LC, q.1 < 25 ∨ 45 < q.1) (FM : Fr LM σM τM) (hM : ∀ q ∈ LM, q.1 < 14 ∨ 25 < q.1) : DS τC τM :=
  DS_eq h (fun k h1 h2 => Fr_row FC k (fun q hq => by have := hC q hq; omega)) (fun k h1 h2 => Fr_row FM k (fun q hq => by have := hM q hq; omega)) (Fr_row2 FM 14 (fun q hq => by have := hM q hq; omega))
theorem jm_many {σ : gS} (h : JM σ) : (0 ≤ (σ.1 15 0).toInt ∧ (σ.1 15 0).toInt ≤ 6) ∧ (0 ≤ (σ.1 15 1).toInt ∧ (σ.1 15 1).toInt ≤ 12) ∧ (0 ≤ (σ.1 15 2).toInt ∧ (σ.1 15 2).toInt ≤ 20) ∧ (0 ≤ (σ.1 15 3).toInt ∧ (σ.1 15 3).toInt ≤ 60) := ⟨h 15 0, h 15 1, h 15 2, h 15 3⟩
/-- a name more of kind K -/
theorem DN_add {σC σM τC τM : gS} {K : Nat} {c : Int32} {m : Int64} (hI : JM σM) (hK : K ≤ 2) (h : ∀ K : Nat, K ≤ 2 → DN K σC σM) (hn : (σM.1 15 K).toInt ≤ 19) (hN : NR c m) (c25 : ∀ i, τC.1 25 i = if i = K then σC.1 25 K + 1 else σC.1 25 i) (cn : ∀ i, τC.1 (27 + K) i = if i = (σM.1 15 K).toInt.toNat then c else σC.1 (27 + K) i) (co : ∀ k, k ≠ K → k ≤ 2 → τC.1 (27 + k) = σC.1 (27 + k)) (m15 : ∀ i, τM.1 15 i = if i = K then σM.1 15 K + 1 else σM.1 15 i) (m14 : ∀ i, τM.2 14 i = if i = 20 * K + (σM.1 15 K).toInt.toNat then m else σM.2 14 i) : ∀ J : Nat, J ≤ 2 → DN J τC τM := by
  have b := jm_many hI
  have nb : 0 ≤ (σM.1 15 K).toInt := by
    have hj : K = 0 ∨ K = 1 ∨ K = 2 := by omega
    rcases hj with rfl | rfl | rfl
    · exact b.1.1
    · exact b.2.1.1
    · exact b.2.2.1.1
  have e1 := i_inc (a := σM.1 15 K) (c := 19) (by omega) hn (by decide)
  intro J hJ
  obtain ⟨d1, d2⟩ := h J hJ
  by_cases e : J = K
  · subst e
    refine ⟨by rw [c25, m15, if_pos rfl, if_pos rfl, d1], fun i hi => ?_⟩
    rw [m15, if_pos rfl, e1] at hi
    rw [cn, m14]
    by_cases z : i = (σM.1 15 J).toInt.toNat
    · rw [if_pos z, if_pos (by omega)]; exact hN
    · rw [if_neg z, if_neg (by omega)]; exact d2 i (by omega)
  · refine ⟨by rw [c25, m15, if_neg e, if_neg e, d1], fun i hi => ?_⟩
    rw [m15, if_neg e] at hi
    have bJ : (σM.1 15 J).toInt ≤ 20 := by
      have hj : J = 0 ∨ J = 1 ∨ J = 2 := by omega
      rcases hj with rfl | rfl | rfl <;> omega
    rw [co J e hJ, m14, if_neg (by omega)]
    exact d2 i hi
/-! full, or not -/
theorem c_full0 (σ : gS) : (fX8_isFull_24 σ 0 = some 0 ∧ (σ.1 25 0).toInt < 6) ∨ (fX8_isFull_24 σ 0 = some 1 ∧ 6 ≤ (σ.1 25 0).toInt) := by
  have e : staC 0 ((0 : Int32).toNatClampNeg) = 6 := by decide
  have l : (6 : Int32).toInt = 6 := by decide
  unfold fX8_isFull_24
  rw [if_neg (by decide), if_neg (by decide), q_gd (by decide), nm_eq, q_gd (by decide), nm_eq, e]
  show ((if σ.1 25 0 < 6 then some 0 else some 1) = some 0 ∧ _) ∨ ((if σ.1 25 0 < 6 then some 0 else some 1) = some 1 ∧ _)
  by_cases h : σ.1 25 0 < 6
  · have h' := Int32.lt_iff_toInt_lt.mp h
    exact .inl ⟨if_pos h, by omega⟩
  · have h' : ¬ (σ.1 25 0).toInt < (6 : Int32).toInt := fun z => h (Int32.lt_iff_toInt_lt.mpr z)
    exact .inr ⟨if_neg h, by omega⟩
theorem c_full1 (σ : gS) : (fX8_isFull_24 σ 1 = some 0 ∧ (σ.1 25 1).toInt < 12) ∨ (fX8_isFull_24 σ 1 = some 1 ∧ 12 ≤ (σ.1 25 1).toInt) := by
  have e : staC 0 ((1 : Int32).toNatClampNeg) = 12 := by decide
  have l : (12 : Int32).toInt = 12 := by decide
  unfold fX8_isFull_24
  rw [if_neg (by decide), if_neg (by decide), q_gd (by decide), nm_eq, q_gd (by decide), nm_eq, e]
  show ((if σ.1 25 1 < 12 then some 0 else some 1) = some 0 ∧ _) ∨ ((if σ.1 25 1 < 12 then some 0 else some 1) = some 1 ∧ _)
  by_cases h : σ.1 25 1 < 12
  · have h' := Int32.lt_iff_toInt_lt.mp h
    exact .inl ⟨if_pos h, by omega⟩
  · have h' : ¬ (σ.1 25 1).toInt < (12 : Int32).toInt := fun z => h (Int32.lt_iff_toInt_lt.mpr z)
    exact .inr ⟨if_neg h, by omega⟩
theorem c_full2 (σ : gS) : (fX8_isFull_24 σ 2 = some 0 ∧ (σ.1 25 2).toInt < 20) ∨ (fX8_isFull_24 σ 2 = some 1 ∧ 20 ≤ (σ.1 25 2).toInt) := by
  have e : staC 0 ((2 : Int32).toNatClampNeg) = 20 := by decide
  have l : (20 : Int32).toInt = 20 := by decide
  unfold fX8_isFull_24
  rw [if_neg (by decide), if_neg (by decide), q_gd (by decide), nm_eq, q_gd (by decide), nm_eq, e]
  show ((if σ.1 25 2 < 20 then some 0 else some 1) = some 0 ∧ _) ∨ ((if σ.1 25 2 < 20 then some 0 else some 1) = some 1 ∧ _)
  by_cases h : σ.1 25 2 < 20
  · have h' := Int32.lt_iff_toInt_lt.mp h
    exact .inl ⟨if_pos h, by omega⟩
  · have h' : ¬ (σ.1 25 2).toInt < (20 : Int32).toInt := fun z => h (Int32.lt_iff_toInt_lt.mpr z)
    exact .inr ⟨if_neg h, by omega⟩
theorem c_full3 (σ : gS) : (fX8_isFull_24 σ 3 = some 0 ∧ (σ.1 25 3).toInt < 60) ∨ (fX8_isFull_24 σ 3 = some 1 ∧ 60 ≤ (σ.1 25 3).toInt) := by
  have e : staC 0 ((3 : Int32).toNatClampNeg) = 60 := by decide
  have l : (60 : Int32).toInt = 60 := by decide
  unfold fX8_isFull_24
  rw [if_neg (by decide), if_neg (by decide), q_gd (by decide), nm_eq, q_gd (by decide), nm_eq, e]
  show ((if σ.1 25 3 < 60 then some 0 else some 1) = some 0 ∧ _) ∨ ((if σ.1 25 3 < 60 then some 0 else some 1) = some 1 ∧ _)
  by_cases h : σ.1 25 3 < 60
  · have h' := Int32.lt_iff_toInt_lt.mp h
    exact .inl ⟨if_pos h, by omega⟩
  · have h' : ¬ (σ.1 25 3).toInt < (60 : Int32).toInt := fun z => h (Int32.lt_iff_toInt_lt.mpr z)
    exact .inr ⟨if_neg h, by omega⟩
theorem c_full4 (σ : gS) : (fX8_isFull_24 σ 4 = some 0 ∧ (σ.1 25 4).toInt < 10) ∨ (fX8_isFull_24 σ 4 = some 1 ∧ 10 ≤ (σ.1 25 4).toInt) := by
  have e : staC 0 ((4 : Int32).toNatClampNeg) = 10 := by decide
  have l : (10 : Int32).toInt = 10 := by decide
  unfold fX8_isFull_24
  rw [if_neg (by decide), if_neg (by decide), q_gd (by decide), nm_eq, q_gd (by decide), nm_eq, e]
  show ((if σ.1 25 4 < 10 then some 0 else some 1) = some 0 ∧ _) ∨ ((if σ.1 25 4 < 10 then some 0 else some 1) = some 1 ∧ _)
  by_cases h : σ.1 25 4 < 10
  · have h' := Int32.lt_iff_toInt_lt.mp h
    exact .inl ⟨if_pos h, by omega⟩
  · have h' : ¬ (σ.1 25 4).toInt < (10 : Int32).toInt := fun z => h (Int32.lt_iff_toInt_lt.mpr z)
    exact .inr ⟨if_neg h, by omega⟩
theorem c_full5 (σ : gS) : fX8_isFull_24 σ 5 = some 0 := by
  unfold fX8_isFull_24
  exact (if_neg (by decide)).trans (if_pos (by decide))
theorem m_full {σ : gS} (hb : σ.1 0 5 = 0) {k : Int32} {K : Nat} (hk : k.toInt = K) (hK : K ≤ 4) (room x : Int32) : (fX10_isFull σ k room x = some (1, fM σ 4 x) ∧ σ.1 15 K = room) ∨ (fX10_isFull σ k room x = some (0, σ) ∧ σ.1 15 K ≠ room) := by
  have ek : k.toNatClampNeg = K := by rw [n_toInt]; omega
  have g := gb_of (i := k) (n := 12) (by omega) (by omega)
  unfold fX10_isFull
  rw [if_pos hb, q_gd g, nm_eq, ek]
  by_cases h : σ.1 15 K = room
  · rw [if_pos h, q_bd (r_fail 4 x hb)]
    refine .inl ⟨?_, h⟩
    unfold jX10_isFull_23
    exact if_neg (show ¬ (4 : Int32) = 0 by decide)
  · rw [if_neg h]
    refine .inr ⟨?_, h⟩
    unfold jX10_isFull_23
    exact if_pos hb
theorem a_named {σ : gS} {k : Int32} {K : Nat} (hk : k.toInt = K) (hK : K ≤ 2) (c : Int32) (hf : fX8_isFull_24 σ k = some 0) (h0 : 0 ≤ (σ.1 25 K).toInt) (h1 : (σ.1 25 K).toInt ≤ 19) : fX8_addNamed_24 σ k c = some (gsI (gsI σ (27 + K) (σ.1 25 K).toInt.toNat c) 25 K (σ.1 25 K + 1)) := by
  have ek : k.toNatClampNeg = K := by rw [n_toInt]; omega
  unfold fX8_addNamed_24
  rw [q_bd hf, if_pos rfl, q_gd (gb_of (by omega) (by omega)), q_gd (gb_of (by omega) (by omega)), nm_eq, ek, q_gd (gb_of (by omega) (by omega)), nm_eq, q_gd (gb_of (by omega) (by omega)), nm_eq, q_gd (gb_of (by omega) (by omega)), nm_eq]
  have e : (gsI σ (27 + K) (σ.1 25 K).toNatClampNeg c).1 25 K = σ.1 25 K := by
    rw [gsI_1, if_neg (by omega)]
  rw [e]
  rfl
/-! the sign behind a statement -/
theorem p_semi {σC σM : gS} (hP : PSt σC σM) : Re (fX3_readSemicolon σC) (fX10_asksSign σM 59) (fun a b => Fr fr_fX3_readSemicolon σC a.2 ∧ Fr fr_fX10_asksSign σM b ∧ ((a.1 = 1 ∧ PSt a.2 b ∧ (a.2.1 46 8).toInt < (a.2.1 46 5).toInt) ∨ (a.1 = 0 ∧ FSt a.2 b))) := by
  have hP' := hP
  obtain ⟨p1, p2, p3, p4, p5, ⟨b, hb, hc⟩, p7, p8, p9, p10, p11, p12⟩ := hP'
  obtain ⟨τC, eC, c1, c2, c3⟩ := r_skip p1
  obtain ⟨⟨v, τM⟩, eM, m1, m2, m3, m4⟩ := r_look p2
  dsimp only at m1 m2 m3 m4
  rw [p3, p4] at m3
  have eb := Wh_uniq c3 hb
  have em := Wh_uniq m3 hc
  have e2 : τM.1 0 2 = τC.1 46 5 := Int32.toInt_inj.mp (em.trans eb.symm)
  have tb := jc_tape c1
  have u1 : τC.1 1 = σC.1 1 := Fr_row c2 1 (by decide)
  have uc : ∀ i, i ≠ 5 → τC.1 46 i = σC.1 46 i := fun i hi => (c2 46 i (by decide) (by simp [fr_fX3_skipBlanks]; exact hi)).1
  have um : ∀ i, i ≠ 2 → τM.1 0 i = σM.1 0 i := fun i hi => (m2 0 i (by decide) (by simp [fr_fX10_look]; exact hi)).1
  have n1 : τM.1 1 = σM.1 1 := Fr_row m2 1 (by decide)
  have F1 : Fr fr_fX3_readSemicolon σC τC := Fr_c Fr_r c2 (by decide)
  have F2 : Fr fr_fX10_asksSign σM τM := Fr_c Fr_r m2 (by decide)
  have bM : τM.1 0 5 = 0 := (um 5 (by decide)).trans p8
  have le : (τC.1 46 8).toInt ≤ (τC.1 46 5).toInt := by rw [uc 8 (by decide)]; have := c3.1; omega
  unfold fX3_readSemicolon fX10_asksSign
  refine re_el eC (re_tr p8 ?_)
  have bad : (v ≠ 59) → Re (bd2 (fX3_fail τC 1 (τC.1 46 5)) fun r s => some (vp_nar .boolean r, s)) (bd2 (fX10_takesSign σM 59) fun r3 σ4 => (if r3 = 0 then bd (fX10_fail σ4 1 (σ4.1 0 2)) fun σ7 => some σ7 else some σ4)) (fun a b => Fr fr_fX3_readSemicolon σC a.2 ∧ Fr fr_fX10_asksSign σM b ∧ ((a.1 = 1 ∧ PSt a.2 b ∧ (a.2.1 46 8).toInt < (a.2.1 46 5).toInt) ∨ (a.1 = 0 ∧ FSt a.2 b))) := by
    intro hv
    unfold fX10_takesSign
    rw [r_failC, bd2_so, nb0, if_pos p8, q_bd2 eM]
    dsimp only
    rw [if_neg hv, bd2_so, if_pos rfl, r_fail 1 _ bM, bd_so]
    exact ⟨_, _, rfl, rfl, Fr_w (Fr_w F1 (by decide)) (by decide), Fr_w (Fr_w F2 (by decide)) (by decide), .inr ⟨rfl, JC_f c1, JM_f m1, by show (1 : Int32) ≠ 0; decide, rfl, by show τM.1 0 2 = τC.1 46 5; exact e2⟩⟩
  by_cases h : τC.1 46 4 ≤ τC.1 46 5
  · refine re_tl h (bad (fun hv => ?_))
    have h' := Int32.le_iff_toInt_le.mp h
    rw [uc 4 (by decide)] at h'
    rcases m4 with ⟨m5, -⟩ | ⟨-, m6⟩
    · rw [p4] at m5
      omega
    · rw [m6] at hv
      exact absurd hv (by decide)
  · have h' := q_gt h
    rw [uc 4 (by decide)] at h'
    have m5 : v = σC.1 1 (τC.1 46 5).toInt.toNat := by
      rcases m4 with ⟨-, m6⟩ | ⟨m6, -⟩
      · rw [m6, e2, p3]
      · rw [p4] at m6
        omega
    have b4 := (jc_tape p1).1
    refine re_fl h (re_gl (gb_of (by omega) (by omega)) ?_)
    rw [nm_eq, u1, n_toInt, ← m5]
    by_cases g : v = 59
    · refine re_tl g ?_
      have ic := i_inc (a := τC.1 46 5) (c := 1600) (by omega) tb.2.1.2 (by decide)
      unfold fX10_takesSign
      rw [nm_eq, if_pos p8, q_bd2 eM]
      dsimp only
      rw [if_pos g, nm_eq, bd2_so, if_neg one_ne]
      have jc : JC (gsI τC 46 5 (τC.1 46 5 + 1)) := JC_w c1 (show 0 ≤ _ by omega) (show _ ≤ 1600 by have := (jc_tape p1).1.2; omega)
      have jm : JM (gsI τM 0 2 (τM.1 0 2 + 1)) := JM_w m1 (show 0 ≤ _ by rw [e2]; omega) (show _ ≤ 1600 by rw [e2]; have := (jc_tape p1).1.2; omega)
      obtain ⟨b2, hb2⟩ := Wh_ex BL (σC.1 1) (σC.1 46 4).toInt _ (τC.1 46 5 + 1).toInt rfl
      refine ⟨_, _, rfl, rfl, Fr_w F1 (by decide), Fr_w F2 (by decide), .inl ⟨rfl, ⟨jc, jm, by show τM.1 1 = τC.1 1; rw [n1, u1, p3], ?_, ?_, ⟨b2, ?_, ?_⟩, ?_, bM, ?_, ?_, ?_, ?_⟩, ?_⟩⟩
      · show τM.1 0 3 = τC.1 46 4
        rw [um 3 (by decide), uc 4 (by decide), p4]
      · show τM.1 0 4 = τC.1 46 8
        rw [um 4 (by decide), uc 8 (by decide), p5]
      · show Wh BL (τC.1 1) (τC.1 46 4).toInt (τC.1 46 5 + 1).toInt b2
        rw [u1, uc 4 (by decide)]
        exact hb2
      · show Wh BL (τC.1 1) (τC.1 46 4).toInt (τM.1 0 2 + 1).toInt b2
        rw [u1, uc 4 (by decide), e2]
        exact hb2
      · show (τC.1 46 8).toInt ≤ (τC.1 46 5 + 1).toInt
        omega
      · exact WM_fr (Fr_w F2 (by decide)) (by decide) p9
      · show τC.1 46 2 = 0
        rw [uc 2 (by decide), p10]
      · show τC.1 46 3 = -1
        rw [uc 3 (by decide), p11]
      · show τM.1 0 6 = -1
        rw [um 6 (by decide), p12]
      · show (τC.1 46 8).toInt < (τC.1 46 5 + 1).toInt
        omega
    · exact re_fl g (bad g)
/-! a turn told -/
noncomputable def TURN (σ : gS) : Option (Int32 × gS) := bd2 (fX10_takes σ 6) fun r s => if r = 0 then fX10_number s 0 3 else some (4, s)
theorem TURN_as {σ : gS} {γ : Type} {H : Int32 → gS → Option γ} : (bd2 (fX10_takes σ 6) fun r s => (if r = 0 then bd2 (fX10_number s 0 3) fun v t => H v t else H 4 s)) = bd2 (TURN σ) H := by
  unfold TURN
  rw [bd2_as]
  congr 1
  funext r s
  by_cases h : r = 0
  · rw [if_pos h, if_pos h]
  · rw [if_neg h, if_neg h]; rfl
noncomputable def fr_TURN : List (Nat × Nat) := [(0, 3), (0, 5), (0, 6), (0, 7)]
theorem p_turn {σC σM : gS} (hP : PSt σC σM) : Re (fX3_readTurn σC) (TURN σM) (fun a b => Fr fr_fX3_readTurn σC a.2 ∧ Fr fr_TURN σM b.2 ∧ ((a.1 = 1 ∧ PSt a.2 b.2 ∧ a.2.1 46 11 = b.1 ∧ 0 ≤ b.1.toInt ∧ b.1.toInt ≤ 4) ∨ (a.1 = 0 ∧ FSt a.2 b.2))) := by
  have hP' := hP
  obtain ⟨p1, p2, p3, p4, p5, ⟨b, hb, hc⟩, p7, p8, p9, p10, p11, p12⟩ := hP'
  obtain ⟨τC, eC, c1, c2, c3, c6, cW⟩ := r_mark p1 97 122
  obtain ⟨⟨v, τM⟩, eM, m1, m2, a, m3, m4⟩ := r_takes p2 (p := 6) (L := 3) (by decide) (by decide) (by decide) (by decide) p8
  dsimp only at m1 m2 m4
  rw [p3, p4, p5] at m4
  rw [p3, p4] at m3
  have eb := Wh_uniq c3 hb
  obtain rfl : a = b := Wh_uniq m3 hc
  have u1 : τC.1 1 = σC.1 1 := Fr_row c2 1 (by decide)
  have n1 : τM.1 1 = σM.1 1 := Fr_row m2 1 (by decide)
  have c8 : τC.1 46 8 = σC.1 46 8 := (c2 46 8 (by decide) (by decide)).1
  have c4 : τC.1 46 4 = σC.1 46 4 := (c2 46 4 (by decide) (by decide)).1
  have m0 : τM.1 0 3 = σM.1 0 3 := (m2 0 3 (by decide) (by decide)).1
  have F1 : Fr fr_fX3_readTurn σC τC := Fr_c Fr_r c2 (by decide)
  have F2 : Fr fr_TURN σM τM := Fr_c Fr_r m2 (by decide)
  unfold fX3_readTurn TURN
  refine re_el eC (re_e2r eM ?_)
  have num : v = 0 → τM.1 0 2 = τC.1 46 5 → τM.1 0 4 = σM.1 0 4 → Re (bd2 (fX3_readNumber τC 0 3) fun r s => some (vp_nar .boolean r, s)) (if v = 0 then fX10_number τM 0 3 else some (4, τM)) (fun a b => Fr fr_fX3_readTurn σC a.2 ∧ Fr fr_TURN σM b.2 ∧ ((a.1 = 1 ∧ PSt a.2 b.2 ∧ a.2.1 46 11 = b.1 ∧ 0 ≤ b.1.toInt ∧ b.1.toInt ≤ 4) ∨ (a.1 = 0 ∧ FSt a.2 b.2))) := by
    intro hv e2 e4
    have hQ : PSt τC τM := ⟨c1, m1, by rw [n1, u1, p3], by rw [m0, c4, p4], by rw [e4, c8, p5], ⟨(τC.1 46 5).toInt, by rw [u1, c4]; exact Wh_idem c3, by rw [u1, c4, e2]; exact Wh_idem c3⟩, by rw [c8]; have := c3.1; omega, ((m2 0 5 (by decide) (by decide)).1).trans p8, WM_fr m2 (by decide) p9, ((c2 46 2 (by decide) (by decide)).1).trans p10, ((c2 46 3 (by decide) (by decide)).1).trans p11, ((m2 0 6 (by decide) (by decide)).1).trans p12⟩
    refine re_tr hv ?_
    obtain ⟨⟨r, sC⟩, ⟨w, sM⟩, g1, g2, G1, G2, g3⟩ := p_number hQ 0 3
    rw [g1, g2, bd2_so]
    dsimp only at G1 G2 g3
    refine ⟨_, _, rfl, rfl, Fr_c F1 G1 (by decide), Fr_c F2 G2 (by decide), ?_⟩
    have l3 : (3 : Int32).toInt = 3 := by decide
    have l0 := z0
    rcases g3 with ⟨rfl, g4, g5, g6, g7⟩ | ⟨rfl, g4⟩
    · exact .inl ⟨nb1, g4, g5, by show 0 ≤ w.toInt; omega, by show w.toInt ≤ 4; omega⟩
    · exact .inr ⟨nb0, g4⟩
  by_cases h : τC.1 46 6 = τC.1 46 8
  · refine re_tl h ?_
    have na : a = (σC.1 46 8).toInt := by rw [← eb, ← c8, ← h, c6]
    rcases m4 with ⟨-, ⟨e, w1, w2, w3, w4⟩, -⟩ | ⟨m5, m6, m7, m8⟩
    · exact absurd na w3
    · exact num m5 (Int32.toInt_inj.mp (m7.trans eb.symm)) (m8.trans p5.symm)
  · refine re_fl h ?_
    have na : a ≠ (σC.1 46 8).toInt := fun z => h (Int32.toInt_inj.mp (by rw [c6, c8, eb]; exact z))
    have hw := r_word8 c1
    rw [c6, u1, eb] at hw
    rw [eb] at cW
    rcases hw with ⟨h5, hw⟩ | ⟨h5, hw⟩
    · refine re_el h5 (re_fl one_ne ?_)
      have hd := hw.1
      rcases m4 with ⟨m5, m6, m7, m8⟩ | ⟨-, m6, -⟩
      · have b7 := (jc_tape c1).2.2.2
        unfold fX3_passRun
        rw [nm_eq, nm_eq, bd_so, nm_eq]
        refine re_fr (by rw [m5]; exact one_ne) ?_
        obtain ⟨κ, hκ⟩ : ∃ κ, κ = gsI (gsI (gsI τC 46 5 (τC.1 46 7)) 46 8 ((gsI τC 46 5 (τC.1 46 7)).1 46 7)) 46 11 4 := ⟨_, rfl⟩
        rw [← hκ]
        have k5 : κ.1 46 5 = τC.1 46 7 := by rw [hκ]; rfl
        have k8 : κ.1 46 8 = τC.1 46 7 := by rw [hκ]; rfl
        have ko : ∀ i, i ≠ 5 → i ≠ 8 → i ≠ 11 → κ.1 46 i = τC.1 46 i := fun i a1 a2 a3 => by rw [hκ, gsI_1, if_neg (fun z => a3 z.2), gsI_1, if_neg (fun z => a2 z.2), gsI_1, if_neg (fun z => a1 z.2)]
        have k1 : κ.1 1 = τC.1 1 := by rw [hκ]; rfl
        have k11 : κ.1 46 11 = 4 := by rw [hκ]; rfl
        have kI : JC κ := by rw [hκ]; exact JC_w (JC_w (JC_w c1 (show 0 ≤ _ from b7.1) (show _ ≤ 1600 from b7.2)) (Int32.le_toInt _) (Int32.toInt_le _)) (Int32.le_toInt _) (Int32.toInt_le _)
        have kF : Fr fr_fX3_readTurn σC κ := by rw [hκ]; exact Fr_w (Fr_w (Fr_w F1 (by decide)) (by decide)) (by decide)
        have e2 : τM.1 0 2 = κ.1 46 5 := Int32.toInt_inj.mp (by rw [k5]; omega)
        obtain ⟨b2, hb2⟩ := Wh_ex BL (σC.1 1) (σC.1 46 4).toInt _ (κ.1 46 5).toInt rfl
        refine ⟨_, _, rfl, rfl, kF, F2, .inl ⟨rfl, ⟨kI, m1, by rw [n1, k1, u1, p3], by rw [m0, ko 4 (by decide) (by decide) (by decide), c4, p4], by rw [m8, e2, k5, k8], ⟨b2, by rw [k1, u1, ko 4 (by decide) (by decide) (by decide), c4]; exact hb2, by rw [k1, u1, ko 4 (by decide) (by decide) (by decide), c4, e2]; exact hb2⟩, by rw [k5, k8]; exact Int.le_refl _, ((m2 0 5 (by decide) (by decide)).1).trans p8, WM_fr m2 (by decide) p9, ?_, ?_, ((m2 0 6 (by decide) (by decide)).1).trans p12⟩, k11, by show 0 ≤ (4 : Int32).toInt; decide, by show (4 : Int32).toInt ≤ 4; decide⟩⟩
        · exact (ko 2 (by decide) (by decide) (by decide)).trans (((c2 46 2 (by decide) (by decide)).1).trans p10)
        · exact (ko 3 (by decide) (by decide) (by decide)).trans (((c2 46 3 (by decide) (by decide)).1).trans p11)
      · refine absurd ⟨_, cW, fun z => ?_, na, hw.1, fun i hi => (hw.2 i hi).trans (p9 (6, 8) (by decide) i hi).symm⟩ m6
        have : (3 : Int) = ((3 : Nat) : Int) := rfl
        omega
    · refine re_el h5 (re_tl rfl ?_)
      rcases m4 with ⟨-, ⟨e, w1, w2, w3, w4, w5⟩, -⟩ | ⟨m5, m6, m7, m8⟩
      · obtain rfl := Wh_uniq w1 cW
        exact absurd ⟨w4, fun i hi => (w5 i hi).trans (p9 (6, 8) (by decide) i hi)⟩ hw
      · exact num m5 (Int32.toInt_inj.mp (m7.trans eb.symm)) (m8.trans p5.symm)
end PG
