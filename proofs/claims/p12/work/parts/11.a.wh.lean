/-! THE TWO READERS, 1: blanks, runs, words; the class's side -/
section PA
theorem Fr_row {L : List (Nat × Nat)} {σ τ : gS} (h : Fr L σ τ) (k : Nat) (hk : ∀ q ∈ L, q.1 ≠ k) : τ.1 k = σ.1 k := funext fun i => (h k i (fun z => hk _ z rfl) (fun z => hk _ z rfl)).1
theorem Fr_row2 {L : List (Nat × Nat)} {σ τ : gS} (h : Fr L σ τ) (k : Nat) (hk : ∀ q ∈ L, q.1 ≠ k) : τ.2 k = σ.2 k := funext fun i => (h k i (fun z => hk _ z rfl) (fun z => hk _ z rfl)).2
/-- P as long as it holds, from a on: up to b -/
noncomputable def Wh (P : Int32 → Prop) (T : Nat → Int32) (n a b : Int) : Prop := a ≤ b ∧ (∀ i : Int, a ≤ i → i < b → P (T i.toNat)) ∧ (b < n → ¬ P (T b.toNat)) ∧ (b ≤ n ∨ b = a)
theorem Wh_uniq {P : Int32 → Prop} {T : Nat → Int32} {n a b c : Int} (h : Wh P T n a b) (g : Wh P T n a c) : b = c := by
  obtain ⟨h1, h2, h3, h4⟩ := h
  obtain ⟨g1, g2, g3, g4⟩ := g
  by_cases hb : b < c
  · exact absurd (g2 b h1 hb) (h3 (by omega))
  · by_cases hc : c < b
    · exact absurd (h2 c g1 hc) (g3 (by omega))
    · omega
theorem Wh_idem {P : Int32 → Prop} {T : Nat → Int32} {n a b : Int} (h : Wh P T n a b) : Wh P T n b b := ⟨Int.le_refl _, fun i h1 h2 => absurd h1 (by omega), h.2.2.1, .inr rfl⟩
theorem all_ext {P : Int32 → Prop} {T : Nat → Int32} {a p : Int} (h : ∀ i : Int, a ≤ i → i < p → P (T i.toNat)) (hp : P (T p.toNat)) : ∀ i : Int, a ≤ i → i < p + 1 → P (T i.toNat) := fun i h1 h2 => by
  by_cases e : i = p
  · rw [e]; exact hp
  · exact h i h1 (by omega)
noncomputable def BL (x : Int32) : Prop := x = 10 ∨ x = 32
noncomputable def RG (lo hi x : Int32) : Prop := ¬ x < lo ∧ ¬ hi < x
/-- the word W of L letters from a to e -/
noncomputable def WD (T : Nat → Int32) (a e : Int) (W : Nat → Int32) (L : Nat) : Prop := e - a = L ∧ ∀ i : Nat, i < L → T (a.toNat + i) = W i
theorem jc_tape {σ : gS} (h : JC σ) : (0 ≤ (σ.1 46 4).toInt ∧ (σ.1 46 4).toInt ≤ 1600) ∧ (0 ≤ (σ.1 46 5).toInt ∧ (σ.1 46 5).toInt ≤ 1600) ∧ (0 ≤ (σ.1 46 6).toInt ∧ (σ.1 46 6).toInt ≤ 1600) ∧ (0 ≤ (σ.1 46 7).toInt ∧ (σ.1 46 7).toInt ≤ 1600) := ⟨h 46 4, h 46 5, h 46 6, h 46 7⟩
noncomputable def SKP (σ τ : gS) : Prop := JC τ ∧ Fr fr_fX3_skipBlanks σ τ ∧ Wh BL (σ.1 1) (σ.1 46 4).toInt (σ.1 46 5).toInt (τ.1 46 5).toInt
theorem r_skip {σ : gS} (hI : JC σ) : Ok (fX3_skipBlanks σ) (SKP σ) := by
  have hb := jc_tape hI
  unfold fX3_skipBlanks
  refine ok_lpc (I := fun (n : Nat) (s : gS) => n = (1600 - (s.1 46 5).toInt).toNat ∧ JC s ∧ Fr fr_fX3_skipBlanks σ s ∧ (σ.1 46 5).toInt ≤ (s.1 46 5).toInt ∧ (∀ i : Int, (σ.1 46 5).toInt ≤ i → i < (s.1 46 5).toInt → BL (σ.1 1 i.toNat)) ∧ ((s.1 46 5).toInt ≤ (σ.1 46 4).toInt ∨ (s.1 46 5).toInt = (σ.1 46 5).toInt)) (fun rec n s hs hrec => ?_) K9 (1600 - (σ.1 46 5).toInt).toNat σ ⟨rfl, hI, Fr_r, Int.le_refl _, fun i h1 h2 => absurd h2 (by omega), .inr rfl⟩ (by unfold K9; omega)
  obtain ⟨hn, jI, jF, j1, j2, j3⟩ := hs
  have t1 : s.1 1 = σ.1 1 := Fr_row jF 1 (by decide)
  have t4 : s.1 46 4 = σ.1 46 4 := (jF 46 4 (by decide) (by decide)).1
  have jb := jc_tape jI
  unfold bX3_skipBlanks_0
  refine ok_ite.mpr ⟨fun h => ok_some.mpr ⟨jI, jF, j1, j2, fun z => ?_, j3⟩, fun h => ?_⟩
  · have := Int32.le_iff_toInt_le.mp h
    rw [t4] at this
    omega
  have hlt := q_gt h
  rw [t4] at hlt
  have go : BL (σ.1 1 (s.1 46 5).toInt.toNat) → Ok (jX3_skipBlanks_39 s (fun σ1 => rec σ1)) (SKP σ) := by
    intro hz
    unfold jX3_skipBlanks_39
    have e := i_inc (a := s.1 46 5) (c := 1600) (by omega) jb.2.1.2 (by decide)
    refine ok_nm.mpr (hrec (1600 - (s.1 46 5 + 1).toInt).toNat _ (by omega) ⟨rfl, JC_w jI (show 0 ≤ _ by omega) (show _ ≤ 1600 by omega), Fr_w jF (by decide), show _ ≤ (s.1 46 5 + 1).toInt by omega, ?_, .inl (show (s.1 46 5 + 1).toInt ≤ _ by omega)⟩)
    show ∀ i : Int, (σ.1 46 5).toInt ≤ i → i < (s.1 46 5 + 1).toInt → BL (σ.1 1 i.toNat)
    rw [e]
    exact all_ext j2 hz
  refine ok_gd.mpr ⟨gb_of (by omega) (by omega), ok_nm.mpr ?_⟩
  rw [t1, n_toInt]
  refine ok_ite.mpr ⟨fun h1 => go (.inl h1), fun h1 => ok_gd.mpr ⟨gb_of (by omega) (by omega), ok_nm.mpr (ok_ite.mpr ⟨fun h2 => go (.inr h2), fun h2 => ok_some.mpr ⟨jI, jF, j1, j2, fun _ z => z.elim h1 h2, j3⟩⟩)⟩⟩
noncomputable def MKP (lo hi : Int32) (σ τ : gS) : Prop := JC τ ∧ Fr fr_fX3_markRun σ τ ∧ Wh BL (σ.1 1) (σ.1 46 4).toInt (σ.1 46 5).toInt (τ.1 46 5).toInt ∧ τ.1 46 6 = τ.1 46 5 ∧ Wh (RG lo hi) (σ.1 1) (σ.1 46 4).toInt (τ.1 46 5).toInt (τ.1 46 7).toInt
theorem r_mark {σ : gS} (hI : JC σ) (lo hi : Int32) : Ok (fX3_markRun σ lo hi) (MKP lo hi σ) := by
  have hb := jc_tape hI
  unfold fX3_markRun
  refine ok_bd.mpr ((r_skip hI).mono (fun ρ hρ => ok_nm.mpr (ok_nm.mpr ?_)))
  obtain ⟨kI, kF, kW⟩ := hρ
  have kb := jc_tape kI
  have u1 : ρ.1 1 = σ.1 1 := Fr_row kF 1 (by decide)
  have u4 : ρ.1 46 4 = σ.1 46 4 := (kF 46 4 (by decide) (by decide)).1
  obtain ⟨ω, hω⟩ : ∃ ω, ω = gsI (gsI ρ 46 6 (ρ.1 46 5)) 46 7 ((gsI ρ 46 6 (ρ.1 46 5)).1 46 5) := ⟨_, rfl⟩
  rw [← hω]
  have oI : JC ω := by rw [hω]; exact JC_w (JC_w kI (show 0 ≤ _ from kb.2.1.1) (show _ ≤ 1600 from kb.2.1.2)) (show 0 ≤ _ from kb.2.1.1) (show _ ≤ 1600 from kb.2.1.2)
  have oF : Fr fr_fX3_markRun σ ω := by rw [hω]; exact Fr_w (Fr_w (Fr_c Fr_r kF (by decide)) (by decide)) (by decide)
  have o4 : ω.1 46 4 = σ.1 46 4 := by rw [hω]; exact u4
  have o5 : ω.1 46 5 = ρ.1 46 5 := by rw [hω]; rfl
  have o6 : ω.1 46 6 = ρ.1 46 5 := by rw [hω]; rfl
  have o7 : ω.1 46 7 = ρ.1 46 5 := by rw [hω]; rfl
  clear hω
  have ob := jc_tape oI
  refine ok_lpc (I := fun (n : Nat) (s : gS) => n = (1600 - (s.1 46 7).toInt).toNat ∧ JC s ∧ Fr [(46, 8)] ω s ∧ (ρ.1 46 5).toInt ≤ (s.1 46 7).toInt ∧ (∀ i : Int, (ρ.1 46 5).toInt ≤ i → i < (s.1 46 7).toInt → RG lo hi (σ.1 1 i.toNat)) ∧ ((s.1 46 7).toInt ≤ (σ.1 46 4).toInt ∨ (s.1 46 7).toInt = (ρ.1 46 5).toInt)) (fun rec n s hs hrec => ?_) K9 (1600 - (ω.1 46 7).toInt).toNat ω ⟨rfl, oI, Fr_r, by rw [o7]; exact Int.le_refl _, fun i h1 h2 => absurd h2 (by rw [o7]; omega), .inr (by rw [o7])⟩ (by unfold K9; omega)
  obtain ⟨hn, jI, jF, j1, j2, j3⟩ := hs
  have t1 : s.1 1 = σ.1 1 := (Fr_row jF 1 (by decide)).trans (Fr_row oF 1 (by decide))
  have t4 : s.1 46 4 = σ.1 46 4 := ((jF 46 4 (by decide) (by decide)).1).trans o4
  have t5 : s.1 46 5 = ρ.1 46 5 := ((jF 46 5 (by decide) (by decide)).1).trans o5
  have t6 : s.1 46 6 = ρ.1 46 5 := ((jF 46 6 (by decide) (by decide)).1).trans o6
  have jb := jc_tape jI
  have fin : ((s.1 46 7).toInt < (σ.1 46 4).toInt → ¬ RG lo hi (σ.1 1 (s.1 46 7).toInt.toNat)) → MKP lo hi σ s := fun z => ⟨jI, Fr_c oF jF (by decide), by rw [t5]; exact kW, by rw [t5, t6], by rw [t5]; exact ⟨j1, j2, z, j3⟩⟩
  unfold bX3_markRun_20
  refine ok_ite.mpr ⟨fun h => ok_some.mpr (fin (fun z => ?_)), fun h => ?_⟩
  · have := Int32.le_iff_toInt_le.mp h
    rw [t4] at this
    omega
  have hlt := q_gt h
  rw [t4] at hlt
  refine ok_gd.mpr ⟨gb_of (by omega) (by omega), ok_nm.mpr ?_⟩
  rw [t1, n_toInt]
  refine ok_ite.mpr ⟨fun h1 => ok_some.mpr (fin (fun _ z => z.1 h1)), fun h1 => ok_gd.mpr ⟨gb_of (by omega) (by omega), ok_nm.mpr (ok_ite.mpr ⟨fun h2 => ok_some.mpr (fin (fun _ z => z.2 h2)), fun h2 => ok_nm.mpr ?_⟩)⟩⟩
  have e := i_inc (a := s.1 46 7) (c := 1600) (by omega) jb.2.2.2.2 (by decide)
  refine hrec (1600 - (s.1 46 7 + 1).toInt).toNat _ (by omega) ⟨rfl, JC_w jI (show 0 ≤ _ by omega) (show _ ≤ 1600 by omega), Fr_w jF (by decide), show _ ≤ (s.1 46 7 + 1).toInt by omega, ?_, .inl (show (s.1 46 7 + 1).toInt ≤ _ by omega)⟩
  show ∀ i : Int, (ρ.1 46 5).toInt ≤ i → i < (s.1 46 7 + 1).toInt → RG lo hi (σ.1 1 i.toNat)
  rw [e]
  exact all_ext j2 ⟨h1, h2⟩
theorem r_len0 (σ : gS) : fJ0_length_8abf5_K0 σ = some 5 := rfl
theorem r_chr0 (σ : gS) {p : Int32} (h0 : 0 ≤ p.toInt) (h1 : p.toInt < 5) : fJ0_charAt_5068e_K0 σ p = some (bytC 0 p.toInt.toNat) := by
  have hj : p.toInt = 0 ∨ p.toInt = 1 ∨ p.toInt = 2 ∨ p.toInt = 3 ∨ p.toInt = 4 := by omega
  rcases hj with hj | hj | hj | hj | hj
  · obtain rfl := q_of 0 (hj.trans (by decide)); rfl
  · obtain rfl := q_of 1 (hj.trans (by decide)); rfl
  · obtain rfl := q_of 2 (hj.trans (by decide)); rfl
  · obtain rfl := q_of 3 (hj.trans (by decide)); rfl
  · obtain rfl := q_of 4 (hj.trans (by decide)); rfl
theorem r_word0 {σ : gS} (hI : JC σ) : (fX3_isWord_K0 σ = some 1 ∧ WD (σ.1 1) (σ.1 46 6).toInt (σ.1 46 7).toInt (bytC 0) 5) ∨ (fX3_isWord_K0 σ = some 0 ∧ ¬ WD (σ.1 1) (σ.1 46 6).toInt (σ.1 46 7).toInt (bytC 0) 5) := by
  have hb := jc_tape hI
  have lL : (5 : Int32).toInt = 5 := by decide
  have ed : (σ.1 46 7 - σ.1 46 6).toInt = (σ.1 46 7).toInt - (σ.1 46 6).toInt := by rw [isub_toInt] <;> omega
  unfold fX3_isWord_K0
  rw [q_bd (r_len0 σ)]
  by_cases h : σ.1 46 7 - σ.1 46 6 = 5
  · rw [if_pos h]
    have hd : (σ.1 46 7).toInt - (σ.1 46 6).toInt = 5 := by rw [← ed, h]; exact lL
    have key : Ok (lpc (S := Int32) K9 (fun rec s => bX3_isWord_K0_20 σ (fun a2 => rec (a2)) s) (0)) (fun out => (out = 1 ∧ WD (σ.1 1) (σ.1 46 6).toInt (σ.1 46 7).toInt (bytC 0) 5) ∨ (out = 0 ∧ ¬ WD (σ.1 1) (σ.1 46 6).toInt (σ.1 46 7).toInt (bytC 0) 5)) := by
      refine ok_lpc (I := fun (n : Nat) (s : Int32) => n = (5 - s.toInt).toNat ∧ 0 ≤ s.toInt ∧ s.toInt ≤ 5 ∧ ∀ i : Nat, (i : Int) < s.toInt → σ.1 1 ((σ.1 46 6).toInt.toNat + i) = bytC 0 i) (fun rec n s hs hrec => ?_) K9 5 0 ⟨by decide, by decide, by decide, fun i h2 => absurd h2 (by have := z0; omega)⟩ (by unfold K9; decide)
      obtain ⟨hn, j0, j1, j2⟩ := hs
      unfold bX3_isWord_K0_20
      rw [q_bd (r_len0 σ)]
      refine ok_ite.mpr ⟨fun g => ok_some.mpr (.inl ⟨rfl, hd, fun i hi => j2 i ?_⟩), fun g => ?_⟩
      · have := Int32.le_iff_toInt_le.mp g
        omega
      have hlt := q_gt g
      rw [lL] at hlt
      have es : (σ.1 46 6 + s).toInt = (σ.1 46 6).toInt + s.toInt := by rw [iadd_toInt] <;> omega
      have en : (σ.1 46 6 + s).toInt.toNat = (σ.1 46 6).toInt.toNat + s.toInt.toNat := by omega
      refine ok_gd.mpr ⟨gb_of (by omega) (by omega), ok_nm.mpr ?_⟩
      rw [q_bd (r_chr0 σ j0 hlt), n_toInt, en]
      refine ok_ite.mpr ⟨fun g2 => ok_nm.mpr ?_, fun g2 => ok_some.mpr (.inr ⟨rfl, fun z => g2 (z.2 s.toInt.toNat (by omega))⟩)⟩
      have e1 := i_inc (a := s) (c := 5) (by omega) j1 (by decide)
      refine hrec (5 - (s + 1).toInt).toNat (s + 1) (by omega) ⟨rfl, by omega, by omega, fun i hi => ?_⟩
      by_cases e : (i : Int) = s.toInt
      · have : i = s.toInt.toNat := by omega
        rw [this]; exact g2
      · exact j2 i (by omega)
    obtain ⟨x, ex, hx⟩ := key
    rcases hx with ⟨rfl, hw⟩ | ⟨rfl, hw⟩
    · exact .inl ⟨ex, hw⟩
    · exact .inr ⟨ex, hw⟩
  · rw [if_neg h]
    exact .inr ⟨rfl, fun z => h (q_of 5 (by rw [ed, lL]; exact z.1))⟩
theorem r_len1 (σ : gS) : fJ0_length_8abf5_K1 σ = some 7 := rfl
theorem r_chr1 (σ : gS) {p : Int32} (h0 : 0 ≤ p.toInt) (h1 : p.toInt < 7) : fJ0_charAt_5068e_K1 σ p = some (bytC 1 p.toInt.toNat) := by
  have hj : p.toInt = 0 ∨ p.toInt = 1 ∨ p.toInt = 2 ∨ p.toInt = 3 ∨ p.toInt = 4 ∨ p.toInt = 5 ∨ p.toInt = 6 := by omega
  rcases hj with hj | hj | hj | hj | hj | hj | hj
  · obtain rfl := q_of 0 (hj.trans (by decide)); rfl
  · obtain rfl := q_of 1 (hj.trans (by decide)); rfl
  · obtain rfl := q_of 2 (hj.trans (by decide)); rfl
  · obtain rfl := q_of 3 (hj.trans (by decide)); rfl
  · obtain rfl := q_of 4 (hj.trans (by decide)); rfl
  · obtain rfl := q_of 5 (hj.trans (by decide)); rfl
  · obtain rfl := q_of 6 (hj.trans (by decide)); rfl
theorem r_word1 {σ : gS} (hI : JC σ) : (fX3_isWord_K1 σ = some 1 ∧ WD (σ.1 1) (σ.1 46 6).toInt (σ.1 46 7).toInt (bytC 1) 7) ∨ (fX3_isWord_K1 σ = some 0 ∧ ¬ WD (σ.1 1) (σ.1 46 6).toInt (σ.1 46 7).toInt (bytC 1) 7) := by
  have hb := jc_tape hI
  have lL : (7 : Int32).toInt = 7 := by decide
  have ed : (σ.1 46 7 - σ.1 46 6).toInt = (σ.1 46 7).toInt - (σ.1 46 6).toInt := by rw [isub_toInt] <;> omega
  unfold fX3_isWord_K1
  rw [q_bd (r_len1 σ)]
  by_cases h : σ.1 46 7 - σ.1 46 6 = 7
  · rw [if_pos h]
    have hd : (σ.1 46 7).toInt - (σ.1 46 6).toInt = 7 := by rw [← ed, h]; exact lL
    have key : Ok (lpc (S := Int32) K9 (fun rec s => bX3_isWord_K1_20 σ (fun a2 => rec (a2)) s) (0)) (fun out => (out = 1 ∧ WD (σ.1 1) (σ.1 46 6).toInt (σ.1 46 7).toInt (bytC 1) 7) ∨ (out = 0 ∧ ¬ WD (σ.1 1) (σ.1 46 6).toInt (σ.1 46 7).toInt (bytC 1) 7)) := by
      refine ok_lpc (I := fun (n : Nat) (s : Int32) => n = (7 - s.toInt).toNat ∧ 0 ≤ s.toInt ∧ s.toInt ≤ 7 ∧ ∀ i : Nat, (i : Int) < s.toInt → σ.1 1 ((σ.1 46 6).toInt.toNat + i) = bytC 1 i) (fun rec n s hs hrec => ?_) K9 7 0 ⟨by decide, by decide, by decide, fun i h2 => absurd h2 (by have := z0; omega)⟩ (by unfold K9; decide)
      obtain ⟨hn, j0, j1, j2⟩ := hs
      unfold bX3_isWord_K1_20
      rw [q_bd (r_len1 σ)]
      refine ok_ite.mpr ⟨fun g => ok_some.mpr (.inl ⟨rfl, hd, fun i hi => j2 i ?_⟩), fun g => ?_⟩
      · have := Int32.le_iff_toInt_le.mp g
        omega
      have hlt := q_gt g
      rw [lL] at hlt
      have es : (σ.1 46 6 + s).toInt = (σ.1 46 6).toInt + s.toInt := by rw [iadd_toInt] <;> omega
      have en : (σ.1 46 6 + s).toInt.toNat = (σ.1 46 6).toInt.toNat + s.toInt.toNat := by omega
      refine ok_gd.mpr ⟨gb_of (by omega) (by omega), ok_nm.mpr ?_⟩
      rw [q_bd (r_chr1 σ j0 hlt), n_toInt, en]
      refine ok_ite.mpr ⟨fun g2 => ok_nm.mpr ?_, fun g2 => ok_some.mpr (.inr ⟨rfl, fun z => g2 (z.2 s.toInt.toNat (by omega))⟩)⟩
      have e1 := i_inc (a := s) (c := 7) (by omega) j1 (by decide)
      refine hrec (7 - (s + 1).toInt).toNat (s + 1) (by omega) ⟨rfl, by omega, by omega, fun i hi => ?_⟩
      by_cases e : (i : Int) = s.toInt
      · have : i = s.toInt.toNat := by omega
        rw [this]; exact g2
      · exact j2 i (by omega)
    obtain ⟨x, ex, hx⟩ := key
    rcases hx with ⟨rfl, hw⟩ | ⟨rfl, hw⟩
    · exact .inl ⟨ex, hw⟩
    · exact .inr ⟨ex, hw⟩
  · rw [if_neg h]
    exact .inr ⟨rfl, fun z => h (q_of 7 (by rw [ed, lL]; exact z.1))⟩
theorem r_len2 (σ : gS) : fJ0_length_8abf5_K2 σ = some 5 := rfl
theorem r_chr2 (σ : gS) {p : Int32} (h0 : 0 ≤ p.toInt) (h1 : p.toInt < 5) : fJ0_charAt_5068e_K2 σ p = some (bytC 2 p.toInt.toNat) := by
  have hj : p.toInt = 0 ∨ p.toInt = 1 ∨ p.toInt = 2 ∨ p.toInt = 3 ∨ p.toInt = 4 := by omega
  rcases hj with hj | hj | hj | hj | hj
  · obtain rfl := q_of 0 (hj.trans (by decide)); rfl
  · obtain rfl := q_of 1 (hj.trans (by decide)); rfl
  · obtain rfl := q_of 2 (hj.trans (by decide)); rfl
  · obtain rfl := q_of 3 (hj.trans (by decide)); rfl
  · obtain rfl := q_of 4 (hj.trans (by decide)); rfl
theorem r_word2 {σ : gS} (hI : JC σ) : (fX3_isWord_K2 σ = some 1 ∧ WD (σ.1 1) (σ.1 46 6).toInt (σ.1 46 7).toInt (bytC 2) 5) ∨ (fX3_isWord_K2 σ = some 0 ∧ ¬ WD (σ.1 1) (σ.1 46 6).toInt (σ.1 46 7).toInt (bytC 2) 5) := by
  have hb := jc_tape hI
  have lL : (5 : Int32).toInt = 5 := by decide
  have ed : (σ.1 46 7 - σ.1 46 6).toInt = (σ.1 46 7).toInt - (σ.1 46 6).toInt := by rw [isub_toInt] <;> omega
  unfold fX3_isWord_K2
  rw [q_bd (r_len2 σ)]
  by_cases h : σ.1 46 7 - σ.1 46 6 = 5
  · rw [if_pos h]
    have hd : (σ.1 46 7).toInt - (σ.1 46 6).toInt = 5 := by rw [← ed, h]; exact lL
    have key : Ok (lpc (S := Int32) K9 (fun rec s => bX3_isWord_K2_20 σ (fun a2 => rec (a2)) s) (0)) (fun out => (out = 1 ∧ WD (σ.1 1) (σ.1 46 6).toInt (σ.1 46 7).toInt (bytC 2) 5) ∨ (out = 0 ∧ ¬ WD (σ.1 1) (σ.1 46 6).toInt (σ.1 46 7).toInt (bytC 2) 5)) := by
      refine ok_lpc (I := fun (n : Nat) (s : Int32) => n = (5 - s.toInt).toNat ∧ 0 ≤ s.toInt ∧ s.toInt ≤ 5 ∧ ∀ i : Nat, (i : Int) < s.toInt → σ.1 1 ((σ.1 46 6).toInt.toNat + i) = bytC 2 i) (fun rec n s hs hrec => ?_) K9 5 0 ⟨by decide, by decide, by decide, fun i h2 => absurd h2 (by have := z0; omega)⟩ (by unfold K9; decide)
      obtain ⟨hn, j0, j1, j2⟩ := hs
      unfold bX3_isWord_K2_20
      rw [q_bd (r_len2 σ)]
      refine ok_ite.mpr ⟨fun g => ok_some.mpr (.inl ⟨rfl, hd, fun i hi => j2 i ?_⟩), fun g => ?_⟩
      · have := Int32.le_iff_toInt_le.mp g
        omega
      have hlt := q_gt g
      rw [lL] at hlt
      have es : (σ.1 46 6 + s).toInt = (σ.1 46 6).toInt + s.toInt := by rw [iadd_toInt] <;> omega
      have en : (σ.1 46 6 + s).toInt.toNat = (σ.1 46 6).toInt.toNat + s.toInt.toNat := by omega
      refine ok_gd.mpr ⟨gb_of (by omega) (by omega), ok_nm.mpr ?_⟩
      rw [q_bd (r_chr2 σ j0 hlt), n_toInt, en]
      refine ok_ite.mpr ⟨fun g2 => ok_nm.mpr ?_, fun g2 => ok_some.mpr (.inr ⟨rfl, fun z => g2 (z.2 s.toInt.toNat (by omega))⟩)⟩
      have e1 := i_inc (a := s) (c := 5) (by omega) j1 (by decide)
      refine hrec (5 - (s + 1).toInt).toNat (s + 1) (by omega) ⟨rfl, by omega, by omega, fun i hi => ?_⟩
      by_cases e : (i : Int) = s.toInt
      · have : i = s.toInt.toNat := by omega
        rw [this]; exact g2
      · exact j2 i (by omega)
    obtain ⟨x, ex, hx⟩ := key
    rcases hx with ⟨rfl, hw⟩ | ⟨rfl, hw⟩
    · exact .inl ⟨ex, hw⟩
    · exact .inr ⟨ex, hw⟩
  · rw [if_neg h]
    exact .inr ⟨rfl, fun z => h (q_of 5 (by rw [ed, lL]; exact z.1))⟩
theorem r_len3 (σ : gS) : fJ0_length_8abf5_K3 σ = some 3 := rfl
theorem r_chr3 (σ : gS) {p : Int32} (h0 : 0 ≤ p.toInt) (h1 : p.toInt < 3) : fJ0_charAt_5068e_K3 σ p = some (bytC 3 p.toInt.toNat) := by
  have hj : p.toInt = 0 ∨ p.toInt = 1 ∨ p.toInt = 2 := by omega
  rcases hj with hj | hj | hj
  · obtain rfl := q_of 0 (hj.trans (by decide)); rfl
  · obtain rfl := q_of 1 (hj.trans (by decide)); rfl
  · obtain rfl := q_of 2 (hj.trans (by decide)); rfl
theorem r_word3 {σ : gS} (hI : JC σ) : (fX3_isWord_K3 σ = some 1 ∧ WD (σ.1 1) (σ.1 46 6).toInt (σ.1 46 7).toInt (bytC 3) 3) ∨ (fX3_isWord_K3 σ = some 0 ∧ ¬ WD (σ.1 1) (σ.1 46 6).toInt (σ.1 46 7).toInt (bytC 3) 3) := by
  have hb := jc_tape hI
  have lL : (3 : Int32).toInt = 3 := by decide
  have ed : (σ.1 46 7 - σ.1 46 6).toInt = (σ.1 46 7).toInt - (σ.1 46 6).toInt := by rw [isub_toInt] <;> omega
  unfold fX3_isWord_K3
  rw [q_bd (r_len3 σ)]
  by_cases h : σ.1 46 7 - σ.1 46 6 = 3
  · rw [if_pos h]
    have hd : (σ.1 46 7).toInt - (σ.1 46 6).toInt = 3 := by rw [← ed, h]; exact lL
    have key : Ok (lpc (S := Int32) K9 (fun rec s => bX3_isWord_K3_20 σ (fun a2 => rec (a2)) s) (0)) (fun out => (out = 1 ∧ WD (σ.1 1) (σ.1 46 6).toInt (σ.1 46 7).toInt (bytC 3) 3) ∨ (out = 0 ∧ ¬ WD (σ.1 1) (σ.1 46 6).toInt (σ.1 46 7).toInt (bytC 3) 3)) := by
      refine ok_lpc (I := fun (n : Nat) (s : Int32) => n = (3 - s.toInt).toNat ∧ 0 ≤ s.toInt ∧ s.toInt ≤ 3 ∧ ∀ i : Nat, (i : Int) < s.toInt → σ.1 1 ((σ.1 46 6).toInt.toNat + i) = bytC 3 i) (fun rec n s hs hrec => ?_) K9 3 0 ⟨by decide, by decide, by decide, fun i h2 => absurd h2 (by have := z0; omega)⟩ (by unfold K9; decide)
      obtain ⟨hn, j0, j1, j2⟩ := hs
      unfold bX3_isWord_K3_20
      rw [q_bd (r_len3 σ)]
      refine ok_ite.mpr ⟨fun g => ok_some.mpr (.inl ⟨rfl, hd, fun i hi => j2 i ?_⟩), fun g => ?_⟩
      · have := Int32.le_iff_toInt_le.mp g
        omega
      have hlt := q_gt g
      rw [lL] at hlt
      have es : (σ.1 46 6 + s).toInt = (σ.1 46 6).toInt + s.toInt := by rw [iadd_toInt] <;> omega
      have en : (σ.1 46 6 + s).toInt.toNat = (σ.1 46 6).toInt.toNat + s.toInt.toNat := by omega
      refine ok_gd.mpr ⟨gb_of (by omega) (by omega), ok_nm.mpr ?_⟩
      rw [q_bd (r_chr3 σ j0 hlt), n_toInt, en]
      refine ok_ite.mpr ⟨fun g2 => ok_nm.mpr ?_, fun g2 => ok_some.mpr (.inr ⟨rfl, fun z => g2 (z.2 s.toInt.toNat (by omega))⟩)⟩
      have e1 := i_inc (a := s) (c := 3) (by omega) j1 (by decide)
      refine hrec (3 - (s + 1).toInt).toNat (s + 1) (by omega) ⟨rfl, by omega, by omega, fun i hi => ?_⟩
      by_cases e : (i : Int) = s.toInt
      · have : i = s.toInt.toNat := by omega
        rw [this]; exact g2
      · exact j2 i (by omega)
    obtain ⟨x, ex, hx⟩ := key
    rcases hx with ⟨rfl, hw⟩ | ⟨rfl, hw⟩
    · exact .inl ⟨ex, hw⟩
    · exact .inr ⟨ex, hw⟩
  · rw [if_neg h]
    exact .inr ⟨rfl, fun z => h (q_of 3 (by rw [ed, lL]; exact z.1))⟩
theorem r_len4 (σ : gS) : fJ0_length_8abf5_K4 σ = some 7 := rfl
theorem r_chr4 (σ : gS) {p : Int32} (h0 : 0 ≤ p.toInt) (h1 : p.toInt < 7) : fJ0_charAt_5068e_K4 σ p = some (bytC 4 p.toInt.toNat) := by
  have hj : p.toInt = 0 ∨ p.toInt = 1 ∨ p.toInt = 2 ∨ p.toInt = 3 ∨ p.toInt = 4 ∨ p.toInt = 5 ∨ p.toInt = 6 := by omega
  rcases hj with hj | hj | hj | hj | hj | hj | hj
  · obtain rfl := q_of 0 (hj.trans (by decide)); rfl
  · obtain rfl := q_of 1 (hj.trans (by decide)); rfl
  · obtain rfl := q_of 2 (hj.trans (by decide)); rfl
  · obtain rfl := q_of 3 (hj.trans (by decide)); rfl
  · obtain rfl := q_of 4 (hj.trans (by decide)); rfl
  · obtain rfl := q_of 5 (hj.trans (by decide)); rfl
  · obtain rfl := q_of 6 (hj.trans (by decide)); rfl
theorem r_word4 {σ : gS} (hI : JC σ) : (fX3_isWord_K4 σ = some 1 ∧ WD (σ.1 1) (σ.1 46 6).toInt (σ.1 46 7).toInt (bytC 4) 7) ∨ (fX3_isWord_K4 σ = some 0 ∧ ¬ WD (σ.1 1) (σ.1 46 6).toInt (σ.1 46 7).toInt (bytC 4) 7) := by
  have hb := jc_tape hI
  have lL : (7 : Int32).toInt = 7 := by decide
  have ed : (σ.1 46 7 - σ.1 46 6).toInt = (σ.1 46 7).toInt - (σ.1 46 6).toInt := by rw [isub_toInt] <;> omega
  unfold fX3_isWord_K4
  rw [q_bd (r_len4 σ)]
  by_cases h : σ.1 46 7 - σ.1 46 6 = 7
  · rw [if_pos h]
    have hd : (σ.1 46 7).toInt - (σ.1 46 6).toInt = 7 := by rw [← ed, h]; exact lL
    have key : Ok (lpc (S := Int32) K9 (fun rec s => bX3_isWord_K4_20 σ (fun a2 => rec (a2)) s) (0)) (fun out => (out = 1 ∧ WD (σ.1 1) (σ.1 46 6).toInt (σ.1 46 7).toInt (bytC 4) 7) ∨ (out = 0 ∧ ¬ WD (σ.1 1) (σ.1 46 6).toInt (σ.1 46 7).toInt (bytC 4) 7)) := by
      refine ok_lpc (I := fun (n : Nat) (s : Int32) => n = (7 - s.toInt).toNat ∧ 0 ≤ s.toInt ∧ s.toInt ≤ 7 ∧ ∀ i : Nat, (i : Int) < s.toInt → σ.1 1 ((σ.1 46 6).toInt.toNat + i) = bytC 4 i) (fun rec n s hs hrec => ?_) K9 7 0 ⟨by decide, by decide, by decide, fun i h2 => absurd h2 (by have := z0; omega)⟩ (by unfold K9; decide)
      obtain ⟨hn, j0, j1, j2⟩ := hs
      unfold bX3_isWord_K4_20
      rw [q_bd (r_len4 σ)]
      refine ok_ite.mpr ⟨fun g => ok_some.mpr (.inl ⟨rfl, hd, fun i hi => j2 i ?_⟩), fun g => ?_⟩
      · have := Int32.le_iff_toInt_le.mp g
        omega
      have hlt := q_gt g
      rw [lL] at hlt
      have es : (σ.1 46 6 + s).toInt = (σ.1 46 6).toInt + s.toInt := by rw [iadd_toInt] <;> omega
      have en : (σ.1 46 6 + s).toInt.toNat = (σ.1 46 6).toInt.toNat + s.toInt.toNat := by omega
      refine ok_gd.mpr ⟨gb_of (by omega) (by omega), ok_nm.mpr ?_⟩
      rw [q_bd (r_chr4 σ j0 hlt), n_toInt, en]
      refine ok_ite.mpr ⟨fun g2 => ok_nm.mpr ?_, fun g2 => ok_some.mpr (.inr ⟨rfl, fun z => g2 (z.2 s.toInt.toNat (by omega))⟩)⟩
      have e1 := i_inc (a := s) (c := 7) (by omega) j1 (by decide)
      refine hrec (7 - (s + 1).toInt).toNat (s + 1) (by omega) ⟨rfl, by omega, by omega, fun i hi => ?_⟩
      by_cases e : (i : Int) = s.toInt
      · have : i = s.toInt.toNat := by omega
        rw [this]; exact g2
      · exact j2 i (by omega)
    obtain ⟨x, ex, hx⟩ := key
    rcases hx with ⟨rfl, hw⟩ | ⟨rfl, hw⟩
    · exact .inl ⟨ex, hw⟩
    · exact .inr ⟨ex, hw⟩
  · rw [if_neg h]
    exact .inr ⟨rfl, fun z => h (q_of 7 (by rw [ed, lL]; exact z.1))⟩
theorem r_len5 (σ : gS) : fJ0_length_8abf5_K5 σ = some 6 := rfl
theorem r_chr5 (σ : gS) {p : Int32} (h0 : 0 ≤ p.toInt) (h1 : p.toInt < 6) : fJ0_charAt_5068e_K5 σ p = some (bytC 5 p.toInt.toNat) := by
  have hj : p.toInt = 0 ∨ p.toInt = 1 ∨ p.toInt = 2 ∨ p.toInt = 3 ∨ p.toInt = 4 ∨ p.toInt = 5 := by omega
  rcases hj with hj | hj | hj | hj | hj | hj
  · obtain rfl := q_of 0 (hj.trans (by decide)); rfl
  · obtain rfl := q_of 1 (hj.trans (by decide)); rfl
  · obtain rfl := q_of 2 (hj.trans (by decide)); rfl
  · obtain rfl := q_of 3 (hj.trans (by decide)); rfl
  · obtain rfl := q_of 4 (hj.trans (by decide)); rfl
  · obtain rfl := q_of 5 (hj.trans (by decide)); rfl
theorem r_word5 {σ : gS} (hI : JC σ) : (fX3_isWord_K5 σ = some 1 ∧ WD (σ.1 1) (σ.1 46 6).toInt (σ.1 46 7).toInt (bytC 5) 6) ∨ (fX3_isWord_K5 σ = some 0 ∧ ¬ WD (σ.1 1) (σ.1 46 6).toInt (σ.1 46 7).toInt (bytC 5) 6) := by
  have hb := jc_tape hI
  have lL : (6 : Int32).toInt = 6 := by decide
  have ed : (σ.1 46 7 - σ.1 46 6).toInt = (σ.1 46 7).toInt - (σ.1 46 6).toInt := by rw [isub_toInt] <;> omega
  unfold fX3_isWord_K5
  rw [q_bd (r_len5 σ)]
  by_cases h : σ.1 46 7 - σ.1 46 6 = 6
  · rw [if_pos h]
    have hd : (σ.1 46 7).toInt - (σ.1 46 6).toInt = 6 := by rw [← ed, h]; exact lL
    have key : Ok (lpc (S := Int32) K9 (fun rec s => bX3_isWord_K5_20 σ (fun a2 => rec (a2)) s) (0)) (fun out => (out = 1 ∧ WD (σ.1 1) (σ.1 46 6).toInt (σ.1 46 7).toInt (bytC 5) 6) ∨ (out = 0 ∧ ¬ WD (σ.1 1) (σ.1 46 6).toInt (σ.1 46 7).toInt (bytC 5) 6)) := by
      refine ok_lpc (I := fun (n : Nat) (s : Int32) => n = (6 - s.toInt).toNat ∧ 0 ≤ s.toInt ∧ s.toInt ≤ 6 ∧ ∀ i : Nat, (i : Int) < s.toInt → σ.1 1 ((σ.1 46 6).toInt.toNat + i) = bytC 5 i) (fun rec n s hs hrec => ?_) K9 6 0 ⟨by decide, by decide, by decide, fun i h2 => absurd h2 (by have := z0; omega)⟩ (by unfold K9; decide)
      obtain ⟨hn, j0, j1, j2⟩ := hs
      unfold bX3_isWord_K5_20
      rw [q_bd (r_len5 σ)]
      refine ok_ite.mpr ⟨fun g => ok_some.mpr (.inl ⟨rfl, hd, fun i hi => j2 i ?_⟩), fun g => ?_⟩
      · have := Int32.le_iff_toInt_le.mp g
        omega
      have hlt := q_gt g
      rw [lL] at hlt
      have es : (σ.1 46 6 + s).toInt = (σ.1 46 6).toInt + s.toInt := by rw [iadd_toInt] <;> omega
      have en : (σ.1 46 6 + s).toInt.toNat = (σ.1 46 6).toInt.toNat + s.toInt.toNat := by omega
      refine ok_gd.mpr ⟨gb_of (by omega) (by omega), ok_nm.mpr ?_⟩
      rw [q_bd (r_chr5 σ j0 hlt), n_toInt, en]
      refine ok_ite.mpr ⟨fun g2 => ok_nm.mpr ?_, fun g2 => ok_some.mpr (.inr ⟨rfl, fun z => g2 (z.2 s.toInt.toNat (by omega))⟩)⟩
      have e1 := i_inc (a := s) (c := 6) (by omega) j1 (by decide)
      refine hrec (6 - (s + 1).toInt).toNat (s + 1) (by omega) ⟨rfl, by omega, by omega, fun i hi => ?_⟩
      by_cases e : (i : Int) = s.toInt
      · have : i = s.toInt.toNat := by omega
        rw [this]; exact g2
      · exact j2 i (by omega)
    obtain ⟨x, ex, hx⟩ := key
    rcases hx with ⟨rfl, hw⟩ | ⟨rfl, hw⟩
    · exact .inl ⟨ex, hw⟩
    · exact .inr ⟨ex, hw⟩
  · rw [if_neg h]
    exact .inr ⟨rfl, fun z => h (q_of 6 (by rw [ed, lL]; exact z.1))⟩
theorem r_len6 (σ : gS) : fJ0_length_8abf5_K6 σ = some 2 := rfl
theorem r_chr6 (σ : gS) {p : Int32} (h0 : 0 ≤ p.toInt) (h1 : p.toInt < 2) : fJ0_charAt_5068e_K6 σ p = some (bytC 6 p.toInt.toNat) := by
  have hj : p.toInt = 0 ∨ p.toInt = 1 := by omega
  rcases hj with hj | hj
  · obtain rfl := q_of 0 (hj.trans (by decide)); rfl
  · obtain rfl := q_of 1 (hj.trans (by decide)); rfl
theorem r_word6 {σ : gS} (hI : JC σ) : (fX3_isWord_K6 σ = some 1 ∧ WD (σ.1 1) (σ.1 46 6).toInt (σ.1 46 7).toInt (bytC 6) 2) ∨ (fX3_isWord_K6 σ = some 0 ∧ ¬ WD (σ.1 1) (σ.1 46 6).toInt (σ.1 46 7).toInt (bytC 6) 2) := by
  have hb := jc_tape hI
  have lL : (2 : Int32).toInt = 2 := by decide
  have ed : (σ.1 46 7 - σ.1 46 6).toInt = (σ.1 46 7).toInt - (σ.1 46 6).toInt := by rw [isub_toInt] <;> omega
  unfold fX3_isWord_K6
  rw [q_bd (r_len6 σ)]
  by_cases h : σ.1 46 7 - σ.1 46 6 = 2
  · rw [if_pos h]
    have hd : (σ.1 46 7).toInt - (σ.1 46 6).toInt = 2 := by rw [← ed, h]; exact lL
    have key : Ok (lpc (S := Int32) K9 (fun rec s => bX3_isWord_K6_20 σ (fun a2 => rec (a2)) s) (0)) (fun out => (out = 1 ∧ WD (σ.1 1) (σ.1 46 6).toInt (σ.1 46 7).toInt (bytC 6) 2) ∨ (out = 0 ∧ ¬ WD (σ.1 1) (σ.1 46 6).toInt (σ.1 46 7).toInt (bytC 6) 2)) := by
      refine ok_lpc (I := fun (n : Nat) (s : Int32) => n = (2 - s.toInt).toNat ∧ 0 ≤ s.toInt ∧ s.toInt ≤ 2 ∧ ∀ i : Nat, (i : Int) < s.toInt → σ.1 1 ((σ.1 46 6).toInt.toNat + i) = bytC 6 i) (fun rec n s hs hrec => ?_) K9 2 0 ⟨by decide, by decide, by decide, fun i h2 => absurd h2 (by have := z0; omega)⟩ (by unfold K9; decide)
      obtain ⟨hn, j0, j1, j2⟩ := hs
      unfold bX3_isWord_K6_20
      rw [q_bd (r_len6 σ)]
      refine ok_ite.mpr ⟨fun g => ok_some.mpr (.inl ⟨rfl, hd, fun i hi => j2 i ?_⟩), fun g => ?_⟩
      · have := Int32.le_iff_toInt_le.mp g
        omega
      have hlt := q_gt g
      rw [lL] at hlt
      have es : (σ.1 46 6 + s).toInt = (σ.1 46 6).toInt + s.toInt := by rw [iadd_toInt] <;> omega
      have en : (σ.1 46 6 + s).toInt.toNat = (σ.1 46 6).toInt.toNat + s.toInt.toNat := by omega
      refine ok_gd.mpr ⟨gb_of (by omega) (by omega), ok_nm.mpr ?_⟩
      rw [q_bd (r_chr6 σ j0 hlt), n_toInt, en]
      refine ok_ite.mpr ⟨fun g2 => ok_nm.mpr ?_, fun g2 => ok_some.mpr (.inr ⟨rfl, fun z => g2 (z.2 s.toInt.toNat (by omega))⟩)⟩
      have e1 := i_inc (a := s) (c := 2) (by omega) j1 (by decide)
      refine hrec (2 - (s + 1).toInt).toNat (s + 1) (by omega) ⟨rfl, by omega, by omega, fun i hi => ?_⟩
      by_cases e : (i : Int) = s.toInt
      · have : i = s.toInt.toNat := by omega
        rw [this]; exact g2
      · exact j2 i (by omega)
    obtain ⟨x, ex, hx⟩ := key
    rcases hx with ⟨rfl, hw⟩ | ⟨rfl, hw⟩
    · exact .inl ⟨ex, hw⟩
    · exact .inr ⟨ex, hw⟩
  · rw [if_neg h]
    exact .inr ⟨rfl, fun z => h (q_of 2 (by rw [ed, lL]; exact z.1))⟩
theorem r_len7 (σ : gS) : fJ0_length_8abf5_K7 σ = some 4 := rfl
theorem r_chr7 (σ : gS) {p : Int32} (h0 : 0 ≤ p.toInt) (h1 : p.toInt < 4) : fJ0_charAt_5068e_K7 σ p = some (bytC 7 p.toInt.toNat) := by
  have hj : p.toInt = 0 ∨ p.toInt = 1 ∨ p.toInt = 2 ∨ p.toInt = 3 := by omega
  rcases hj with hj | hj | hj | hj
  · obtain rfl := q_of 0 (hj.trans (by decide)); rfl
  · obtain rfl := q_of 1 (hj.trans (by decide)); rfl
  · obtain rfl := q_of 2 (hj.trans (by decide)); rfl
  · obtain rfl := q_of 3 (hj.trans (by decide)); rfl
theorem r_word7 {σ : gS} (hI : JC σ) : (fX3_isWord_K7 σ = some 1 ∧ WD (σ.1 1) (σ.1 46 6).toInt (σ.1 46 7).toInt (bytC 7) 4) ∨ (fX3_isWord_K7 σ = some 0 ∧ ¬ WD (σ.1 1) (σ.1 46 6).toInt (σ.1 46 7).toInt (bytC 7) 4) := by
  have hb := jc_tape hI
  have lL : (4 : Int32).toInt = 4 := by decide
  have ed : (σ.1 46 7 - σ.1 46 6).toInt = (σ.1 46 7).toInt - (σ.1 46 6).toInt := by rw [isub_toInt] <;> omega
  unfold fX3_isWord_K7
  rw [q_bd (r_len7 σ)]
  by_cases h : σ.1 46 7 - σ.1 46 6 = 4
  · rw [if_pos h]
    have hd : (σ.1 46 7).toInt - (σ.1 46 6).toInt = 4 := by rw [← ed, h]; exact lL
    have key : Ok (lpc (S := Int32) K9 (fun rec s => bX3_isWord_K7_20 σ (fun a2 => rec (a2)) s) (0)) (fun out => (out = 1 ∧ WD (σ.1 1) (σ.1 46 6).toInt (σ.1 46 7).toInt (bytC 7) 4) ∨ (out = 0 ∧ ¬ WD (σ.1 1) (σ.1 46 6).toInt (σ.1 46 7).toInt (bytC 7) 4)) := by
      refine ok_lpc (I := fun (n : Nat) (s : Int32) => n = (4 - s.toInt).toNat ∧ 0 ≤ s.toInt ∧ s.toInt ≤ 4 ∧ ∀ i : Nat, (i : Int) < s.toInt → σ.1 1 ((σ.1 46 6).toInt.toNat + i) = bytC 7 i) (fun rec n s hs hrec => ?_) K9 4 0 ⟨by decide, by decide, by decide, fun i h2 => absurd h2 (by have := z0; omega)⟩ (by unfold K9; decide)
      obtain ⟨hn, j0, j1, j2⟩ := hs
      unfold bX3_isWord_K7_20
      rw [q_bd (r_len7 σ)]
      refine ok_ite.mpr ⟨fun g => ok_some.mpr (.inl ⟨rfl, hd, fun i hi => j2 i ?_⟩), fun g => ?_⟩
      · have := Int32.le_iff_toInt_le.mp g
        omega
      have hlt := q_gt g
      rw [lL] at hlt
      have es : (σ.1 46 6 + s).toInt = (σ.1 46 6).toInt + s.toInt := by rw [iadd_toInt] <;> omega
      have en : (σ.1 46 6 + s).toInt.toNat = (σ.1 46 6).toInt.toNat + s.toInt.toNat := by omega
      refine ok_gd.mpr ⟨gb_of (by omega) (by omega), ok_nm.mpr ?_⟩
      rw [q_bd (r_chr7 σ j0 hlt), n_toInt, en]
      refine ok_ite.mpr ⟨fun g2 => ok_nm.mpr ?_, fun g2 => ok_some.mpr (.inr ⟨rfl, fun z => g2 (z.2 s.toInt.toNat (by omega))⟩)⟩
      have e1 := i_inc (a := s) (c := 4) (by omega) j1 (by decide)
      refine hrec (4 - (s + 1).toInt).toNat (s + 1) (by omega) ⟨rfl, by omega, by omega, fun i hi => ?_⟩
      by_cases e : (i : Int) = s.toInt
      · have : i = s.toInt.toNat := by omega
        rw [this]; exact g2
      · exact j2 i (by omega)
    obtain ⟨x, ex, hx⟩ := key
    rcases hx with ⟨rfl, hw⟩ | ⟨rfl, hw⟩
    · exact .inl ⟨ex, hw⟩
    · exact .inr ⟨ex, hw⟩
  · rw [if_neg h]
    exact .inr ⟨rfl, fun z => h (q_of 4 (by rw [ed, lL]; exact z.1))⟩
theorem r_len8 (σ : gS) : fJ0_length_8abf5_K8 σ = some 3 := rfl
theorem r_chr8 (σ : gS) {p : Int32} (h0 : 0 ≤ p.toInt) (h1 : p.toInt < 3) : fJ0_charAt_5068e_K8 σ p = some (bytC 8 p.toInt.toNat) := by
  have hj : p.toInt = 0 ∨ p.toInt = 1 ∨ p.toInt = 2 := by omega
  rcases hj with hj | hj | hj
  · obtain rfl := q_of 0 (hj.trans (by decide)); rfl
  · obtain rfl := q_of 1 (hj.trans (by decide)); rfl
  · obtain rfl := q_of 2 (hj.trans (by decide)); rfl
theorem r_word8 {σ : gS} (hI : JC σ) : (fX3_isWord_K8 σ = some 1 ∧ WD (σ.1 1) (σ.1 46 6).toInt (σ.1 46 7).toInt (bytC 8) 3) ∨ (fX3_isWord_K8 σ = some 0 ∧ ¬ WD (σ.1 1) (σ.1 46 6).toInt (σ.1 46 7).toInt (bytC 8) 3) := by
  have hb := jc_tape hI
  have lL : (3 : Int32).toInt = 3 := by decide
  have ed : (σ.1 46 7 - σ.1 46 6).toInt = (σ.1 46 7).toInt - (σ.1 46 6).toInt := by rw [isub_toInt] <;> omega
  unfold fX3_isWord_K8
  rw [q_bd (r_len8 σ)]
  by_cases h : σ.1 46 7 - σ.1 46 6 = 3
  · rw [if_pos h]
    have hd : (σ.1 46 7).toInt - (σ.1 46 6).toInt = 3 := by rw [← ed, h]; exact lL
    have key : Ok (lpc (S := Int32) K9 (fun rec s => bX3_isWord_K8_20 σ (fun a2 => rec (a2)) s) (0)) (fun out => (out = 1 ∧ WD (σ.1 1) (σ.1 46 6).toInt (σ.1 46 7).toInt (bytC 8) 3) ∨ (out = 0 ∧ ¬ WD (σ.1 1) (σ.1 46 6).toInt (σ.1 46 7).toInt (bytC 8) 3)) := by
      refine ok_lpc (I := fun (n : Nat) (s : Int32) => n = (3 - s.toInt).toNat ∧ 0 ≤ s.toInt ∧ s.toInt ≤ 3 ∧ ∀ i : Nat, (i : Int) < s.toInt → σ.1 1 ((σ.1 46 6).toInt.toNat + i) = bytC 8 i) (fun rec n s hs hrec => ?_) K9 3 0 ⟨by decide, by decide, by decide, fun i h2 => absurd h2 (by have := z0; omega)⟩ (by unfold K9; decide)
      obtain ⟨hn, j0, j1, j2⟩ := hs
      unfold bX3_isWord_K8_20
      rw [q_bd (r_len8 σ)]
      refine ok_ite.mpr ⟨fun g => ok_some.mpr (.inl ⟨rfl, hd, fun i hi => j2 i ?_⟩), fun g => ?_⟩
      · have := Int32.le_iff_toInt_le.mp g
        omega
      have hlt := q_gt g
      rw [lL] at hlt
      have es : (σ.1 46 6 + s).toInt = (σ.1 46 6).toInt + s.toInt := by rw [iadd_toInt] <;> omega
      have en : (σ.1 46 6 + s).toInt.toNat = (σ.1 46 6).toInt.toNat + s.toInt.toNat := by omega
      refine ok_gd.mpr ⟨gb_of (by omega) (by omega), ok_nm.mpr ?_⟩
      rw [q_bd (r_chr8 σ j0 hlt), n_toInt, en]
      refine ok_ite.mpr ⟨fun g2 => ok_nm.mpr ?_, fun g2 => ok_some.mpr (.inr ⟨rfl, fun z => g2 (z.2 s.toInt.toNat (by omega))⟩)⟩
      have e1 := i_inc (a := s) (c := 3) (by omega) j1 (by decide)
      refine hrec (3 - (s + 1).toInt).toNat (s + 1) (by omega) ⟨rfl, by omega, by omega, fun i hi => ?_⟩
      by_cases e : (i : Int) = s.toInt
      · have : i = s.toInt.toNat := by omega
        rw [this]; exact g2
      · exact j2 i (by omega)
    obtain ⟨x, ex, hx⟩ := key
    rcases hx with ⟨rfl, hw⟩ | ⟨rfl, hw⟩
    · exact .inl ⟨ex, hw⟩
    · exact .inr ⟨ex, hw⟩
  · rw [if_neg h]
    exact .inr ⟨rfl, fun z => h (q_of 3 (by rw [ed, lL]; exact z.1))⟩
theorem r_len9 (σ : gS) : fJ0_length_8abf5_K9 σ = some 2 := rfl
theorem r_chr9 (σ : gS) {p : Int32} (h0 : 0 ≤ p.toInt) (h1 : p.toInt < 2) : fJ0_charAt_5068e_K9 σ p = some (bytC 9 p.toInt.toNat) := by
  have hj : p.toInt = 0 ∨ p.toInt = 1 := by omega
  rcases hj with hj | hj
  · obtain rfl := q_of 0 (hj.trans (by decide)); rfl
  · obtain rfl := q_of 1 (hj.trans (by decide)); rfl
theorem r_word9 {σ : gS} (hI : JC σ) : (fX3_isWord_K9 σ = some 1 ∧ WD (σ.1 1) (σ.1 46 6).toInt (σ.1 46 7).toInt (bytC 9) 2) ∨ (fX3_isWord_K9 σ = some 0 ∧ ¬ WD (σ.1 1) (σ.1 46 6).toInt (σ.1 46 7).toInt (bytC 9) 2) := by
  have hb := jc_tape hI
  have lL : (2 : Int32).toInt = 2 := by decide
  have ed : (σ.1 46 7 - σ.1 46 6).toInt = (σ.1 46 7).toInt - (σ.1 46 6).toInt := by rw [isub_toInt] <;> omega
  unfold fX3_isWord_K9
  rw [q_bd (r_len9 σ)]
  by_cases h : σ.1 46 7 - σ.1 46 6 = 2
  · rw [if_pos h]
    have hd : (σ.1 46 7).toInt - (σ.1 46 6).toInt = 2 := by rw [← ed, h]; exact lL
    have key : Ok (lpc (S := Int32) K9 (fun rec s => bX3_isWord_K9_20 σ (fun a2 => rec (a2)) s) (0)) (fun out => (out = 1 ∧ WD (σ.1 1) (σ.1 46 6).toInt (σ.1 46 7).toInt (bytC 9) 2) ∨ (out = 0 ∧ ¬ WD (σ.1 1) (σ.1 46 6).toInt (σ.1 46 7).toInt (bytC 9) 2)) := by
      refine ok_lpc (I := fun (n : Nat) (s : Int32) => n = (2 - s.toInt).toNat ∧ 0 ≤ s.toInt ∧ s.toInt ≤ 2 ∧ ∀ i : Nat, (i : Int) < s.toInt → σ.1 1 ((σ.1 46 6).toInt.toNat + i) = bytC 9 i) (fun rec n s hs hrec => ?_) K9 2 0 ⟨by decide, by decide, by decide, fun i h2 => absurd h2 (by have := z0; omega)⟩ (by unfold K9; decide)
      obtain ⟨hn, j0, j1, j2⟩ := hs
      unfold bX3_isWord_K9_20
      rw [q_bd (r_len9 σ)]
      refine ok_ite.mpr ⟨fun g => ok_some.mpr (.inl ⟨rfl, hd, fun i hi => j2 i ?_⟩), fun g => ?_⟩
      · have := Int32.le_iff_toInt_le.mp g
        omega
      have hlt := q_gt g
      rw [lL] at hlt
      have es : (σ.1 46 6 + s).toInt = (σ.1 46 6).toInt + s.toInt := by rw [iadd_toInt] <;> omega
      have en : (σ.1 46 6 + s).toInt.toNat = (σ.1 46 6).toInt.toNat + s.toInt.toNat := by omega
      refine ok_gd.mpr ⟨gb_of (by omega) (by omega), ok_nm.mpr ?_⟩
      rw [q_bd (r_chr9 σ j0 hlt), n_toInt, en]
      refine ok_ite.mpr ⟨fun g2 => ok_nm.mpr ?_, fun g2 => ok_some.mpr (.inr ⟨rfl, fun z => g2 (z.2 s.toInt.toNat (by omega))⟩)⟩
      have e1 := i_inc (a := s) (c := 2) (by omega) j1 (by decide)
      refine hrec (2 - (s + 1).toInt).toNat (s + 1) (by omega) ⟨rfl, by omega, by omega, fun i hi => ?_⟩
      by_cases e : (i : Int) = s.toInt
      · have : i = s.toInt.toNat := by omega
        rw [this]; exact g2
      · exact j2 i (by omega)
    obtain ⟨x, ex, hx⟩ := key
    rcases hx with ⟨rfl, hw⟩ | ⟨rfl, hw⟩
    · exact .inl ⟨ex, hw⟩
    · exact .inr ⟨ex, hw⟩
  · rw [if_neg h]
    exact .inr ⟨rfl, fun z => h (q_of 2 (by rw [ed, lL]; exact z.1))⟩
theorem r_len10 (σ : gS) : fJ0_length_8abf5_K10 σ = some 6 := rfl
theorem r_chr10 (σ : gS) {p : Int32} (h0 : 0 ≤ p.toInt) (h1 : p.toInt < 6) : fJ0_charAt_5068e_K10 σ p = some (bytC 10 p.toInt.toNat) := by
  have hj : p.toInt = 0 ∨ p.toInt = 1 ∨ p.toInt = 2 ∨ p.toInt = 3 ∨ p.toInt = 4 ∨ p.toInt = 5 := by omega
  rcases hj with hj | hj | hj | hj | hj | hj
  · obtain rfl := q_of 0 (hj.trans (by decide)); rfl
  · obtain rfl := q_of 1 (hj.trans (by decide)); rfl
  · obtain rfl := q_of 2 (hj.trans (by decide)); rfl
  · obtain rfl := q_of 3 (hj.trans (by decide)); rfl
  · obtain rfl := q_of 4 (hj.trans (by decide)); rfl
  · obtain rfl := q_of 5 (hj.trans (by decide)); rfl
theorem r_word10 {σ : gS} (hI : JC σ) : (fX3_isWord_K10 σ = some 1 ∧ WD (σ.1 1) (σ.1 46 6).toInt (σ.1 46 7).toInt (bytC 10) 6) ∨ (fX3_isWord_K10 σ = some 0 ∧ ¬ WD (σ.1 1) (σ.1 46 6).toInt (σ.1 46 7).toInt (bytC 10) 6) := by
  have hb := jc_tape hI
  have lL : (6 : Int32).toInt = 6 := by decide
  have ed : (σ.1 46 7 - σ.1 46 6).toInt = (σ.1 46 7).toInt - (σ.1 46 6).toInt := by rw [isub_toInt] <;> omega
  unfold fX3_isWord_K10
  rw [q_bd (r_len10 σ)]
  by_cases h : σ.1 46 7 - σ.1 46 6 = 6
  · rw [if_pos h]
    have hd : (σ.1 46 7).toInt - (σ.1 46 6).toInt = 6 := by rw [← ed, h]; exact lL
    have key : Ok (lpc (S := Int32) K9 (fun rec s => bX3_isWord_K10_20 σ (fun a2 => rec (a2)) s) (0)) (fun out => (out = 1 ∧ WD (σ.1 1) (σ.1 46 6).toInt (σ.1 46 7).toInt (bytC 10) 6) ∨ (out = 0 ∧ ¬ WD (σ.1 1) (σ.1 46 6).toInt (σ.1 46 7).toInt (bytC 10) 6)) := by
      refine ok_lpc (I := fun (n : Nat) (s : Int32) => n = (6 - s.toInt).toNat ∧ 0 ≤ s.toInt ∧ s.toInt ≤ 6 ∧ ∀ i : Nat, (i : Int) < s.toInt → σ.1 1 ((σ.1 46 6).toInt.toNat + i) = bytC 10 i) (fun rec n s hs hrec => ?_) K9 6 0 ⟨by decide, by decide, by decide, fun i h2 => absurd h2 (by have := z0; omega)⟩ (by unfold K9; decide)
      obtain ⟨hn, j0, j1, j2⟩ := hs
      unfold bX3_isWord_K10_20
      rw [q_bd (r_len10 σ)]
      refine ok_ite.mpr ⟨fun g => ok_some.mpr (.inl ⟨rfl, hd, fun i hi => j2 i ?_⟩), fun g => ?_⟩
      · have := Int32.le_iff_toInt_le.mp g
        omega
      have hlt := q_gt g
      rw [lL] at hlt
      have es : (σ.1 46 6 + s).toInt = (σ.1 46 6).toInt + s.toInt := by rw [iadd_toInt] <;> omega
      have en : (σ.1 46 6 + s).toInt.toNat = (σ.1 46 6).toInt.toNat + s.toInt.toNat := by omega
      refine ok_gd.mpr ⟨gb_of (by omega) (by omega), ok_nm.mpr ?_⟩
      rw [q_bd (r_chr10 σ j0 hlt), n_toInt, en]
      refine ok_ite.mpr ⟨fun g2 => ok_nm.mpr ?_, fun g2 => ok_some.mpr (.inr ⟨rfl, fun z => g2 (z.2 s.toInt.toNat (by omega))⟩)⟩
      have e1 := i_inc (a := s) (c := 6) (by omega) j1 (by decide)
      refine hrec (6 - (s + 1).toInt).toNat (s + 1) (by omega) ⟨rfl, by omega, by omega, fun i hi => ?_⟩
      by_cases e : (i : Int) = s.toInt
      · have : i = s.toInt.toNat := by omega
        rw [this]; exact g2
      · exact j2 i (by omega)
    obtain ⟨x, ex, hx⟩ := key
    rcases hx with ⟨rfl, hw⟩ | ⟨rfl, hw⟩
    · exact .inl ⟨ex, hw⟩
    · exact .inr ⟨ex, hw⟩
  · rw [if_neg h]
    exact .inr ⟨rfl, fun z => h (q_of 6 (by rw [ed, lL]; exact z.1))⟩
theorem r_len11 (σ : gS) : fJ0_length_8abf5_K11 σ = some 3 := rfl
theorem r_chr11 (σ : gS) {p : Int32} (h0 : 0 ≤ p.toInt) (h1 : p.toInt < 3) : fJ0_charAt_5068e_K11 σ p = some (bytC 11 p.toInt.toNat) := by
  have hj : p.toInt = 0 ∨ p.toInt = 1 ∨ p.toInt = 2 := by omega
  rcases hj with hj | hj | hj
  · obtain rfl := q_of 0 (hj.trans (by decide)); rfl
  · obtain rfl := q_of 1 (hj.trans (by decide)); rfl
  · obtain rfl := q_of 2 (hj.trans (by decide)); rfl
theorem r_word11 {σ : gS} (hI : JC σ) : (fX3_isWord_K11 σ = some 1 ∧ WD (σ.1 1) (σ.1 46 6).toInt (σ.1 46 7).toInt (bytC 11) 3) ∨ (fX3_isWord_K11 σ = some 0 ∧ ¬ WD (σ.1 1) (σ.1 46 6).toInt (σ.1 46 7).toInt (bytC 11) 3) := by
  have hb := jc_tape hI
  have lL : (3 : Int32).toInt = 3 := by decide
  have ed : (σ.1 46 7 - σ.1 46 6).toInt = (σ.1 46 7).toInt - (σ.1 46 6).toInt := by rw [isub_toInt] <;> omega
  unfold fX3_isWord_K11
  rw [q_bd (r_len11 σ)]
  by_cases h : σ.1 46 7 - σ.1 46 6 = 3
  · rw [if_pos h]
    have hd : (σ.1 46 7).toInt - (σ.1 46 6).toInt = 3 := by rw [← ed, h]; exact lL
    have key : Ok (lpc (S := Int32) K9 (fun rec s => bX3_isWord_K11_20 σ (fun a2 => rec (a2)) s) (0)) (fun out => (out = 1 ∧ WD (σ.1 1) (σ.1 46 6).toInt (σ.1 46 7).toInt (bytC 11) 3) ∨ (out = 0 ∧ ¬ WD (σ.1 1) (σ.1 46 6).toInt (σ.1 46 7).toInt (bytC 11) 3)) := by
      refine ok_lpc (I := fun (n : Nat) (s : Int32) => n = (3 - s.toInt).toNat ∧ 0 ≤ s.toInt ∧ s.toInt ≤ 3 ∧ ∀ i : Nat, (i : Int) < s.toInt → σ.1 1 ((σ.1 46 6).toInt.toNat + i) = bytC 11 i) (fun rec n s hs hrec => ?_) K9 3 0 ⟨by decide, by decide, by decide, fun i h2 => absurd h2 (by have := z0; omega)⟩ (by unfold K9; decide)
      obtain ⟨hn, j0, j1, j2⟩ := hs
      unfold bX3_isWord_K11_20
      rw [q_bd (r_len11 σ)]
      refine ok_ite.mpr ⟨fun g => ok_some.mpr (.inl ⟨rfl, hd, fun i hi => j2 i ?_⟩), fun g => ?_⟩
      · have := Int32.le_iff_toInt_le.mp g
        omega
      have hlt := q_gt g
      rw [lL] at hlt
      have es : (σ.1 46 6 + s).toInt = (σ.1 46 6).toInt + s.toInt := by rw [iadd_toInt] <;> omega
      have en : (σ.1 46 6 + s).toInt.toNat = (σ.1 46 6).toInt.toNat + s.toInt.toNat := by omega
      refine ok_gd.mpr ⟨gb_of (by omega) (by omega), ok_nm.mpr ?_⟩
      rw [q_bd (r_chr11 σ j0 hlt), n_toInt, en]
      refine ok_ite.mpr ⟨fun g2 => ok_nm.mpr ?_, fun g2 => ok_some.mpr (.inr ⟨rfl, fun z => g2 (z.2 s.toInt.toNat (by omega))⟩)⟩
      have e1 := i_inc (a := s) (c := 3) (by omega) j1 (by decide)
      refine hrec (3 - (s + 1).toInt).toNat (s + 1) (by omega) ⟨rfl, by omega, by omega, fun i hi => ?_⟩
      by_cases e : (i : Int) = s.toInt
      · have : i = s.toInt.toNat := by omega
        rw [this]; exact g2
      · exact j2 i (by omega)
    obtain ⟨x, ex, hx⟩ := key
    rcases hx with ⟨rfl, hw⟩ | ⟨rfl, hw⟩
    · exact .inl ⟨ex, hw⟩
    · exact .inr ⟨ex, hw⟩
  · rw [if_neg h]
    exact .inr ⟨rfl, fun z => h (q_of 3 (by rw [ed, lL]; exact z.1))⟩
/-- there is no run -/
theorem r_noRun (σ : gS) : (fX3_isNoRun σ = some 1 ∧ (σ.1 46 6 = σ.1 46 7 ∨ σ.1 46 6 = σ.1 46 8)) ∨ (fX3_isNoRun σ = some 0 ∧ σ.1 46 6 ≠ σ.1 46 7 ∧ σ.1 46 6 ≠ σ.1 46 8) := by
  unfold fX3_isNoRun
  by_cases h : σ.1 46 6 = σ.1 46 7
  · exact .inl ⟨if_pos h, .inl h⟩
  · by_cases g : σ.1 46 6 = σ.1 46 8
    · exact .inl ⟨(if_neg h).trans (if_pos g), .inr g⟩
    · exact .inr ⟨(if_neg h).trans (if_neg g), h, g⟩
end PA
