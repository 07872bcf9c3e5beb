/-! THE TWO READERS, 2: the reference's words and numbers -/
section PB
theorem jm_tape {σ : gS} (h : JM σ) : (0 ≤ (σ.1 0 3).toInt ∧ (σ.1 0 3).toInt ≤ 1600) ∧ (0 ≤ (σ.1 0 2).toInt ∧ (σ.1 0 2).toInt ≤ 1600) ∧ ∀ i, 0 ≤ (σ.1 1 i).toInt ∧ (σ.1 1 i).toInt ≤ 255 := ⟨h 0 3, h 0 2, h 1⟩
theorem r_isLetter (σ : gS) (x : Int32) : (fX10_isLetter σ x = some 1 ∧ RG 97 122 x) ∨ (fX10_isLetter σ x = some 0 ∧ ¬ RG 97 122 x) := by
  unfold fX10_isLetter
  by_cases h : x < 97
  · exact .inr ⟨if_pos h, fun z => z.1 h⟩
  · by_cases g : 122 < x
    · exact .inr ⟨(if_neg h).trans (if_pos g), fun z => z.2 g⟩
    · exact .inl ⟨(if_neg h).trans (if_neg g), h, g⟩
theorem r_isDigit (σ : gS) (x : Int32) : (fX10_isDigit σ x = some 1 ∧ RG 48 57 x) ∨ (fX10_isDigit σ x = some 0 ∧ ¬ RG 48 57 x) := by
  unfold fX10_isDigit
  by_cases h : x < 48
  · exact .inr ⟨if_pos h, fun z => z.1 h⟩
  · by_cases g : 57 < x
    · exact .inr ⟨(if_neg h).trans (if_pos g), fun z => z.2 g⟩
    · exact .inl ⟨(if_neg h).trans (if_neg g), h, g⟩
noncomputable def LKP (σ : gS) (out : Int32 × gS) : Prop := JM out.2 ∧ Fr fr_fX10_look σ out.2 ∧ Wh BL (σ.1 1) (σ.1 0 3).toInt (σ.1 0 2).toInt (out.2.1 0 2).toInt ∧ (((out.2.1 0 2).toInt < (σ.1 0 3).toInt ∧ out.1 = σ.1 1 (out.2.1 0 2).toInt.toNat) ∨ ((σ.1 0 3).toInt ≤ (out.2.1 0 2).toInt ∧ out.1 = -1))
theorem r_look {σ : gS} (hI : JM σ) : Ok (fX10_look σ) (LKP σ) := by
  have hb := jm_tape hI
  unfold fX10_look
  refine ok_lpc (I := fun (n : Nat) (s : gS) => n = (1600 - (s.1 0 2).toInt).toNat ∧ JM s ∧ Fr fr_fX10_look σ s ∧ (σ.1 0 2).toInt ≤ (s.1 0 2).toInt ∧ (∀ i : Int, (σ.1 0 2).toInt ≤ i → i < (s.1 0 2).toInt → BL (σ.1 1 i.toNat)) ∧ ((s.1 0 2).toInt ≤ (σ.1 0 3).toInt ∨ (s.1 0 2).toInt = (σ.1 0 2).toInt)) (fun rec n s hs hrec => ?_) K9 (1600 - (σ.1 0 2).toInt).toNat σ ⟨rfl, hI, Fr_r, Int.le_refl _, fun i h1 h2 => absurd h2 (by omega), .inr rfl⟩ (by unfold K9; omega)
  obtain ⟨hn, jI, jF, j1, j2, j3⟩ := hs
  have t1 : s.1 1 = σ.1 1 := Fr_row jF 1 (by decide)
  have t4 : s.1 0 3 = σ.1 0 3 := (jF 0 3 (by decide) (by decide)).1
  have jb := jm_tape jI
  have fin : ((s.1 0 2).toInt < (σ.1 0 3).toInt → ¬ BL (σ.1 1 (s.1 0 2).toInt.toNat)) → Ok (jX10_look_52 s) (LKP σ) := by
    intro z
    unfold jX10_look_52
    refine ok_ite.mpr ⟨fun h => ok_some.mpr ⟨jI, jF, ⟨j1, j2, z, j3⟩, .inr ⟨?_, rfl⟩⟩, fun h => ?_⟩
    · have := Int32.le_iff_toInt_le.mp h
      rw [t4] at this
      exact this
    · have hlt := q_gt h
      rw [t4] at hlt
      refine ok_gd.mpr ⟨gb_of (by omega) (by omega), ok_nm.mpr (ok_some.mpr ⟨jI, jF, ⟨j1, j2, z, j3⟩, .inl ⟨hlt, ?_⟩⟩)⟩
      rw [t1, n_toInt]
  unfold bX10_look_0
  refine ok_ite.mpr ⟨fun h => fin (fun z => ?_), fun h => ?_⟩
  · have := Int32.le_iff_toInt_le.mp h
    rw [t4] at this
    omega
  have hlt := q_gt h
  rw [t4] at hlt
  have go : BL (σ.1 1 (s.1 0 2).toInt.toNat) → Ok (jX10_look_39 s (fun σ1 => rec σ1)) (LKP σ) := by
    intro hz
    unfold jX10_look_39
    have e := i_inc (a := s.1 0 2) (c := 1600) (by omega) jb.2.1.2 (by decide)
    refine ok_nm.mpr (hrec (1600 - (s.1 0 2 + 1).toInt).toNat _ (by omega) ⟨rfl, JM_w jI (show 0 ≤ _ by omega) (show _ ≤ 1600 by omega), Fr_w jF (by decide), show _ ≤ (s.1 0 2 + 1).toInt by omega, ?_, .inl (show (s.1 0 2 + 1).toInt ≤ _ by omega)⟩)
    show ∀ i : Int, (σ.1 0 2).toInt ≤ i → i < (s.1 0 2 + 1).toInt → BL (σ.1 1 i.toNat)
    rw [e]
    exact all_ext j2 hz
  refine ok_gd.mpr ⟨gb_of (by omega) (by omega), ok_nm.mpr ?_⟩
  rw [t1, n_toInt]
  refine ok_ite.mpr ⟨fun h1 => go (.inl h1), fun h1 => ok_gd.mpr ⟨gb_of (by omega) (by omega), ok_nm.mpr (ok_ite.mpr ⟨fun h2 => go (.inr h2), fun h2 => fin (fun _ z => z.elim h1 h2)⟩)⟩⟩
/-- a word W of L letters is here, and not side by side with the word or number ahead -/
noncomputable def HW (T : Nat → Int32) (n le a : Int) (W : Nat → Int32) (L : Nat) : Prop := ∃ e, Wh (RG 97 122) T n a e ∧ a ≠ e ∧ a ≠ le ∧ WD T a e W L
theorem Wh_self {P : Int32 → Prop} {T : Nat → Int32} {n a : Int} (h : a < n → ¬ P (T a.toNat)) : Wh P T n a a := ⟨Int.le_refl _, fun i h1 h2 => absurd h1 (by omega), h, .inr rfl⟩
noncomputable def ISP (σ : gS) (p L : Nat) (out : Int32 × gS) : Prop := JM out.2 ∧ Fr fr_fX10_isHere σ out.2 ∧ (∃ r', fX10_look σ = some (r', out.2)) ∧ Wh BL (σ.1 1) (σ.1 0 3).toInt (σ.1 0 2).toInt (out.2.1 0 2).toInt ∧ ((out.1 = 1 ∧ HW (σ.1 1) (σ.1 0 3).toInt (σ.1 0 4).toInt (out.2.1 0 2).toInt (σ.1 p) L) ∨ (out.1 = 0 ∧ ¬ HW (σ.1 1) (σ.1 0 3).toInt (σ.1 0 4).toInt (out.2.1 0 2).toInt (σ.1 p) L))
theorem r_isHere {σ : gS} (hI : JM σ) {p L : Nat} (hp : p ≠ 0) (hg : gis zM.1 0 1 p = true) (hz : gsz zM.1 0 1 p = L) (hL : L ≤ 7) (hb : σ.1 0 5 = 0) : Ok (fX10_isHere σ p) (ISP σ p L) := by
  unfold fX10_isHere
  obtain ⟨⟨r, τ⟩, eL, ho⟩ := r_look hI
  refine ok_ite.mpr ⟨fun _ => ok_bd2.mpr ⟨(r, τ), eL, ?_⟩, fun z => absurd hb z⟩
  obtain ⟨kI, kF, kW, kr⟩ := ho
  dsimp only at kI kF kW kr ⊢
  have t1 : τ.1 1 = σ.1 1 := Fr_row kF 1 (by decide)
  have tp : τ.1 p = σ.1 p := Fr_row kF p (by intro q hq; simp [fr_fX10_look] at hq; rw [hq]; exact fun z => hp z.symm)
  have t3 : τ.1 0 3 = σ.1 0 3 := (kF 0 3 (by decide) (by decide)).1
  have t4 : τ.1 0 4 = σ.1 0 4 := (kF 0 4 (by decide) (by decide)).1
  have kF' : Fr fr_fX10_isHere σ τ := Fr_c Fr_r kF (by decide)
  have jb := jm_tape kI
  rw [t3] at jb
  have nW : ∀ q : Prop, (¬ HW (σ.1 1) (σ.1 0 3).toInt (σ.1 0 4).toInt (τ.1 0 2).toInt (σ.1 p) L) → Ok (some ((0 : Int32), τ)) (ISP σ p L) := fun _ z => ok_some.mpr ⟨kI, kF', ⟨_, eL⟩, kW, .inr ⟨rfl, z⟩⟩
  rcases r_isLetter τ r with ⟨h, hr⟩ | ⟨h, hr⟩
  · rw [q_bd h]
    refine ok_ite.mpr ⟨fun z => absurd z (by decide), fun _ => ok_ite.mpr ⟨fun z => nW True (fun ⟨e, _, _, h3, _⟩ => h3 (by rw [← t4, z])), fun z => ok_nm.mpr ?_⟩⟩
    have hle : (τ.1 0 2).toInt ≠ (σ.1 0 4).toInt := fun y => z (Int32.toInt_inj.mp (by rw [t4]; exact y))
    rcases kr with ⟨kr1, kr2⟩ | ⟨kr1, kr2⟩
    · rw [kr2] at hr
      have fin : ∀ a2 : Int32, Wh (RG 97 122) (σ.1 1) (σ.1 0 3).toInt (τ.1 0 2).toInt a2.toInt → (τ.1 0 2).toInt ≠ a2.toInt → a2.toInt ≤ 1600 → Ok (jX10_isHere_61 τ p a2) (ISP σ p L) := by
        intro a2 hW hne h16
        have h0 := hW.1
        unfold jX10_isHere_61
        rw [hz]
        have lL : (Int32.ofNat L).toInt = L := iofNat_toInt (by omega)
        have ed : (a2 - τ.1 0 2).toInt = a2.toInt - (τ.1 0 2).toInt := by rw [isub_toInt] <;> omega
        refine ok_gd.mpr ⟨hg, ok_ite.mpr ⟨fun y => ok_nm.mpr ?_, fun y => nW True (fun ⟨e, g1, _, _, g4⟩ => y (q_of _ (by rw [ed, lL, ← g4.1, Wh_uniq g1 hW])))⟩⟩
        have hd : a2.toInt - (τ.1 0 2).toInt = L := by rw [← ed, y]; exact lL
        refine ok_lpc (I := fun (n : Nat) (s : Int32) => n = ((L : Int) - s.toInt).toNat ∧ 0 ≤ s.toInt ∧ s.toInt ≤ L ∧ ∀ i : Nat, (i : Int) < s.toInt → σ.1 1 ((τ.1 0 2).toInt.toNat + i) = σ.1 p i) (fun rec n s hs hrec => ?_) K9 L 0 ⟨by have := z0; omega, by decide, by have := z0; omega, fun i h2 => absurd h2 (by have := z0; omega)⟩ (by unfold K9; omega)
        obtain ⟨hn, j0, j1, j2⟩ := hs
        unfold bX10_isHere_76
        rw [hz]
        refine ok_gd.mpr ⟨hg, ok_ite.mpr ⟨fun g => ok_some.mpr ⟨kI, kF', ⟨_, eL⟩, kW, .inl ⟨rfl, a2.toInt, hW, hne, hle, hd, fun i hi => j2 i ?_⟩⟩, fun g => ?_⟩⟩
        · have := Int32.le_iff_toInt_le.mp g
          omega
        have hlt := q_gt g
        rw [lL] at hlt
        have es : (τ.1 0 2 + s).toInt = (τ.1 0 2).toInt + s.toInt := by rw [iadd_toInt] <;> omega
        have en : (τ.1 0 2 + s).toInt.toNat = (τ.1 0 2).toInt.toNat + s.toInt.toNat := by omega
        refine ok_gd.mpr ⟨gb_of (by omega) (by omega), ok_nm.mpr (ok_gd.mpr ⟨gb_of (by omega) (by omega), ok_nm.mpr ?_⟩)⟩
        rw [t1, tp, n_toInt, n_toInt, en]
        refine ok_ite.mpr ⟨fun g2 => ok_nm.mpr ?_, fun g2 => nW True (fun ⟨e, w1, _, _, w4⟩ => g2 (w4.2 s.toInt.toNat (by omega)))⟩
        have e1 := i_inc (a := s) (c := 7) (by omega) (by omega) (by decide)
        refine hrec ((L : Int) - (s + 1).toInt).toNat (s + 1) (by omega) ⟨rfl, by omega, by omega, fun i hi => ?_⟩
        by_cases e : (i : Int) = s.toInt
        · have : i = s.toInt.toNat := by omega
          rw [this]; exact g2
        · exact j2 i (by omega)
      refine ok_lpc (I := fun (n : Nat) (s : Int32) => n = ((σ.1 0 3).toInt - s.toInt).toNat ∧ (τ.1 0 2).toInt ≤ s.toInt ∧ s.toInt ≤ (σ.1 0 3).toInt ∧ (∀ i : Int, (τ.1 0 2).toInt ≤ i → i < s.toInt → RG 97 122 (σ.1 1 i.toNat))) (fun rec n s hs hrec => ?_) K9 ((σ.1 0 3).toInt - (τ.1 0 2).toInt).toNat (τ.1 0 2) ⟨rfl, Int.le_refl _, by omega, fun i h1 h2 => absurd h2 (by omega)⟩ (by unfold K9; omega)
      obtain ⟨hn, j0, j1, j2⟩ := hs
      have ne : ∀ z : s.toInt < (σ.1 0 3).toInt → ¬ RG 97 122 (σ.1 1 s.toInt.toNat), (τ.1 0 2).toInt ≠ s.toInt := fun z y => z (by omega) (by rw [← y]; exact hr)
      unfold bX10_isHere_35
      rw [t3]
      refine ok_ite.mpr ⟨fun g => ?_, fun g => ?_⟩
      · have g' := Int32.le_iff_toInt_le.mp g
        exact fin s ⟨j0, j2, fun y => absurd y (by omega), .inl j1⟩ (by omega) (by omega)
      have hlt := q_gt g
      refine ok_gd.mpr ⟨gb_of (by omega) (by omega), ok_nm.mpr ?_⟩
      rw [t1, n_toInt]
      rcases r_isLetter τ (σ.1 1 s.toInt.toNat) with ⟨h5, hr5⟩ | ⟨h5, hr5⟩
      · rw [q_bd h5]
        refine ok_ite.mpr ⟨fun y => absurd y (by decide), fun _ => ok_nm.mpr ?_⟩
        have e1 := i_inc (a := s) (c := 1600) (by omega) (by omega) (by decide)
        refine hrec ((σ.1 0 3).toInt - (s + 1).toInt).toNat (s + 1) (by omega) ⟨rfl, by omega, by omega, ?_⟩
        rw [e1]
        exact all_ext j2 hr5
      · rw [q_bd h5]
        refine ok_ite.mpr ⟨fun _ => fin s ⟨j0, j2, fun _ => hr5, .inl j1⟩ (ne (fun _ => hr5)) (by omega), fun y => absurd rfl y⟩
    · exact absurd hr.1 (by rw [kr2]; decide)
  · rw [q_bd h]
    refine ok_ite.mpr ⟨fun _ => nW True (fun ⟨e, w1, w2, _, _⟩ => ?_), fun z => absurd rfl z⟩
    refine w2 (Wh_uniq (Wh_self (fun z => ?_)) w1)
    rcases kr with ⟨kr1, kr2⟩ | ⟨kr1, kr2⟩
    · rw [← kr2]; exact hr
    · omega
noncomputable def TKP (σ : gS) (p L : Nat) (out : Int32 × gS) : Prop := JM out.2 ∧ Fr fr_fX10_takes σ out.2 ∧ ∃ a, Wh BL (σ.1 1) (σ.1 0 3).toInt (σ.1 0 2).toInt a ∧ ((out.1 = 1 ∧ HW (σ.1 1) (σ.1 0 3).toInt (σ.1 0 4).toInt a (σ.1 p) L ∧ (out.2.1 0 2).toInt = a + L ∧ out.2.1 0 4 = out.2.1 0 2) ∨ (out.1 = 0 ∧ ¬ HW (σ.1 1) (σ.1 0 3).toInt (σ.1 0 4).toInt a (σ.1 p) L ∧ (out.2.1 0 2).toInt = a ∧ out.2.1 0 4 = σ.1 0 4))
theorem r_takes {σ : gS} (hI : JM σ) {p L : Nat} (hp : p ≠ 0) (hg : gis zM.1 0 1 p = true) (hz : gsz zM.1 0 1 p = L) (hL : L ≤ 7) (hb : σ.1 0 5 = 0) : Ok (fX10_takes σ p) (TKP σ p L) := by
  unfold fX10_takes
  refine ok_bd2.mpr ((r_isHere hI hp hg hz hL hb).mono (fun o ho => ?_))
  obtain ⟨r, τ⟩ := o
  obtain ⟨kI, kF, -, kW, kr⟩ := ho
  dsimp only at kI kF kW kr ⊢
  have jb := jm_tape kI
  have hb3 := (jm_tape hI).1
  have t4 : τ.1 0 4 = σ.1 0 4 := (kF 0 4 (by decide) (by decide)).1
  have kF' : Fr fr_fX10_takes σ τ := Fr_c Fr_r kF (by decide)
  rcases kr with ⟨rfl, hw⟩ | ⟨rfl, hw⟩
  · refine ok_ite.mpr ⟨fun z => absurd z (by decide), fun _ => ok_gd.mpr ⟨hg, ok_nm.mpr (ok_nm.mpr (ok_some.mpr ?_))⟩⟩
    rw [hz]
    have lL : (Int32.ofNat L).toInt = L := iofNat_toInt (by omega)
    have hw' := hw
    obtain ⟨e, w1, w2, w3, w4⟩ := hw
    have he := w1.2.2.2
    have hd := w4.1
    have ea : (τ.1 0 2 + Int32.ofNat L).toInt = (τ.1 0 2).toInt + L := by rw [iadd_toInt] <;> omega
    have hx : JM (gsI τ 0 2 (τ.1 0 2 + Int32.ofNat L)) := JM_w kI (show 0 ≤ _ by omega) (show _ ≤ 1600 by omega)
    exact ⟨JM_w hx (Int32.le_toInt _) (Int32.toInt_le _), Fr_w (Fr_w kF' (by decide)) (by decide), _, kW, .inl ⟨rfl, hw', ea, rfl⟩⟩
  · exact ok_ite.mpr ⟨fun _ => ok_some.mpr ⟨kI, kF', _, kW, .inr ⟨rfl, hw, rfl, t4⟩⟩, fun z => absurd rfl z⟩
/-- the number that k digits from a on tell -/
noncomputable def nuF (T : Nat → Int32) (a : Nat) : Nat → Int32
  | 0 => 0
  | k + 1 => 10 * nuF T a k + T (a + k) - 48
noncomputable def fM (σ : gS) (k p : Int32) : gS := gsI (gsI σ 0 5 k) 0 6 p
theorem r_fail {σ : gS} (k p : Int32) (h : σ.1 0 5 = 0) : fX10_fail σ k p = some (fM σ k p) := if_pos h
/-- a failure told: of kind k at a -/
noncomputable def FA (f p k : Int32) (a : Int) : Prop := f = k ∧ p.toInt = a
end PB
