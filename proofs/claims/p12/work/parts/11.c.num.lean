/-! THE TWO READERS, 3: numbers and words told, on both sides -/
section PC
theorem Wh_ex (P : Int32 → Prop) (T : Nat → Int32) (n : Int) : ∀ (d : Nat) (a : Int), d = (n - a).toNat → ∃ e, Wh P T n a e := by
  intro d
  induction d with
  | zero => exact fun a h => ⟨a, Int.le_refl _, fun i h1 h2 => absurd h1 (by omega), fun z => absurd z (by omega), .inr rfl⟩
  | succ d ih =>
    intro a h
    by_cases hp : P (T a.toNat)
    · obtain ⟨e, h1, h2, h3, h4⟩ := ih (a + 1) (by omega)
      refine ⟨e, by omega, fun i g1 g2 => ?_, h3, .inl (by omega)⟩
      by_cases e1 : i = a
      · rw [e1]; exact hp
      · exact h2 i (by omega) g2
    · exact ⟨a, Int.le_refl _, fun i h1 h2 => absurd h1 (by omega), fun _ => hp, .inr rfl⟩
theorem Wh_far {P : Int32 → Prop} {T : Nat → Int32} {n a e b : Int} (h : Wh P T n a e) (h1 : ∀ i : Int, a ≤ i → i < b → P (T i.toNat)) (h2 : b ≤ n) : b ≤ e := by
  obtain ⟨g1, g2, g3, g4⟩ := h
  by_cases c : b ≤ e
  · exact c
  · exact absurd (h1 e g1 (by omega)) (g3 (by omega))
/-- what comes of a number that is asked: the fault (0 without) and its place, or where it ends, and the number -/
noncomputable def NO (T : Nat → Int32) (n le a0 : Int) (lo hi f : Int32) (p e : Int) (v : Int32) : Prop := ∃ a x, Wh BL T n a0 a ∧ Wh (RG 48 57) T n a x ∧ (((a = x ∨ a = le) ∧ f = 1 ∧ p = a) ∨ (a ≠ x ∧ a ≠ le ∧ 4 < x - a ∧ f = 1 ∧ p = a + 4) ∨ (a ≠ x ∧ a ≠ le ∧ x - a ≤ 4 ∧ (v < lo ∨ ¬ v ≤ hi) ∧ f = 2 ∧ p = a ∧ v = nuF T a.toNat (x - a).toNat) ∨ (a ≠ x ∧ a ≠ le ∧ x - a ≤ 4 ∧ ¬ v < lo ∧ v ≤ hi ∧ f = 0 ∧ e = x ∧ v = nuF T a.toNat (x - a).toNat))
theorem NO_uniq {T : Nat → Int32} {n le a0 b0 b : Int} {lo hi f g : Int32} {p q e d : Int} {v w : Int32} (hb : Wh BL T n a0 b) (hc : Wh BL T n b0 b) (h : NO T n le a0 lo hi f p e v) (k : NO T n le b0 lo hi g q d w) : f = g ∧ (f = 0 → e = d ∧ v = w) ∧ (f ≠ 0 → p = q) := by
  obtain ⟨a, x, w1, w2, h⟩ := h
  obtain ⟨a', x', w1', w2', k⟩ := k
  obtain rfl : a = a' := (Wh_uniq w1 hb).trans (Wh_uniq hc w1')
  obtain rfl := Wh_uniq w2 w2'
  rcases h with ⟨h1, rfl, rfl⟩ | ⟨h1, h2, h3, rfl, rfl⟩ | ⟨h1, h2, h3, h4, rfl, rfl, rfl⟩ | ⟨h1, h2, h3, h4, h5, rfl, rfl, rfl⟩ <;> rcases k with ⟨k1, rfl, rfl⟩ | ⟨k1, k2, k3, rfl, rfl⟩ | ⟨k1, k2, k3, k4, rfl, rfl, rfl⟩ | ⟨k1, k2, k3, k4, k5, rfl, rfl, rfl⟩ <;> first | exact ⟨rfl, fun z => absurd z (by decide), fun _ => rfl⟩ | exact ⟨rfl, fun _ => ⟨rfl, rfl⟩, fun z => absurd rfl z⟩ | (exfalso; omega) | exact absurd k5 (h4.elim (fun z => absurd z k4) id) | exact absurd h5 (k4.elim (fun z => absurd z h4) id)
/-- what comes of a word W of L letters that is asked -/
noncomputable def WO (T : Nat → Int32) (n le a0 : Int) (W : Nat → Int32) (L : Nat) (f : Int32) (p e : Int) : Prop := ∃ a, Wh BL T n a0 a ∧ ((HW T n le a W L ∧ f = 0 ∧ e = a + L) ∨ (¬ HW T n le a W L ∧ f = 1 ∧ p = a))
theorem HW_congr {T : Nat → Int32} {n le a : Int} {W V : Nat → Int32} {L : Nat} (h : ∀ i, i < L → W i = V i) (k : HW T n le a W L) : HW T n le a V L := by
  obtain ⟨e, h1, h2, h3, h4, h5⟩ := k
  exact ⟨e, h1, h2, h3, h4, fun i hi => (h5 i hi).trans (h i hi)⟩
theorem WO_uniq {T : Nat → Int32} {n le a0 b0 b : Int} {W V : Nat → Int32} {L : Nat} {f g : Int32} {p q e d : Int} (hb : Wh BL T n a0 b) (hc : Wh BL T n b0 b) (hW : ∀ i, i < L → W i = V i) (h : WO T n le a0 W L f p e) (k : WO T n le b0 V L g q d) : f = g ∧ (f = 0 → e = d) ∧ (f ≠ 0 → p = q) := by
  obtain ⟨a, w1, h⟩ := h
  obtain ⟨a', w1', k⟩ := k
  obtain rfl : a = a' := (Wh_uniq w1 hb).trans (Wh_uniq hc w1')
  rcases h with ⟨h1, rfl, rfl⟩ | ⟨h1, rfl, rfl⟩ <;> rcases k with ⟨k1, rfl, rfl⟩ | ⟨k1, rfl, rfl⟩
  · exact ⟨rfl, fun _ => rfl, fun z => absurd rfl z⟩
  · exact absurd (HW_congr hW h1) k1
  · exact absurd (HW_congr (fun i hi => (hW i hi).symm) k1) h1
  · exact ⟨rfl, fun z => absurd z (by decide), fun _ => rfl⟩
/-- how the class's reader tells it -/
noncomputable def CO (σ τ : gS) (r f : Int32) (p e : Int) : Prop := (r = 1 ∧ f = 0 ∧ (τ.1 46 5).toInt = e ∧ τ.1 46 8 = τ.1 46 5 ∧ τ.1 46 2 = σ.1 46 2 ∧ τ.1 46 3 = σ.1 46 3) ∨ (r = 0 ∧ f ≠ 0 ∧ τ.1 46 2 = f ∧ (τ.1 46 3).toInt = p)
/-- how the reference tells it -/
noncomputable def MO (σ τ : gS) (f : Int32) (p e : Int) : Prop := (f = 0 ∧ τ.1 0 5 = 0 ∧ (τ.1 0 2).toInt = e ∧ τ.1 0 4 = τ.1 0 2 ∧ τ.1 0 6 = σ.1 0 6) ∨ (f ≠ 0 ∧ τ.1 0 5 = f ∧ (τ.1 0 6).toInt = p)
noncomputable def fC (σ : gS) (k p : Int32) : gS := gsI (gsI σ 46 2 k) 46 3 p
theorem r_failC (σ : gS) (k p : Int32) : fX3_fail σ k p = some (0, fC σ k p) := rfl
theorem JC_f {σ : gS} {k p : Int32} (h : JC σ) : JC (fC σ k p) := JC_w (JC_w h (Int32.le_toInt _) (Int32.toInt_le _)) (Int32.le_toInt _) (Int32.toInt_le _)
theorem JM_f {σ : gS} {k p : Int32} (h : JM σ) : JM (fM σ k p) := JM_w (JM_w h (Int32.le_toInt _) (Int32.toInt_le _)) (Int32.le_toInt _) (Int32.toInt_le _)
theorem nb0 : vp_nar .boolean 0 = 0 := by decide
noncomputable def RNP (lo hi : Int32) (σ : gS) (out : Int32 × gS) : Prop := JC out.2 ∧ Fr fr_fX3_readNumber σ out.2 ∧ ∃ f p e, NO (σ.1 1) (σ.1 46 4).toInt (σ.1 46 8).toInt (σ.1 46 5).toInt lo hi f p e (out.2.1 46 11) ∧ CO σ out.2 out.1 f p e
theorem r_readNumber {σ : gS} (hI : JC σ) (lo hi : Int32) : Ok (fX3_readNumber σ lo hi) (RNP lo hi σ) := by
  unfold fX3_readNumber
  refine ok_bd.mpr ((r_mark hI 48 57).mono (fun ρ hρ => ?_))
  obtain ⟨kI, kF, kB, k6, kW⟩ := hρ
  have kb := jc_tape kI
  have u1 : ρ.1 1 = σ.1 1 := Fr_row kF 1 (by decide)
  have u2 : ρ.1 46 2 = σ.1 46 2 := (kF 46 2 (by decide) (by decide)).1
  have u3 : ρ.1 46 3 = σ.1 46 3 := (kF 46 3 (by decide) (by decide)).1
  have u4 : ρ.1 46 4 = σ.1 46 4 := (kF 46 4 (by decide) (by decide)).1
  have u8 : ρ.1 46 8 = σ.1 46 8 := (kF 46 8 (by decide) (by decide)).1
  have kF' : Fr fr_fX3_readNumber σ ρ := Fr_c Fr_r kF (by decide)
  have bd1 : ∀ (f q : Int32) (p : Int) (τ : gS), JC τ → Fr fr_fX3_readNumber σ τ → f ≠ 0 → q.toInt = p → NO (σ.1 1) (σ.1 46 4).toInt (σ.1 46 8).toInt (σ.1 46 5).toInt lo hi f p 0 (τ.1 46 11) → Ok (bd2 (fX3_fail τ f q) fun r s => some (vp_nar .boolean r, s)) (RNP lo hi σ) := by
    intro f q p τ tI tF hf hq hN
    rw [r_failC]
    refine ok_some.mpr ⟨JC_f tI, Fr_w (Fr_w tF (by decide)) (by decide), f, p, 0, hN, .inr ⟨nb0, hf, rfl, hq⟩⟩
  rcases r_noRun ρ with ⟨h, hr⟩ | ⟨h, hr1, hr2⟩
  · rw [q_bd h]
    refine ok_ite.mpr ⟨fun z => absurd z (by decide), fun _ => bd1 1 _ _ ρ kI kF' (by decide) rfl ⟨_, _, kB, kW, .inl ⟨?_, rfl, by rw [k6]⟩⟩⟩
    rcases hr with hr | hr
    · exact .inl (by rw [← hr, k6])
    · exact .inr (by rw [← u8, ← hr, k6])
  · rw [q_bd h]
    have n1 : (ρ.1 46 5).toInt ≠ (ρ.1 46 7).toInt := fun z => hr1 (Int32.toInt_inj.mp (by rw [k6]; exact z))
    have n2 : (ρ.1 46 5).toInt ≠ (σ.1 46 8).toInt := fun z => hr2 (Int32.toInt_inj.mp (by rw [k6, u8]; exact z))
    have ed : (ρ.1 46 7 - ρ.1 46 6).toInt = (ρ.1 46 7).toInt - (ρ.1 46 5).toInt := by rw [k6, isub_toInt] <;> omega
    have l4 : (4 : Int32).toInt = 4 := by decide
    refine ok_ite.mpr ⟨fun _ => ok_ite.mpr ⟨fun g => ok_nm.mpr (ok_nm.mpr ?_), fun g => ?_⟩, fun z => absurd rfl z⟩
    · have g' := Int32.le_iff_toInt_le.mp g
      rw [ed, l4] at g'
      obtain ⟨ω, hω⟩ : ∃ ω, ω = gsI ρ 46 11 0 := ⟨_, rfl⟩
      rw [← hω]
      have oI : JC ω := by rw [hω]; exact JC_w kI (Int32.le_toInt _) (Int32.toInt_le _)
      have oF : Fr fr_fX3_readNumber σ ω := by rw [hω]; exact Fr_w kF' (by decide)
      have o : ∀ i, i ≠ 11 → ω.1 46 i = ρ.1 46 i := fun i hi => by rw [hω, gsI_1, if_neg (fun z => hi z.2)]
      have o11 : ω.1 46 11 = 0 := by rw [hω]; rfl
      clear hω
      rw [o 6 (by decide)]
      have a0 := kW.1
      refine ok_lpc (I := fun (n : Nat) (s : Int32 × gS) => n = ((ρ.1 46 7).toInt - s.1.toInt).toNat ∧ (ρ.1 46 5).toInt ≤ s.1.toInt ∧ s.1.toInt ≤ (ρ.1 46 7).toInt ∧ JC s.2 ∧ Fr [(46, 12)] ω s.2 ∧ s.2.1 46 11 = nuF (σ.1 1) (ρ.1 46 5).toInt.toNat (s.1.toInt - (ρ.1 46 5).toInt).toNat) (fun rec n s hs hrec => ?_) K9 ((ρ.1 46 7).toInt - (ρ.1 46 6).toInt).toNat (ρ.1 46 6, ω) ⟨rfl, by rw [k6]; exact Int.le_refl _, by rw [k6]; exact a0, oI, Fr_r, ?_⟩ (by unfold K9; omega)
      · obtain ⟨a3, s⟩ := s
        obtain ⟨hn, j0, j1, jI, jF, jv⟩ := hs
        dsimp only at hn j0 j1 jI jF jv ⊢
        have t1 : s.1 1 = σ.1 1 := (Fr_row jF 1 (by decide)).trans (Fr_row oF 1 (by decide))
        have t : ∀ i, i ≠ 11 → s.1 46 i = ρ.1 46 i := fun i hi => ((jF 46 i (by decide) (by simp; exact hi)).1).trans (o i hi)
        have tF : Fr fr_fX3_readNumber σ s := Fr_c oF jF (by decide)
        unfold bX3_readNumber_60
        rw [t 7 (by decide)]
        refine ok_ite.mpr ⟨fun y => ?_, fun y => ?_⟩
        · have y' := Int32.le_iff_toInt_le.mp y
          obtain rfl : a3 = ρ.1 46 7 := Int32.toInt_inj.mp (by omega)
          unfold fX3_passRun
          obtain ⟨κ, hκ⟩ : ∃ κ, κ = gsI (gsI s 46 5 (s.1 46 7)) 46 8 ((gsI s 46 5 (s.1 46 7)).1 46 7) := ⟨_, rfl⟩
          refine ok_bd.mpr (ok_nm.mpr (ok_nm.mpr (ok_some.mpr ?_)))
          rw [← hκ]
          have c5 : κ.1 46 5 = ρ.1 46 7 := by rw [hκ]; exact t 7 (by decide)
          have c8 : κ.1 46 8 = ρ.1 46 7 := by rw [hκ]; exact t 7 (by decide)
          have c6 : κ.1 46 6 = ρ.1 46 5 := by rw [hκ]; exact (t 6 (by decide)).trans k6
          have c11 : κ.1 46 11 = nuF (σ.1 1) (ρ.1 46 5).toInt.toNat ((ρ.1 46 7).toInt - (ρ.1 46 5).toInt).toNat := by rw [hκ]; exact jv
          have c2 : κ.1 46 2 = σ.1 46 2 := by rw [hκ]; exact (t 2 (by decide)).trans u2
          have c3 : κ.1 46 3 = σ.1 46 3 := by rw [hκ]; exact (t 3 (by decide)).trans u3
          have b7 := (jc_tape jI).2.2.2
          have cI : JC κ := by rw [hκ]; exact JC_w (JC_w jI (show 0 ≤ _ from b7.1) (show _ ≤ 1600 from b7.2)) (Int32.le_toInt _) (Int32.toInt_le _)
          have cF : Fr fr_fX3_readNumber σ κ := by rw [hκ]; exact Fr_w (Fr_w tF (by decide)) (by decide)
          refine ok_ite.mpr ⟨fun x1 => bd1 2 _ _ κ cI cF (by decide) rfl ⟨_, _, kB, kW, .inr (.inr (.inl ⟨n1, n2, g', .inl x1, rfl, by rw [c6], c11⟩))⟩, fun x1 => ok_ite.mpr ⟨fun x2 => ok_some.mpr ⟨cI, cF, 0, 0, _, ⟨_, _, kB, kW, .inr (.inr (.inr ⟨n1, n2, g', x1, x2, rfl, rfl, c11⟩))⟩, .inl ⟨rfl, rfl, by rw [c5], by rw [c8, c5], c2, c3⟩⟩, fun x2 => bd1 2 _ _ κ cI cF (by decide) rfl ⟨_, _, kB, kW, .inr (.inr (.inl ⟨n1, n2, g', .inr x2, rfl, by rw [c6], c11⟩))⟩⟩⟩
        · have hlt := q_gt y
          have b7 := kb.2.2.2
          refine ok_gd.mpr ⟨gb_of (by omega) (by omega), ok_nm.mpr (ok_nm.mpr (ok_nm.mpr ?_))⟩
          have e1 := i_inc (a := a3) (c := 1600) (by omega) (by omega) (by decide)
          refine hrec ((ρ.1 46 7).toInt - (a3 + 1).toInt).toNat (a3 + 1, _) (by omega) ⟨rfl, show _ ≤ (a3 + 1).toInt by omega, show (a3 + 1).toInt ≤ _ by omega, JC_w jI (Int32.le_toInt _) (Int32.toInt_le _), Fr_w jF (by decide), ?_⟩
          show 10 * s.1 46 11 + s.1 1 a3.toNatClampNeg - 48 = nuF (σ.1 1) (ρ.1 46 5).toInt.toNat ((a3 + 1).toInt - (ρ.1 46 5).toInt).toNat
          have en : ((a3 + 1).toInt - (ρ.1 46 5).toInt).toNat = (a3.toInt - (ρ.1 46 5).toInt).toNat + 1 := by omega
          have em : a3.toInt.toNat = (ρ.1 46 5).toInt.toNat + (a3.toInt - (ρ.1 46 5).toInt).toNat := by omega
          rw [en, jv, t1, n_toInt, em]
          rfl
      · show ω.1 46 11 = nuF (σ.1 1) (ρ.1 46 5).toInt.toNat ((ρ.1 46 6).toInt - (ρ.1 46 5).toInt).toNat
        rw [o11, k6, Int.sub_self]
        rfl
    · have g' := q_gt g
      rw [ed, l4] at g'
      have e6 : (ρ.1 46 6 + 4).toInt = (ρ.1 46 5).toInt + 4 := by rw [k6, iadd_toInt] <;> omega
      exact bd1 1 _ _ ρ kI kF' (by decide) e6 ⟨_, _, kB, kW, .inr (.inl ⟨n1, n2, g', rfl, rfl⟩)⟩
noncomputable def NUP (lo hi : Int32) (σ : gS) (out : Int32 × gS) : Prop := JM out.2 ∧ Fr fr_fX10_number σ out.2 ∧ ∃ f p e, NO (σ.1 1) (σ.1 0 3).toInt (σ.1 0 4).toInt (σ.1 0 2).toInt lo hi f p e out.1 ∧ MO σ out.2 f p e
theorem r_number {σ : gS} (hI : JM σ) (lo hi : Int32) (hb : σ.1 0 5 = 0) : Ok (fX10_number σ lo hi) (NUP lo hi σ) := by
  unfold fX10_number
  refine ok_ite.mpr ⟨fun _ => ok_bd2.mpr ((r_look hI).mono (fun o ho => ?_)), fun z => absurd hb z⟩
  obtain ⟨r, τ⟩ := o
  obtain ⟨kI, kF, kW, kr⟩ := ho
  dsimp only at kI kF kW kr ⊢
  have t1 : τ.1 1 = σ.1 1 := Fr_row kF 1 (by decide)
  have u : ∀ i, i ≠ 2 → τ.1 0 i = σ.1 0 i := fun i hi => (kF 0 i (by decide) (by simp [fr_fX10_look]; exact hi)).1
  have kF' : Fr fr_fX10_number σ τ := Fr_c Fr_r kF (by decide)
  have jb := jm_tape kI
  rw [u 3 (by decide)] at jb
  obtain ⟨x, hx⟩ := Wh_ex (RG 48 57) (σ.1 1) (σ.1 0 3).toInt _ (τ.1 0 2).toInt rfl
  have bad : ∀ (a : Int32) (f q : Int32) (p : Int) (s : gS), JM s → Fr fr_fX10_number σ s → s.1 0 5 = 0 → f ≠ 0 → q.toInt = p → NO (σ.1 1) (σ.1 0 3).toInt (σ.1 0 4).toInt (σ.1 0 2).toInt lo hi f p 0 a → Ok (bd (fX10_fail s f q) fun s => some (a, s)) (NUP lo hi σ) := by
    intro a f q p s sI sF sb hf hq hN
    rw [r_fail f q sb]
    exact ok_some.mpr ⟨JM_f sI, Fr_w (Fr_w sF (by decide)) (by decide), f, p, 0, hN, .inr ⟨hf, rfl, hq⟩⟩
  have b30 : ((τ.1 0 2).toInt = x ∨ (τ.1 0 2).toInt = (σ.1 0 4).toInt) → Ok (jX10_number_30 τ) (NUP lo hi σ) := fun z => bad 0 1 _ _ τ kI kF' (by rw [u 5 (by decide)]; exact hb) (by decide) rfl ⟨_, _, kW, hx, .inl ⟨z, rfl, rfl⟩⟩
  rcases r_isDigit τ r with ⟨h, hr⟩ | ⟨h, hr⟩
  · rw [q_bd h]
    refine ok_ite.mpr ⟨fun z => absurd z (by decide), fun _ => ok_ite.mpr ⟨fun z => b30 (.inr (by rw [z, u 4 (by decide)])), fun z => ok_nm.mpr (ok_nm.mpr ?_)⟩⟩
    have n2 : (τ.1 0 2).toInt ≠ (σ.1 0 4).toInt := fun y => z (Int32.toInt_inj.mp (by rw [u 4 (by decide)]; exact y))
    rcases kr with ⟨kr1, kr2⟩ | ⟨kr1, kr2⟩
    · rw [kr2] at hr
      have n1 : (τ.1 0 2).toInt ≠ x := fun y => hx.2.2.1 (by omega) (by rw [← y]; exact hr)
      have x0 := hx.1
      refine ok_lpc (I := fun (n : Nat) (s : Int32 × gS) => n = (1600 - (s.2.1 0 2).toInt).toNat ∧ (τ.1 0 2).toInt ≤ (s.2.1 0 2).toInt ∧ (s.2.1 0 2).toInt ≤ (τ.1 0 2).toInt + 4 ∧ (s.2.1 0 2).toInt ≤ (σ.1 0 3).toInt ∧ (∀ i : Int, (τ.1 0 2).toInt ≤ i → i < (s.2.1 0 2).toInt → RG 48 57 (σ.1 1 i.toNat)) ∧ JM s.2 ∧ Fr [(0, 3)] τ s.2 ∧ s.1 = nuF (σ.1 1) (τ.1 0 2).toInt.toNat ((s.2.1 0 2).toInt - (τ.1 0 2).toInt).toNat) (fun rec n s hs hrec => ?_) K9 (1600 - (τ.1 0 2).toInt).toNat (0, τ) ⟨rfl, Int.le_refl _, show (τ.1 0 2).toInt ≤ (τ.1 0 2).toInt + 4 by omega, show (τ.1 0 2).toInt ≤ _ by omega, fun i h1 h2 => absurd h2 (by dsimp only; omega), kI, Fr_r, ?_⟩ (by unfold K9; omega)
      · obtain ⟨a4, s⟩ := s
        obtain ⟨hn, j0, j1, j2, j3, jI, jF, jv⟩ := hs
        dsimp only at hn j0 j1 j2 j3 jI jF jv ⊢
        have s1 : s.1 1 = σ.1 1 := (Fr_row jF 1 (by decide)).trans t1
        have su : ∀ i, i ≠ 2 → s.1 0 i = σ.1 0 i := fun i hi => ((jF 0 i (by decide) (by simp; exact hi)).1).trans (u i hi)
        have sF : Fr fr_fX10_number σ s := Fr_c kF' jF (by decide)
        have ed : (s.1 0 2 - τ.1 0 2).toInt = (s.1 0 2).toInt - (τ.1 0 2).toInt := by rw [isub_toInt] <;> omega
        have l4 : (4 : Int32).toInt = 4 := by decide
        have fin : ((s.1 0 2).toInt < (σ.1 0 3).toInt → ¬ RG 48 57 (σ.1 1 (s.1 0 2).toInt.toNat)) → Ok (jX10_number_129 s lo hi (τ.1 0 2) a4) (NUP lo hi σ) := by
          intro y
          have hX : Wh (RG 48 57) (σ.1 1) (σ.1 0 3).toInt (τ.1 0 2).toInt (s.1 0 2).toInt := ⟨j0, j3, y, .inl j2⟩
          have ex := Wh_uniq hX hx
          unfold jX10_number_129
          refine ok_nm.mpr ?_
          obtain ⟨κ, hκ⟩ : ∃ κ, κ = gsI s 0 4 (s.1 0 2) := ⟨_, rfl⟩
          rw [← hκ]
          have cI : JM κ := by rw [hκ]; exact JM_w jI (Int32.le_toInt _) (Int32.toInt_le _)
          have cF : Fr fr_fX10_number σ κ := by rw [hκ]; exact Fr_w sF (by decide)
          have c5 : κ.1 0 5 = 0 := by rw [hκ]; exact (su 5 (by decide)).trans hb
          have c4 : κ.1 0 4 = κ.1 0 2 := by rw [hκ]; rfl
          have c2 : κ.1 0 2 = s.1 0 2 := by rw [hκ]; rfl
          have c6 : κ.1 0 6 = σ.1 0 6 := by rw [hκ]; exact su 6 (by decide)
          have q1 : a4.toInt64.toInt = a4.toInt := Int32.toInt_toInt64 _
          have q2 : lo.toInt64.toInt = lo.toInt := Int32.toInt_toInt64 _
          have q3 : hi.toInt64.toInt = hi.toInt := Int32.toInt_toInt64 _
          have jv' : a4 = nuF (σ.1 1) (τ.1 0 2).toInt.toNat (x - (τ.1 0 2).toInt).toNat := by rw [← ex]; exact jv
          rcases m_isIn κ a4.toInt64 lo.toInt64 hi.toInt64 with ⟨g, g1, g2⟩ | ⟨g, g1⟩
          · rw [q_bd g]
            refine ok_ite.mpr ⟨fun y => absurd y (by decide), fun _ => ok_some.mpr ⟨cI, cF, 0, 0, x, ⟨_, _, kW, hx, .inr (.inr (.inr ⟨n1, n2, by omega, fun y => ?_, q_le (show a4.toInt ≤ hi.toInt by omega), rfl, rfl, jv'⟩))⟩, .inl ⟨rfl, c5, by rw [c2]; exact ex, c4, c6⟩⟩⟩
            have : a4.toInt < lo.toInt := Int32.lt_iff_toInt_lt.mp y
            omega
          · rw [q_bd g]
            refine ok_ite.mpr ⟨fun _ => bad a4 2 _ _ κ cI cF c5 (by decide) rfl ⟨_, _, kW, hx, .inr (.inr (.inl ⟨n1, n2, by omega, ?_, rfl, rfl, jv'⟩))⟩, fun y => absurd rfl y⟩
            rcases g1 with g1 | g1
            · exact .inl (Int32.lt_iff_toInt_lt.mpr (by omega))
            · exact .inr (q_nle (by omega))
        unfold bX10_number_49
        rw [su 3 (by decide)]
        refine ok_ite.mpr ⟨fun g => fin (fun y => ?_), fun g => ?_⟩
        · have := Int32.le_iff_toInt_le.mp g
          omega
        have hlt := q_gt g
        refine ok_gd.mpr ⟨gb_of (by omega) (by omega), ok_nm.mpr ?_⟩
        rw [s1, n_toInt]
        rcases r_isDigit s (σ.1 1 (s.1 0 2).toInt.toNat) with ⟨h5, hr5⟩ | ⟨h5, hr5⟩
        · rw [q_bd h5]
          have j3' := all_ext j3 hr5
          refine ok_ite.mpr ⟨fun y => absurd y (by decide), fun _ => ok_ite.mpr ⟨fun y => ?_, fun y => ?_⟩⟩
          · have hd : (s.1 0 2).toInt - (τ.1 0 2).toInt = 4 := by rw [← ed, y]; exact l4
            have far := Wh_far hx j3' (by omega)
            exact bad 0 1 _ _ s jI sF ((su 5 (by decide)).trans hb) (by decide) (show (s.1 0 2).toInt = (τ.1 0 2).toInt + 4 by omega) ⟨_, _, kW, hx, .inr (.inl ⟨n1, n2, by omega, rfl, rfl⟩)⟩
          · have hd : (s.1 0 2).toInt - (τ.1 0 2).toInt ≠ 4 := fun w => y (q_of 4 (by rw [ed, l4]; exact w))
            have e1 := i_inc (a := s.1 0 2) (c := 1600) (by omega) (by omega) (by decide)
            refine ok_gd.mpr ⟨gb_of (by omega) (by omega), ok_nm.mpr (ok_nm.mpr (ok_nm.mpr ?_))⟩
            refine hrec (1600 - (s.1 0 2 + 1).toInt).toNat (_, gsI s 0 2 (s.1 0 2 + 1)) (by omega) ⟨rfl, show _ ≤ (s.1 0 2 + 1).toInt by omega, show (s.1 0 2 + 1).toInt ≤ _ by omega, show (s.1 0 2 + 1).toInt ≤ _ by omega, ?_, JM_w jI (show 0 ≤ _ by omega) (show _ ≤ 1600 by omega), Fr_w jF (by decide), ?_⟩
            · show ∀ i : Int, (τ.1 0 2).toInt ≤ i → i < (s.1 0 2 + 1).toInt → RG 48 57 (σ.1 1 i.toNat)
              rw [e1]
              exact j3'
            · show 10 * a4 + _ - 48 = nuF (σ.1 1) (τ.1 0 2).toInt.toNat ((s.1 0 2 + 1).toInt - (τ.1 0 2).toInt).toNat
              have en : ((s.1 0 2 + 1).toInt - (τ.1 0 2).toInt).toNat = ((s.1 0 2).toInt - (τ.1 0 2).toInt).toNat + 1 := by omega
              have em : (s.1 0 2).toInt.toNat = (τ.1 0 2).toInt.toNat + ((s.1 0 2).toInt - (τ.1 0 2).toInt).toNat := by omega
              rw [en, jv, em]
              rfl
        · rw [q_bd h5]
          exact ok_ite.mpr ⟨fun _ => fin (fun _ => hr5), fun y => absurd rfl y⟩
      · show 0 = nuF (σ.1 1) (τ.1 0 2).toInt.toNat ((τ.1 0 2).toInt - (τ.1 0 2).toInt).toNat
        rw [Int.sub_self]
        rfl
    · exact absurd hr.1 (by rw [kr2]; decide)
  · rw [q_bd h]
    refine ok_ite.mpr ⟨fun _ => b30 (.inl ?_), fun z => absurd rfl z⟩
    refine Wh_uniq (Wh_self (fun z => ?_)) hx
    rcases kr with ⟨kr1, kr2⟩ | ⟨kr1, kr2⟩
    · rw [← kr2]; exact hr
    · omega
noncomputable def ASP (σ : gS) (p L : Nat) (out : gS) : Prop := JM out ∧ Fr fr_fX10_asks σ out ∧ ∃ f q e, WO (σ.1 1) (σ.1 0 3).toInt (σ.1 0 4).toInt (σ.1 0 2).toInt (σ.1 p) L f q e ∧ MO σ out f q e
theorem r_asks {σ : gS} (hI : JM σ) {p L : Nat} (hp : p ≠ 0) (hg : gis zM.1 0 1 p = true) (hz : gsz zM.1 0 1 p = L) (hL : L ≤ 7) (hb : σ.1 0 5 = 0) : Ok (fX10_asks σ p) (ASP σ p L) := by
  unfold fX10_asks
  refine ok_ite.mpr ⟨fun _ => ok_bd2.mpr ((r_takes hI hp hg hz hL hb).mono (fun o ho => ?_)), fun z => absurd hb z⟩
  obtain ⟨r, τ⟩ := o
  obtain ⟨kI, kF, a, kW, kr⟩ := ho
  dsimp only at kI kF kW kr ⊢
  have u5 : τ.1 0 5 = σ.1 0 5 := (kF 0 5 (by decide) (by decide)).1
  have u6 : τ.1 0 6 = σ.1 0 6 := (kF 0 6 (by decide) (by decide)).1
  have kF' : Fr fr_fX10_asks σ τ := Fr_c Fr_r kF (by decide)
  rcases kr with ⟨rfl, k1, k2, k3⟩ | ⟨rfl, k1, k2, k3⟩
  · exact ok_ite.mpr ⟨fun z => absurd z (by decide), fun _ => ok_some.mpr ⟨kI, kF', 0, 0, a + L, ⟨a, kW, .inl ⟨k1, rfl, rfl⟩⟩, .inl ⟨rfl, u5.trans hb, k2, k3, u6⟩⟩⟩
  · refine ok_ite.mpr ⟨fun _ => ?_, fun z => absurd rfl z⟩
    rw [r_fail 1 _ (u5.trans hb)]
    exact ok_some.mpr ⟨JM_f kI, Fr_w (Fr_w kF' (by decide)) (by decide), 1, a, 0, ⟨a, kW, .inr ⟨k1, rfl, rfl⟩⟩, .inr ⟨by decide, rfl, k2⟩⟩
theorem r_readWord6 {σ : gS} (hI : JC σ) : Ok (fX3_readWord_K6 σ) (fun out => JC out.2 ∧ Fr fr_fX3_readWord_K6 σ out.2 ∧ ∃ f q e, WO (σ.1 1) (σ.1 46 4).toInt (σ.1 46 8).toInt (σ.1 46 5).toInt (bytC 6) 2 f q e ∧ CO σ out.2 out.1 f q e) := by
  unfold fX3_readWord_K6
  refine ok_bd.mpr ((r_mark hI 97 122).mono (fun ρ hρ => ?_))
  obtain ⟨kI, kF, kB, k6, kW⟩ := hρ
  have kb := jc_tape kI
  have u1 : ρ.1 1 = σ.1 1 := Fr_row kF 1 (by decide)
  have u2 : ρ.1 46 2 = σ.1 46 2 := (kF 46 2 (by decide) (by decide)).1
  have u3 : ρ.1 46 3 = σ.1 46 3 := (kF 46 3 (by decide) (by decide)).1
  have u8 : ρ.1 46 8 = σ.1 46 8 := (kF 46 8 (by decide) (by decide)).1
  have kF' : Fr fr_fX3_readWord_K6 σ ρ := Fr_c Fr_r kF (by decide)
  have bad : ¬ HW (σ.1 1) (σ.1 46 4).toInt (σ.1 46 8).toInt (ρ.1 46 5).toInt (bytC 6) 2 → Ok (bd2 (fX3_fail ρ 1 (ρ.1 46 6)) fun r s => some (vp_nar .boolean r, s)) (fun out => JC out.2 ∧ Fr fr_fX3_readWord_K6 σ out.2 ∧ ∃ f q e, WO (σ.1 1) (σ.1 46 4).toInt (σ.1 46 8).toInt (σ.1 46 5).toInt (bytC 6) 2 f q e ∧ CO σ out.2 out.1 f q e) := by
    intro hw
    rw [r_failC]
    exact ok_some.mpr ⟨JC_f kI, Fr_w (Fr_w kF' (by decide)) (by decide), 1, (ρ.1 46 5).toInt, 0, ⟨_, kB, .inr ⟨hw, rfl, rfl⟩⟩, .inr ⟨nb0, by decide, rfl, show (ρ.1 46 6).toInt = _ by rw [k6]⟩⟩
  rcases r_noRun ρ with ⟨h, hr⟩ | ⟨h, hr1, hr2⟩
  · rw [q_bd h]
    refine ok_ite.mpr ⟨fun z => absurd z (by decide), fun _ => bad (fun ⟨e, w1, w2, w3, w4⟩ => ?_)⟩
    rcases hr with hr | hr
    · exact w2 (by rw [← Wh_uniq kW w1, ← hr, k6])
    · exact w3 (by rw [← u8, ← hr, k6])
  · rw [q_bd h]
    have n1 : (ρ.1 46 5).toInt ≠ (ρ.1 46 7).toInt := fun z => hr1 (Int32.toInt_inj.mp (by rw [k6]; exact z))
    have n2 : (ρ.1 46 5).toInt ≠ (σ.1 46 8).toInt := fun z => hr2 (Int32.toInt_inj.mp (by rw [k6, u8]; exact z))
    refine ok_ite.mpr ⟨fun _ => ?_, fun z => absurd rfl z⟩
    have hw := r_word6 kI
    rw [k6, u1] at hw
    rcases hw with ⟨h5, hw⟩ | ⟨h5, hw⟩
    · rw [q_bd h5]
      refine ok_ite.mpr ⟨fun z => absurd z (by decide), fun _ => ?_⟩
      unfold fX3_passRun
      have b7 := kb.2.2.2
      refine ok_bd.mpr (ok_nm.mpr (ok_nm.mpr (ok_some.mpr (ok_some.mpr ⟨JC_w (JC_w kI (show 0 ≤ _ from b7.1) (show _ ≤ 1600 from b7.2)) (Int32.le_toInt _) (Int32.toInt_le _), Fr_w (Fr_w kF' (by decide)) (by decide), 0, 0, (ρ.1 46 5).toInt + 2, ⟨_, kB, .inl ⟨⟨_, kW, n1, n2, hw⟩, rfl, rfl⟩⟩, .inl ⟨rfl, rfl, ?_, rfl, u2, u3⟩⟩))))
      show (ρ.1 46 7).toInt = _
      have := hw.1
      omega
    · rw [q_bd h5]
      refine ok_ite.mpr ⟨fun _ => bad (fun ⟨e, w1, w2, w3, w4⟩ => hw (by rw [Wh_uniq kW w1]; exact w4)), fun z => absurd rfl z⟩
theorem r_readWord7 {σ : gS} (hI : JC σ) : Ok (fX3_readWord_K7 σ) (fun out => JC out.2 ∧ Fr fr_fX3_readWord_K7 σ out.2 ∧ ∃ f q e, WO (σ.1 1) (σ.1 46 4).toInt (σ.1 46 8).toInt (σ.1 46 5).toInt (bytC 7) 4 f q e ∧ CO σ out.2 out.1 f q e) := by
  unfold fX3_readWord_K7
  refine ok_bd.mpr ((r_mark hI 97 122).mono (fun ρ hρ => ?_))
  obtain ⟨kI, kF, kB, k6, kW⟩ := hρ
  have kb := jc_tape kI
  have u1 : ρ.1 1 = σ.1 1 := Fr_row kF 1 (by decide)
  have u2 : ρ.1 46 2 = σ.1 46 2 := (kF 46 2 (by decide) (by decide)).1
  have u3 : ρ.1 46 3 = σ.1 46 3 := (kF 46 3 (by decide) (by decide)).1
  have u8 : ρ.1 46 8 = σ.1 46 8 := (kF 46 8 (by decide) (by decide)).1
  have kF' : Fr fr_fX3_readWord_K7 σ ρ := Fr_c Fr_r kF (by decide)
  have bad : ¬ HW (σ.1 1) (σ.1 46 4).toInt (σ.1 46 8).toInt (ρ.1 46 5).toInt (bytC 7) 4 → Ok (bd2 (fX3_fail ρ 1 (ρ.1 46 6)) fun r s => some (vp_nar .boolean r, s)) (fun out => JC out.2 ∧ Fr fr_fX3_readWord_K7 σ out.2 ∧ ∃ f q e, WO (σ.1 1) (σ.1 46 4).toInt (σ.1 46 8).toInt (σ.1 46 5).toInt (bytC 7) 4 f q e ∧ CO σ out.2 out.1 f q e) := by
    intro hw
    rw [r_failC]
    exact ok_some.mpr ⟨JC_f kI, Fr_w (Fr_w kF' (by decide)) (by decide), 1, (ρ.1 46 5).toInt, 0, ⟨_, kB, .inr ⟨hw, rfl, rfl⟩⟩, .inr ⟨nb0, by decide, rfl, show (ρ.1 46 6).toInt = _ by rw [k6]⟩⟩
  rcases r_noRun ρ with ⟨h, hr⟩ | ⟨h, hr1, hr2⟩
  · rw [q_bd h]
    refine ok_ite.mpr ⟨fun z => absurd z (by decide), fun _ => bad (fun ⟨e, w1, w2, w3, w4⟩ => ?_)⟩
    rcases hr with hr | hr
    · exact w2 (by rw [← Wh_uniq kW w1, ← hr, k6])
    · exact w3 (by rw [← u8, ← hr, k6])
  · rw [q_bd h]
    have n1 : (ρ.1 46 5).toInt ≠ (ρ.1 46 7).toInt := fun z => hr1 (Int32.toInt_inj.mp (by rw [k6]; exact z))
    have n2 : (ρ.1 46 5).toInt ≠ (σ.1 46 8).toInt := fun z => hr2 (Int32.toInt_inj.mp (by rw [k6, u8]; exact z))
    refine ok_ite.mpr ⟨fun _ => ?_, fun z => absurd rfl z⟩
    have hw := r_word7 kI
    rw [k6, u1] at hw
    rcases hw with ⟨h5, hw⟩ | ⟨h5, hw⟩
    · rw [q_bd h5]
      refine ok_ite.mpr ⟨fun z => absurd z (by decide), fun _ => ?_⟩
      unfold fX3_passRun
      have b7 := kb.2.2.2
      refine ok_bd.mpr (ok_nm.mpr (ok_nm.mpr (ok_some.mpr (ok_some.mpr ⟨JC_w (JC_w kI (show 0 ≤ _ from b7.1) (show _ ≤ 1600 from b7.2)) (Int32.le_toInt _) (Int32.toInt_le _), Fr_w (Fr_w kF' (by decide)) (by decide), 0, 0, (ρ.1 46 5).toInt + 4, ⟨_, kB, .inl ⟨⟨_, kW, n1, n2, hw⟩, rfl, rfl⟩⟩, .inl ⟨rfl, rfl, ?_, rfl, u2, u3⟩⟩))))
      show (ρ.1 46 7).toInt = _
      have := hw.1
      omega
    · rw [q_bd h5]
      refine ok_ite.mpr ⟨fun _ => bad (fun ⟨e, w1, w2, w3, w4⟩ => hw (by rw [Wh_uniq kW w1]; exact w4)), fun z => absurd rfl z⟩
theorem r_readWord9 {σ : gS} (hI : JC σ) : Ok (fX3_readWord_K9 σ) (fun out => JC out.2 ∧ Fr fr_fX3_readWord_K9 σ out.2 ∧ ∃ f q e, WO (σ.1 1) (σ.1 46 4).toInt (σ.1 46 8).toInt (σ.1 46 5).toInt (bytC 9) 2 f q e ∧ CO σ out.2 out.1 f q e) := by
  unfold fX3_readWord_K9
  refine ok_bd.mpr ((r_mark hI 97 122).mono (fun ρ hρ => ?_))
  obtain ⟨kI, kF, kB, k6, kW⟩ := hρ
  have kb := jc_tape kI
  have u1 : ρ.1 1 = σ.1 1 := Fr_row kF 1 (by decide)
  have u2 : ρ.1 46 2 = σ.1 46 2 := (kF 46 2 (by decide) (by decide)).1
  have u3 : ρ.1 46 3 = σ.1 46 3 := (kF 46 3 (by decide) (by decide)).1
  have u8 : ρ.1 46 8 = σ.1 46 8 := (kF 46 8 (by decide) (by decide)).1
  have kF' : Fr fr_fX3_readWord_K9 σ ρ := Fr_c Fr_r kF (by decide)
  have bad : ¬ HW (σ.1 1) (σ.1 46 4).toInt (σ.1 46 8).toInt (ρ.1 46 5).toInt (bytC 9) 2 → Ok (bd2 (fX3_fail ρ 1 (ρ.1 46 6)) fun r s => some (vp_nar .boolean r, s)) (fun out => JC out.2 ∧ Fr fr_fX3_readWord_K9 σ out.2 ∧ ∃ f q e, WO (σ.1 1) (σ.1 46 4).toInt (σ.1 46 8).toInt (σ.1 46 5).toInt (bytC 9) 2 f q e ∧ CO σ out.2 out.1 f q e) := by
    intro hw
    rw [r_failC]
    exact ok_some.mpr ⟨JC_f kI, Fr_w (Fr_w kF' (by decide)) (by decide), 1, (ρ.1 46 5).toInt, 0, ⟨_, kB, .inr ⟨hw, rfl, rfl⟩⟩, .inr ⟨nb0, by decide, rfl, show (ρ.1 46 6).toInt = _ by rw [k6]⟩⟩
  rcases r_noRun ρ with ⟨h, hr⟩ | ⟨h, hr1, hr2⟩
  · rw [q_bd h]
    refine ok_ite.mpr ⟨fun z => absurd z (by decide), fun _ => bad (fun ⟨e, w1, w2, w3, w4⟩ => ?_)⟩
    rcases hr with hr | hr
    · exact w2 (by rw [← Wh_uniq kW w1, ← hr, k6])
    · exact w3 (by rw [← u8, ← hr, k6])
  · rw [q_bd h]
    have n1 : (ρ.1 46 5).toInt ≠ (ρ.1 46 7).toInt := fun z => hr1 (Int32.toInt_inj.mp (by rw [k6]; exact z))
    have n2 : (ρ.1 46 5).toInt ≠ (σ.1 46 8).toInt := fun z => hr2 (Int32.toInt_inj.mp (by rw [k6, u8]; exact z))
    refine ok_ite.mpr ⟨fun _ => ?_, fun z => absurd rfl z⟩
    have hw := r_word9 kI
    rw [k6, u1] at hw
    rcases hw with ⟨h5, hw⟩ | ⟨h5, hw⟩
    · rw [q_bd h5]
      refine ok_ite.mpr ⟨fun z => absurd z (by decide), fun _ => ?_⟩
      unfold fX3_passRun
      have b7 := kb.2.2.2
      refine ok_bd.mpr (ok_nm.mpr (ok_nm.mpr (ok_some.mpr (ok_some.mpr ⟨JC_w (JC_w kI (show 0 ≤ _ from b7.1) (show _ ≤ 1600 from b7.2)) (Int32.le_toInt _) (Int32.toInt_le _), Fr_w (Fr_w kF' (by decide)) (by decide), 0, 0, (ρ.1 46 5).toInt + 2, ⟨_, kB, .inl ⟨⟨_, kW, n1, n2, hw⟩, rfl, rfl⟩⟩, .inl ⟨rfl, rfl, ?_, rfl, u2, u3⟩⟩))))
      show (ρ.1 46 7).toInt = _
      have := hw.1
      omega
    · rw [q_bd h5]
      refine ok_ite.mpr ⟨fun _ => bad (fun ⟨e, w1, w2, w3, w4⟩ => hw (by rw [Wh_uniq kW w1]; exact w4)), fun z => absurd rfl z⟩
theorem r_readWord10 {σ : gS} (hI : JC σ) : Ok (fX3_readWord_K10 σ) (fun out => JC out.2 ∧ Fr fr_fX3_readWord_K10 σ out.2 ∧ ∃ f q e, WO (σ.1 1) (σ.1 46 4).toInt (σ.1 46 8).toInt (σ.1 46 5).toInt (bytC 10) 6 f q e ∧ CO σ out.2 out.1 f q e) := by
  unfold fX3_readWord_K10
  refine ok_bd.mpr ((r_mark hI 97 122).mono (fun ρ hρ => ?_))
  obtain ⟨kI, kF, kB, k6, kW⟩ := hρ
  have kb := jc_tape kI
  have u1 : ρ.1 1 = σ.1 1 := Fr_row kF 1 (by decide)
  have u2 : ρ.1 46 2 = σ.1 46 2 := (kF 46 2 (by decide) (by decide)).1
  have u3 : ρ.1 46 3 = σ.1 46 3 := (kF 46 3 (by decide) (by decide)).1
  have u8 : ρ.1 46 8 = σ.1 46 8 := (kF 46 8 (by decide) (by decide)).1
  have kF' : Fr fr_fX3_readWord_K10 σ ρ := Fr_c Fr_r kF (by decide)
  have bad : ¬ HW (σ.1 1) (σ.1 46 4).toInt (σ.1 46 8).toInt (ρ.1 46 5).toInt (bytC 10) 6 → Ok (bd2 (fX3_fail ρ 1 (ρ.1 46 6)) fun r s => some (vp_nar .boolean r, s)) (fun out => JC out.2 ∧ Fr fr_fX3_readWord_K10 σ out.2 ∧ ∃ f q e, WO (σ.1 1) (σ.1 46 4).toInt (σ.1 46 8).toInt (σ.1 46 5).toInt (bytC 10) 6 f q e ∧ CO σ out.2 out.1 f q e) := by
    intro hw
    rw [r_failC]
    exact ok_some.mpr ⟨JC_f kI, Fr_w (Fr_w kF' (by decide)) (by decide), 1, (ρ.1 46 5).toInt, 0, ⟨_, kB, .inr ⟨hw, rfl, rfl⟩⟩, .inr ⟨nb0, by decide, rfl, show (ρ.1 46 6).toInt = _ by rw [k6]⟩⟩
  rcases r_noRun ρ with ⟨h, hr⟩ | ⟨h, hr1, hr2⟩
  · rw [q_bd h]
    refine ok_ite.mpr ⟨fun z => absurd z (by decide), fun _ => bad (fun ⟨e, w1, w2, w3, w4⟩ => ?_)⟩
    rcases hr with hr | hr
    · exact w2 (by rw [← Wh_uniq kW w1, ← hr, k6])
    · exact w3 (by rw [← u8, ← hr, k6])
  · rw [q_bd h]
    have n1 : (ρ.1 46 5).toInt ≠ (ρ.1 46 7).toInt := fun z => hr1 (Int32.toInt_inj.mp (by rw [k6]; exact z))
    have n2 : (ρ.1 46 5).toInt ≠ (σ.1 46 8).toInt := fun z => hr2 (Int32.toInt_inj.mp (by rw [k6, u8]; exact z))
    refine ok_ite.mpr ⟨fun _ => ?_, fun z => absurd rfl z⟩
    have hw := r_word10 kI
    rw [k6, u1] at hw
    rcases hw with ⟨h5, hw⟩ | ⟨h5, hw⟩
    · rw [q_bd h5]
      refine ok_ite.mpr ⟨fun z => absurd z (by decide), fun _ => ?_⟩
      unfold fX3_passRun
      have b7 := kb.2.2.2
      refine ok_bd.mpr (ok_nm.mpr (ok_nm.mpr (ok_some.mpr (ok_some.mpr ⟨JC_w (JC_w kI (show 0 ≤ _ from b7.1) (show _ ≤ 1600 from b7.2)) (Int32.le_toInt _) (Int32.toInt_le _), Fr_w (Fr_w kF' (by decide)) (by decide), 0, 0, (ρ.1 46 5).toInt + 6, ⟨_, kB, .inl ⟨⟨_, kW, n1, n2, hw⟩, rfl, rfl⟩⟩, .inl ⟨rfl, rfl, ?_, rfl, u2, u3⟩⟩))))
      show (ρ.1 46 7).toInt = _
      have := hw.1
      omega
    · rw [q_bd h5]
      refine ok_ite.mpr ⟨fun _ => bad (fun ⟨e, w1, w2, w3, w4⟩ => hw (by rw [Wh_uniq kW w1]; exact w4)), fun z => absurd rfl z⟩
theorem r_readWord11 {σ : gS} (hI : JC σ) : Ok (fX3_readWord_K11 σ) (fun out => JC out.2 ∧ Fr fr_fX3_readWord_K11 σ out.2 ∧ ∃ f q e, WO (σ.1 1) (σ.1 46 4).toInt (σ.1 46 8).toInt (σ.1 46 5).toInt (bytC 11) 3 f q e ∧ CO σ out.2 out.1 f q e) := by
  unfold fX3_readWord_K11
  refine ok_bd.mpr ((r_mark hI 97 122).mono (fun ρ hρ => ?_))
  obtain ⟨kI, kF, kB, k6, kW⟩ := hρ
  have kb := jc_tape kI
  have u1 : ρ.1 1 = σ.1 1 := Fr_row kF 1 (by decide)
  have u2 : ρ.1 46 2 = σ.1 46 2 := (kF 46 2 (by decide) (by decide)).1
  have u3 : ρ.1 46 3 = σ.1 46 3 := (kF 46 3 (by decide) (by decide)).1
  have u8 : ρ.1 46 8 = σ.1 46 8 := (kF 46 8 (by decide) (by decide)).1
  have kF' : Fr fr_fX3_readWord_K11 σ ρ := Fr_c Fr_r kF (by decide)
  have bad : ¬ HW (σ.1 1) (σ.1 46 4).toInt (σ.1 46 8).toInt (ρ.1 46 5).toInt (bytC 11) 3 → Ok (bd2 (fX3_fail ρ 1 (ρ.1 46 6)) fun r s => some (vp_nar .boolean r, s)) (fun out => JC out.2 ∧ Fr fr_fX3_readWord_K11 σ out.2 ∧ ∃ f q e, WO (σ.1 1) (σ.1 46 4).toInt (σ.1 46 8).toInt (σ.1 46 5).toInt (bytC 11) 3 f q e ∧ CO σ out.2 out.1 f q e) := by
    intro hw
    rw [r_failC]
    exact ok_some.mpr ⟨JC_f kI, Fr_w (Fr_w kF' (by decide)) (by decide), 1, (ρ.1 46 5).toInt, 0, ⟨_, kB, .inr ⟨hw, rfl, rfl⟩⟩, .inr ⟨nb0, by decide, rfl, show (ρ.1 46 6).toInt = _ by rw [k6]⟩⟩
  rcases r_noRun ρ with ⟨h, hr⟩ | ⟨h, hr1, hr2⟩
  · rw [q_bd h]
    refine ok_ite.mpr ⟨fun z => absurd z (by decide), fun _ => bad (fun ⟨e, w1, w2, w3, w4⟩ => ?_)⟩
    rcases hr with hr | hr
    · exact w2 (by rw [← Wh_uniq kW w1, ← hr, k6])
    · exact w3 (by rw [← u8, ← hr, k6])
  · rw [q_bd h]
    have n1 : (ρ.1 46 5).toInt ≠ (ρ.1 46 7).toInt := fun z => hr1 (Int32.toInt_inj.mp (by rw [k6]; exact z))
    have n2 : (ρ.1 46 5).toInt ≠ (σ.1 46 8).toInt := fun z => hr2 (Int32.toInt_inj.mp (by rw [k6, u8]; exact z))
    refine ok_ite.mpr ⟨fun _ => ?_, fun z => absurd rfl z⟩
    have hw := r_word11 kI
    rw [k6, u1] at hw
    rcases hw with ⟨h5, hw⟩ | ⟨h5, hw⟩
    · rw [q_bd h5]
      refine ok_ite.mpr ⟨fun z => absurd z (by decide), fun _ => ?_⟩
      unfold fX3_passRun
      have b7 := kb.2.2.2
      refine ok_bd.mpr (ok_nm.mpr (ok_nm.mpr (ok_some.mpr (ok_some.mpr ⟨JC_w (JC_w kI (show 0 ≤ _ from b7.1) (show _ ≤ 1600 from b7.2)) (Int32.le_toInt _) (Int32.toInt_le _), Fr_w (Fr_w kF' (by decide)) (by decide), 0, 0, (ρ.1 46 5).toInt + 3, ⟨_, kB, .inl ⟨⟨_, kW, n1, n2, hw⟩, rfl, rfl⟩⟩, .inl ⟨rfl, rfl, ?_, rfl, u2, u3⟩⟩))))
      show (ρ.1 46 7).toInt = _
      have := hw.1
      omega
    · rw [q_bd h5]
      refine ok_ite.mpr ⟨fun _ => bad (fun ⟨e, w1, w2, w3, w4⟩ => hw (by rw [Wh_uniq kW w1]; exact w4)), fun z => absurd rfl z⟩
end PC
