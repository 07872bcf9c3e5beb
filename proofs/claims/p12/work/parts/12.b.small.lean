/-! ANSWERS ALIKE: measure, slips, sets, letter -/
section P12B
theorem ex_2 (σ : gS) (p : Int32) {k : Int32} {K : Nat} (hk : k.toInt = K) (hK : K ≤ 5) : (fX8_exists_2 σ k p = some 1 ∧ 0 ≤ p.toInt ∧ p.toInt < (σ.1 3 K).toInt) ∨ (fX8_exists_2 σ k p = some 0 ∧ ¬ (0 ≤ p.toInt ∧ p.toInt < (σ.1 3 K).toInt)) := by
  have ek : k.toNatClampNeg = K := by rw [n_toInt]; omega
  have z0' := z0
  unfold fX8_exists_2
  by_cases h : p < 0
  · have h' := Int32.lt_iff_toInt_lt.mp h
    exact .inr ⟨if_pos h, by omega⟩
  · have h' : ¬ p.toInt < (0 : Int32).toInt := fun z => h (Int32.lt_iff_toInt_lt.mpr z)
    rw [if_neg h, q_gd (gb_of (by omega) (by omega)), nm_eq, ek]
    by_cases g : σ.1 3 K ≤ p
    · have g' := Int32.le_iff_toInt_le.mp g
      exact .inr ⟨if_pos g, by omega⟩
    · have g' := q_gt g
      exact .inl ⟨if_neg g, by omega, by omega⟩
theorem lt_or (a b : Int32) : (a < b ∧ a.toInt < b.toInt) ∨ (¬ a < b ∧ b.toInt ≤ a.toInt) := by
  by_cases h : a < b
  · exact .inl ⟨h, Int32.lt_iff_toInt_lt.mp h⟩
  · have : ¬ a.toInt < b.toInt := fun z => h (Int32.lt_iff_toInt_lt.mpr z)
    exact .inr ⟨h, by omega⟩
theorem in_32 (σ : gS) (p a b : Int32) : (fX10_isIn σ p.toInt64 a.toInt64 b.toInt64 = some 1 ∧ a.toInt ≤ p.toInt ∧ p.toInt ≤ b.toInt) ∨ (fX10_isIn σ p.toInt64 a.toInt64 b.toInt64 = some 0 ∧ ¬ (a.toInt ≤ p.toInt ∧ p.toInt ≤ b.toInt)) := by
  have e1 : p.toInt64.toInt = p.toInt := Int32.toInt_toInt64 _
  have e2 : a.toInt64.toInt = a.toInt := Int32.toInt_toInt64 _
  have e3 : b.toInt64.toInt = b.toInt := Int32.toInt_toInt64 _
  rcases m_isIn σ p.toInt64 a.toInt64 b.toInt64 with ⟨h, h1, h2⟩ | ⟨h, h1⟩
  · exact .inl ⟨h, by omega, by omega⟩
  · exact .inr ⟨h, by omega⟩
theorem m_isRow2 {σ : gS} (hI : JM σ) (p : Int32) : (fX10_isRow σ p = some 1 ∧ 0 ≤ p.toInt ∧ p.toInt < (σ.1 15 9).toInt) ∨ (fX10_isRow σ p = some 0 ∧ ¬ (0 ≤ p.toInt ∧ p.toInt < (σ.1 15 9).toInt)) := by
  have hn := (JM_n hI).1
  have l1 : (1 : Int32).toInt = 1 := by decide
  have z0' := z0
  have e : (σ.1 15 9 - 1).toInt = (σ.1 15 9).toInt - 1 := by rw [isub_toInt] <;> omega
  unfold fX10_isRow
  rw [q_bd (m_rows σ)]
  have i := in_32 σ p 0 (σ.1 15 9 - 1)
  rcases i with ⟨h, h1, h2⟩ | ⟨h, h1⟩
  · refine .inl ⟨(q_bd (show fX10_isIn σ p.toInt64 0 (σ.1 15 9 - 1).toInt64 = some 1 from h)).trans (by rw [nb1]), by omega, by omega⟩
  · refine .inr ⟨(q_bd (show fX10_isIn σ p.toInt64 0 (σ.1 15 9 - 1).toInt64 = some 0 from h)).trans (by rw [nb0]), by omega⟩
noncomputable def MEA (n : Int) (p u v : Int32) : Prop := (0 ≤ p.toInt ∧ p.toInt < n) ∧ (0 ≤ u.toInt ∧ u.toInt ≤ 9999) ∧ (0 ≤ v.toInt ∧ v.toInt ≤ 9999)
theorem c_can (σ : gS) (p u v : Int32) : (fX9_canMeasure σ p u v = some 1 ∧ MEA (σ.1 3 3).toInt p u v) ∨ (fX9_canMeasure σ p u v = some 0 ∧ ¬ MEA (σ.1 3 3).toInt p u v) := by
  have z0' := z0
  have l9 : (9999 : Int32).toInt = 9999 := by decide
  unfold fX9_canMeasure MEA
  rcases ex_2 σ p (k := 3) (K := 3) (by decide) (by decide) with ⟨h, h1, h2⟩ | ⟨h, h1⟩
  · rw [q_bd h, if_neg one_ne]
    rcases lt_or u 0 with ⟨a, a'⟩ | ⟨a, a'⟩
    · exact .inr ⟨if_pos a, by omega⟩
    rw [if_neg a]
    rcases lt_or 9999 u with ⟨b, b'⟩ | ⟨b, b'⟩
    · exact .inr ⟨if_pos b, by omega⟩
    rw [if_neg b]
    rcases lt_or v 0 with ⟨c, c'⟩ | ⟨c, c'⟩
    · exact .inr ⟨if_pos c, by omega⟩
    rw [if_neg c]
    rcases lt_or 9999 v with ⟨d, d'⟩ | ⟨d, d'⟩
    · exact .inr ⟨if_pos d, by omega⟩
    rw [if_neg d]
    exact .inl ⟨rfl, by omega⟩
  · rw [q_bd h]
    exact .inr ⟨if_pos rfl, fun z => h1 z.1⟩
theorem m_can {σ : gS} (hI : JM σ) (p u v : Int32) : (fX10_canMeasure σ p u v = some 1 ∧ MEA (σ.1 15 9).toInt p u v) ∨ (fX10_canMeasure σ p u v = some 0 ∧ ¬ MEA (σ.1 15 9).toInt p u v) := by
  have z0' := z0
  have l9 : (9999 : Int32).toInt = 9999 := by decide
  unfold fX10_canMeasure MEA
  rcases m_isRow2 hI p with ⟨h, h1, h2⟩ | ⟨h, h1⟩
  · rw [q_bd h, if_neg one_ne]
    rcases in_32 σ u 0 9999 with ⟨a, a1, a2⟩ | ⟨a, a1⟩
    · rw [q_bd (show fX10_isIn σ u.toInt64 0 9999 = some 1 from a), if_neg one_ne]
      rcases in_32 σ v 0 9999 with ⟨b, b1, b2⟩ | ⟨b, b1⟩
      · rw [q_bd (show fX10_isIn σ v.toInt64 0 9999 = some 1 from b), if_neg one_ne]
        exact .inl ⟨rfl, by omega⟩
      · rw [q_bd (show fX10_isIn σ v.toInt64 0 9999 = some 0 from b), if_pos rfl]
        exact .inr ⟨rfl, by omega⟩
    · rw [q_bd (show fX10_isIn σ u.toInt64 0 9999 = some 0 from a), if_pos rfl]
      exact .inr ⟨rfl, by omega⟩
  · rw [q_bd h]
    exact .inr ⟨if_pos rfl, fun z => h1 z.1⟩
theorem IV_n {σC σM : gS} (h : IV σC σM) : σC.1 3 3 = σM.1 15 9 ∧ σC.1 3 2 = σM.1 15 8 ∧ σC.1 3 1 = σM.1 15 7 ∧ σC.1 3 0 = σM.1 15 6 := ⟨h.2.2.2.2.2.2.2.1 3 (by decide), h.2.2.2.2.2.2.2.1 2 (by decide), h.2.2.2.2.2.2.2.1 1 (by decide), h.2.2.2.2.2.2.2.1 0 (by decide)⟩
theorem fst_bd {o : Option gS} {v : Int32} {x : Int32 × gS} (h : bd o (fun s => some (v, s)) = some x) : x.1 = v := by
  cases o with
  | none => cases h
  | some s => cases h; rfl
theorem fst_so {v : Int32} {s : gS} {x : Int32 × gS} (h : some (v, s) = some x) : x.1 = v := by
  cases h
  rfl
theorem c_30 {σC σM : gS} (h : IV σC σM) (x1 x2 x3 : Int32) : ∃ (oc : Int32 × gS) (om : Int32 × gS), fX9_measure σC x1 x2 x3 = some oc ∧ fX10_measure σM x1 x2 x3 = some om ∧ oc.1 = om.1 ∧ IV oc.2 om.2 := by
  obtain ⟨oc, om, eC, eM, hI⟩ := g_30 h x1 x2 x3
  refine ⟨oc, om, eC, eM, ?_, hI⟩
  unfold fX9_measure at eC
  unfold fX10_measure at eM
  have e := (IV_n h).1
  rcases c_can σC x1 x2 x3 with ⟨a, a1⟩ | ⟨a, a1⟩ <;> rcases m_can h.2.1 x1 x2 x3 with ⟨b, b1⟩ | ⟨b, b1⟩
  · rw [q_bd a, if_neg one_ne] at eC
    rw [q_bd b, if_neg one_ne] at eM
    rw [fst_bd eC, fst_bd eM]
  · rw [e] at a1; exact absurd a1 b1
  · rw [← e] at b1; exact absurd b1 a1
  · rw [q_bd a, if_pos rfl] at eC
    rw [q_bd b, if_pos rfl] at eM
    rw [fst_so eC, fst_so eM]
theorem bd2_ex {β γ : Type} {o : Option (β × gS)} {E : β → gS → Option γ} {x : γ} (h : bd2 o E = some x) : ∃ r s, o = some (r, s) ∧ E r s = some x := by
  cases o with
  | none => cases h
  | some r => exact ⟨r.1, r.2, rfl, h⟩
/-- what comes out of a loop, if something does -/
theorem lpc_part {S β : Type} {B : (S → Option β) → S → Option β} {P : β → Prop} {I : S → Prop} (step : ∀ (rec : S → Option β) (s : S), I s → (∀ (s' : S) (o : β), I s' → rec s' = some o → P o) → ∀ o, B rec s = some o → P o) : ∀ (K : Nat) (s : S) (o : β), I s → lpc K B s = some o → P o
  | 0, _, _, _, h => by cases h
  | K + 1, s, o, hI, h => step (lpc K B) s hI (fun s' o' h' e => lpc_part step K s' o' h' e) o h
theorem c_31 {σC σM : gS} (h : IV σC σM) (x1 x2 x3 : Int32) : ∃ (oc : Int32 × gS) (om : Int32 × gS), fX9_slips σC x1 x2 x3 = some oc ∧ fX10_slips σM x1 x2 x3 = some om ∧ oc.1 = om.1 ∧ IV oc.2 om.2 := by
  obtain ⟨oc, om, eC, eM, hI⟩ := g_31 h x1 x2 x3
  refine ⟨oc, om, eC, eM, ?_, hI⟩
  have en := (IV_n h).1
  have z0' := z0
  have l1 : (1 : Int32).toInt = 1 := by decide
  have l60 : (60 : Int32).toInt = 60 := by decide
  have l999 : (999 : Int32).toInt = 999 := by decide
  unfold fX9_slips at eC
  unfold fX10_slips at eM
  rw [q_gd (by decide), nm_eq, nm_eq] at eC
  have e3 : σC.1 3 ((3 : Int32).toNatClampNeg) = σM.1 15 9 := en
  rw [e3] at eC
  have rj : ∀ {v : Int32 × gS}, (1 ≤ x1.toInt ∧ x1.toInt ≤ 60 ∧ 0 ≤ x2.toInt ∧ x2.toInt ≤ 999 ∧ 0 ≤ x3.toInt ∧ σM.1 15 9 ≠ 0) ∨ om.1 = -1 := by
    intro _
    rcases in_32 σM x1 1 60 with ⟨a, a1, a2⟩ | ⟨a, a1⟩
    · rw [q_bd (show fX10_isIn σM x1.toInt64 1 60 = some 1 from a), if_neg one_ne] at eM
      rcases in_32 σM x2 0 999 with ⟨b, b1, b2⟩ | ⟨b, b1⟩
      · rw [q_bd (show fX10_isIn σM x2.toInt64 0 999 = some 1 from b), if_neg one_ne] at eM
        rcases lt_or x3 0 with ⟨c, c'⟩ | ⟨c, c'⟩
        · rw [if_pos c] at eM
          exact .inr (fst_so eM)
        · rw [if_neg c, q_bd (m_rows σM)] at eM
          by_cases d : σM.1 15 9 = 0
          · rw [if_pos d] at eM
            exact .inr (fst_so eM)
          · exact .inl ⟨by omega, by omega, by omega, by omega, by omega, d⟩
      · rw [q_bd (show fX10_isIn σM x2.toInt64 0 999 = some 0 from b), if_pos rfl] at eM
        exact .inr (fst_so eM)
    · rw [q_bd (show fX10_isIn σM x1.toInt64 1 60 = some 0 from a), if_pos rfl] at eM
      exact .inr (fst_so eM)
  by_cases hv : 1 ≤ x1.toInt ∧ x1.toInt ≤ 60 ∧ 0 ≤ x2.toInt ∧ x2.toInt ≤ 999 ∧ 0 ≤ x3.toInt ∧ σM.1 15 9 ≠ 0
  · obtain ⟨v1, v2, v3, v4, v5, v6⟩ := hv
    have m3 : (3 * x1).toInt = 3 * x1.toInt := imulc (by decide) (by omega) (by omega)
    have hM : om.1 = 3 * x1 := by
      rcases in_32 σM x1 1 60 with ⟨a, a1, a2⟩ | ⟨a, a1⟩
      · rw [q_bd (show fX10_isIn σM x1.toInt64 1 60 = some 1 from a), if_neg one_ne] at eM
        rcases in_32 σM x2 0 999 with ⟨b, b1, b2⟩ | ⟨b, b1⟩
        · rw [q_bd (show fX10_isIn σM x2.toInt64 0 999 = some 1 from b), if_neg one_ne] at eM
          rcases lt_or x3 0 with ⟨c, c'⟩ | ⟨c, c'⟩
          · omega
          · rw [if_neg c, q_bd (m_rows σM), if_neg v6, nm_eq, nm_eq] at eM
            refine lpc_part (I := fun _ => True) (P := fun o : Int32 × gS => o.1 = 3 * x1) (fun rec s _ hrec o ho => ?_) K9 _ om trivial eM
            try dsimp only at ho
            unfold bX10_slips_46 at ho
            by_cases z : x1 ≤ s.1
            · rw [if_pos z] at ho
              exact fst_so ho
            · rw [if_neg z] at ho
              obtain ⟨r1, -, ho⟩ := bd_some ho
              obtain ⟨r2, s2, -, ho⟩ := bd2_ex ho
              rw [nm_eq] at ho
              obtain ⟨-, ho⟩ := gd_some ho
              rw [nm_eq] at ho
              obtain ⟨r3, s3, -, ho⟩ := bd2_ex ho
              rw [nm_eq] at ho
              obtain ⟨-, ho⟩ := gd_some ho
              rw [nm_eq] at ho
              obtain ⟨r4, s4, -, ho⟩ := bd2_ex ho
              rw [nm_eq] at ho
              obtain ⟨r5, -, ho⟩ := bd_some ho
              obtain ⟨r6, -, ho⟩ := bd_some ho
              obtain ⟨r7, -, ho⟩ := bd_some ho
              exact hrec _ _ trivial ho
        · omega
      · omega
    have hC : oc.1 = 3 * x1 := by
      rw [if_neg v6] at eC
      rcases lt_or x1 1 with ⟨a, a'⟩ | ⟨a, a'⟩
      · omega
      rw [if_neg a] at eC
      rcases lt_or 60 x1 with ⟨b, b'⟩ | ⟨b, b'⟩
      · omega
      rw [if_neg b] at eC
      rcases lt_or x2 0 with ⟨c, c'⟩ | ⟨c, c'⟩
      · omega
      rw [if_neg c] at eC
      rcases lt_or 999 x2 with ⟨d, d'⟩ | ⟨d, d'⟩
      · omega
      rw [if_neg d, if_pos (q_le (by omega)), nm_eq, nm_eq, nm_eq] at eC
      refine lpc_part (I := fun s : Int64 × Int32 × Int32 × gS => s.2.1.toInt = 3 * s.2.2.1.toInt ∧ 0 ≤ s.2.2.1.toInt ∧ s.2.2.1.toInt ≤ x1.toInt) (P := fun o : Int32 × gS => o.1 = 3 * x1) (fun rec s hs hrec o ho => ?_) K9 _ oc ⟨by show (0 : Int32).toInt = 3 * (0 : Int32).toInt; decide, by show 0 ≤ (0 : Int32).toInt; decide, by show (0 : Int32).toInt ≤ x1.toInt; omega⟩ eC
      obtain ⟨s1, s2, s3, s4⟩ := s
      obtain ⟨k1, k2, k3⟩ := hs
      dsimp only at ho k1 k2 k3
      unfold bX9_slips_54 at ho
      by_cases z : x1 ≤ s3
      · have z' := Int32.le_iff_toInt_le.mp z
        rw [if_pos z] at ho
        rw [fst_so ho]
        exact Int32.toInt_inj.mp (by omega)
      · have z' := q_gt z
        rw [if_neg z] at ho
        obtain ⟨r1, -, ho⟩ := bd_some ho
        rw [nm_eq] at ho
        obtain ⟨r2, -, ho⟩ := bd_some ho
        rw [nm_eq] at ho
        obtain ⟨r3, -, ho⟩ := bd_some ho
        rw [nm_eq] at ho
        obtain ⟨-, ho⟩ := gd_some ho
        obtain ⟨-, ho⟩ := gd_some ho
        rw [nm_eq] at ho
        obtain ⟨r4, -, ho⟩ := bd_some ho
        rw [nm_eq] at ho
        obtain ⟨r5, -, ho⟩ := bd_some ho
        rw [nm_eq] at ho
        obtain ⟨-, ho⟩ := gd_some ho
        obtain ⟨-, ho⟩ := gd_some ho
        rw [nm_eq] at ho
        obtain ⟨r6, -, ho⟩ := bd_some ho
        rw [nm_eq] at ho
        obtain ⟨r7, -, ho⟩ := bd_some ho
        obtain ⟨r8, -, ho⟩ := bd_some ho
        obtain ⟨r9, -, ho⟩ := bd_some ho
        have e1 := i_inc (a := s3) (c := 60) (by omega) (by omega) (by decide)
        have l3 : (3 : Int32).toInt = 3 := by decide
        have e2 : (s2 + 3).toInt = s2.toInt + 3 := by rw [iadd_toInt] <;> omega
        exact hrec (_, s2 + 3, s3 + 1, r9) o ⟨by show (s2 + 3).toInt = 3 * (s3 + 1).toInt; omega, by show 0 ≤ (s3 + 1).toInt; omega, by show (s3 + 1).toInt ≤ x1.toInt; omega⟩ ho
    rw [hC, hM]
  · have hM : om.1 = -1 := (rj (v := om)).resolve_left hv
    rw [hM]
    by_cases a : σM.1 15 9 = 0
    · rw [if_pos a] at eC
      exact fst_so eC
    rw [if_neg a] at eC
    rcases lt_or x1 1 with ⟨b, b'⟩ | ⟨b, b'⟩
    · rw [if_pos b] at eC
      exact fst_so eC
    rw [if_neg b] at eC
    rcases lt_or 60 x1 with ⟨c, c'⟩ | ⟨c, c'⟩
    · rw [if_pos c] at eC
      exact fst_so eC
    rw [if_neg c] at eC
    rcases lt_or x2 0 with ⟨d, d'⟩ | ⟨d, d'⟩
    · rw [if_pos d] at eC
      exact fst_so eC
    rw [if_neg d] at eC
    rcases lt_or 999 x2 with ⟨e, e'⟩ | ⟨e, e'⟩
    · rw [if_pos e] at eC
      exact fst_so eC
    rw [if_neg e] at eC
    by_cases f : (0 : Int32) ≤ x3
    · have f' := Int32.le_iff_toInt_le.mp f
      exact absurd ⟨by omega, by omega, by omega, by omega, by omega, a⟩ hv
    · rw [if_neg f] at eC
      exact fst_so eC
/-! sets -/
theorem set_bit (v x : Int32) (hv : 0 ≤ v.toInt ∧ v.toInt ≤ 2) (hx : 0 ≤ x.toInt ∧ x.toInt ≤ 3) : ((v &&& x) = 0 ∧ (v = 0 ∨ ¬ ((x >>> ((v - 1) &&& 31)) &&& 1) = 1)) ∨ (¬ (v &&& x) = 0 ∧ ¬ v = 0 ∧ ((x >>> ((v - 1) &&& 31)) &&& 1) = 1) := by
  have h1 : v.toInt = 0 ∨ v.toInt = 1 ∨ v.toInt = 2 := by omega
  have h2 : x.toInt = 0 ∨ x.toInt = 1 ∨ x.toInt = 2 ∨ x.toInt = 3 := by omega
  rcases h1 with h1 | h1 | h1 <;> rcases h2 with h2 | h2 | h2 | h2
  · obtain rfl := q_of 0 (h1.trans (by decide)); obtain rfl := q_of 0 (h2.trans (by decide)); decide
  · obtain rfl := q_of 0 (h1.trans (by decide)); obtain rfl := q_of 1 (h2.trans (by decide)); decide
  · obtain rfl := q_of 0 (h1.trans (by decide)); obtain rfl := q_of 2 (h2.trans (by decide)); decide
  · obtain rfl := q_of 0 (h1.trans (by decide)); obtain rfl := q_of 3 (h2.trans (by decide)); decide
  · obtain rfl := q_of 1 (h1.trans (by decide)); obtain rfl := q_of 0 (h2.trans (by decide)); decide
  · obtain rfl := q_of 1 (h1.trans (by decide)); obtain rfl := q_of 1 (h2.trans (by decide)); decide
  · obtain rfl := q_of 1 (h1.trans (by decide)); obtain rfl := q_of 2 (h2.trans (by decide)); decide
  · obtain rfl := q_of 1 (h1.trans (by decide)); obtain rfl := q_of 3 (h2.trans (by decide)); decide
  · obtain rfl := q_of 2 (h1.trans (by decide)); obtain rfl := q_of 0 (h2.trans (by decide)); decide
  · obtain rfl := q_of 2 (h1.trans (by decide)); obtain rfl := q_of 1 (h2.trans (by decide)); decide
  · obtain rfl := q_of 2 (h1.trans (by decide)); obtain rfl := q_of 2 (h2.trans (by decide)); decide
  · obtain rfl := q_of 2 (h1.trans (by decide)); obtain rfl := q_of 3 (h2.trans (by decide)); decide
/-- control's points, alike on both sides -/
noncomputable def QA (σC σM : gS) : Prop := σC.1 3 2 = σM.1 15 8 ∧ (0 ≤ (σM.1 15 8).toInt ∧ (σM.1 15 8).toInt ≤ 20) ∧ ∀ q : Nat, (q : Int) < (σM.1 15 8).toInt → σC.1 16 q = σM.1 20 (20 + q) ∧ 0 ≤ (σM.1 20 (20 + q)).toInt ∧ (σM.1 20 (20 + q)).toInt ≤ 2
theorem fix_alike {σC σM : gS} (h : QA σC σM) {x : Int32} (hc : σC.1 47 1 = x) (hm : σM.1 0 36 = x) (hx : 0 ≤ x.toInt ∧ x.toInt ≤ 3) {q : Int32} (h0 : 0 ≤ q.toInt) (h1 : q.toInt < (σM.1 15 8).toInt) : (fX5_isFixed_47 σC q = some 0 ∧ fX10_isControl σM q = some 0) ∨ (fX5_isFixed_47 σC q = some 1 ∧ fX10_isControl σM q = some 1) := by
  obtain ⟨a1, a2, a3⟩ := h
  obtain ⟨b1, b2, b3⟩ := a3 q.toInt.toNat (by omega)
  have l20 : (20 : Int32).toInt = 20 := by decide
  have e : (20 + q).toInt = 20 + q.toInt := by rw [iadd_toInt] <;> omega
  unfold fX5_isFixed_47 fX10_isControl
  rw [q_gd (gb_of h0 (by omega)), nm_eq, q_gd (gb_of (by omega) (by omega)), nm_eq, nm_eq, n_add (k := 20) (by decide) h0 (by omega), n_toInt, b1, hc, hm]
  rcases set_bit (σM.1 20 (20 + q.toInt.toNat)) x ⟨b2, b3⟩ hx with ⟨s1, s2⟩ | ⟨s1, s2, s3⟩
  · refine .inl ⟨if_pos s1, ?_⟩
    rcases s2 with s2 | s2
    · exact if_pos s2
    · by_cases z : σM.1 20 (20 + q.toInt.toNat) = 0
      · exact if_pos z
      · exact (if_neg z).trans (if_neg s2)
  · exact .inr ⟨if_neg s1, (if_neg s2).trans (if_pos s3)⟩
theorem cnt_step {σC σM : gS} (h : QA σC σM) {x : Int32} (hc : σC.1 47 1 = x) (hm : σM.1 0 36 = x) (hx : 0 ≤ x.toInt ∧ x.toInt ≤ 3) {rC rM : Int32 → Int32 → Option Int32} {a q : Int32} (h0 : 0 ≤ q.toInt) (h1 : q.toInt < (σM.1 15 8).toInt) (hrec : ∀ a', Re (rC a' (q + 1)) (rM a' (q + 1)) (fun a b => a = b)) : Re (bX5_countFixed_47_4 σC rC a q) (bX10_controls_4 σM rM a q) (fun a b => a = b) := by
  unfold bX5_countFixed_47_4 bX10_controls_4
  have ec : σC.1 3 ((2 : Int32).toNatClampNeg) = σM.1 15 8 := h.1
  rw [q_gd (by decide), nm_eq, ec, q_bd (m_points σM), if_neg (q_nle (by omega)), if_neg (q_nle (by omega))]
  rcases fix_alike h hc hm hx h0 (by omega) with ⟨f1, f2⟩ | ⟨f1, f2⟩
  · rw [q_bd f1, q_bd f2, if_pos rfl, if_pos rfl, nm_eq, nm_eq]
    exact hrec a
  · rw [q_bd f1, q_bd f2, if_neg one_ne, if_neg one_ne, nm_eq, nm_eq, nm_eq, nm_eq]
    exact hrec (a + 1)
theorem cnt_alike {σC σM : gS} (h : QA σC σM) {x : Int32} (hc : σC.1 47 1 = x) (hm : σM.1 0 36 = x) (hx : 0 ≤ x.toInt ∧ x.toInt ≤ 3) : Re (fX5_countFixed_47 σC) (fX10_controls σM) (fun a b => a = b) := by
  have h' := h
  obtain ⟨a1, a2, a3⟩ := h
  unfold fX5_countFixed_47 fX10_controls
  rw [nm_eq, nm_eq, nm_eq, nm_eq]
  have key : ∀ (d K J : Nat) (a q : Int32), d = ((σM.1 15 8).toInt - q.toInt).toNat → d < K → d < J → 0 ≤ q.toInt → q.toInt ≤ (σM.1 15 8).toInt → Re (lpc (S := Int32 × Int32) K (fun rec s => bX5_countFixed_47_4 σC (fun a1 a2 => rec (a1, a2)) s.1 s.2) (a, q)) (lpc (S := Int32 × Int32) J (fun rec s => bX10_controls_4 σM (fun a1 a2 => rec (a1, a2)) s.1 s.2) (a, q)) (fun a b => a = b) := by
    intro d
    induction d with
    | zero =>
      intro K J a q hd hK hJ h0 h1
      rw [lpc_pos hK, lpc_pos hJ]
      show Re (bX5_countFixed_47_4 σC _ a q) (bX10_controls_4 σM _ a q) _
      unfold bX5_countFixed_47_4 bX10_controls_4
      have ec : σC.1 3 ((2 : Int32).toNatClampNeg) = σM.1 15 8 := a1
      rw [q_gd (by decide), nm_eq, ec, q_bd (m_points σM), if_pos (q_le (by omega)), if_pos (q_le (by omega))]
      exact ⟨_, _, rfl, rfl, rfl⟩
    | succ d ih =>
      intro K J a q hd hK hJ h0 h1
      rw [lpc_pos (by omega), lpc_pos (by omega)]
      have e1 := i_inc (a := q) (c := 20) (by omega) (by omega) (by decide)
      exact cnt_step (a := a) (q := q) h' hc hm hx h0 (by omega) (fun a' => ih (K - 1) (J - 1) a' (q + 1) (by omega) (by omega) (by omega) (by omega) (by omega))
  have hK9 : K9 = 1048576 := rfl
  exact key (σM.1 15 8).toInt.toNat K9 K9 0 0 (by have := z0; omega) (by omega) (by omega) (by decide) (by have := z0; omega)
theorem c_14 {σC σM : gS} (h : IV σC σM) (x1 : Int32) : ∃ (oc : Int32 × gS) (om : Int32 × gS), fX9_sets σC x1 = some oc ∧ fX10_sets σM x1 = some om ∧ oc.1 = om.1 ∧ IV oc.2 om.2 := by
  obtain ⟨oc, om, eC, eM, hI⟩ := g_14 h x1
  refine ⟨oc, om, eC, eM, ?_, hI⟩
  have z0' := z0
  have l3 : (3 : Int32).toInt = 3 := by decide
  unfold fX9_sets at eC
  unfold fX10_sets at eM
  rcases lt_or x1 0 with ⟨a, a'⟩ | ⟨a, a'⟩
  · rw [if_pos a] at eC
    rcases in_32 σM x1 0 3 with ⟨b, b1, b2⟩ | ⟨b, b1⟩
    · omega
    · rw [q_bd (show fX10_isIn σM x1.toInt64 0 3 = some 0 from b), if_pos rfl] at eM
      rw [fst_so eC, fst_so eM]
  rw [if_neg a] at eC
  by_cases c : x1 ≤ 3
  · have c' := Int32.le_iff_toInt_le.mp c
    rw [if_pos c, nm_eq] at eC
    rcases in_32 σM x1 0 3 with ⟨b, b1, b2⟩ | ⟨b, b1⟩
    · rw [q_bd (show fX10_isIn σM x1.toInt64 0 3 = some 1 from b), if_neg one_ne, nm_eq] at eM
      have jC : JC (gsI σC 47 1 x1) := JC_w h.1 (Int32.le_toInt _) (Int32.toInt_le _)
      have jM : JM (gsI σM 0 36 x1) := JM_w h.2.1 (Int32.le_toInt _) (Int32.toInt_le _)
      obtain ⟨s5, e5, k5⟩ := o_fX5_placeFixed_47 jC
      obtain ⟨s6, e6, k6⟩ := o_fX10_standControls jM
      rw [q_bd e5] at eC
      rw [q_bd e6] at eM
      obtain ⟨t1, t2, t3, t4, t5⟩ := h.2.2.2.2.2.2.2
      have hn := (JM_n h.2.1).2.1
      have F5 := k5.2
      have F6 := k6.2
      have q1 : s5.1 3 = σC.1 3 := (Fr_row F5 3 (by decide)).trans (gsI_row (by decide))
      have q2 : s5.1 16 = σC.1 16 := (Fr_row F5 16 (by decide)).trans (gsI_row (by decide))
      have q3 : s6.1 15 = σM.1 15 := (Fr_row F6 15 (by decide)).trans (gsI_row (by decide))
      have q4 : s6.1 20 = σM.1 20 := (Fr_row F6 20 (by decide)).trans (gsI_row (by decide))
      have qa : QA s5 s6 := by
        unfold QA
        rw [q1, q2, q3, q4]
        exact ⟨t1 2 (by decide), hn, fun q hq => ⟨(t4 q hq).1, (t4 q hq).2.1, (t4 q hq).2.2.1⟩⟩
      obtain ⟨u, v, eu, ev, huv⟩ := cnt_alike qa (x := x1) ((F5 47 1 (by decide) (by decide)).1) ((F6 0 36 (by decide) (by decide)).1) ⟨by omega, by omega⟩
      rw [q_bd eu] at eC
      rw [q_bd ev] at eM
      rw [fst_so eC, fst_so eM, huv]
    · omega
  · have c' := q_gt c
    rw [if_neg c] at eC
    rcases in_32 σM x1 0 3 with ⟨b, b1, b2⟩ | ⟨b, b1⟩
    · omega
    · rw [q_bd (show fX10_isIn σM x1.toInt64 0 3 = some 0 from b), if_pos rfl] at eM
      rw [fst_so eC, fst_so eM]
end P12B
