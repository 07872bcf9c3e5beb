/-! comes through, m 8 -/
set_option maxRecDepth 20000 in
set_option maxHeartbeats 2000000 in
theorem o_fX10_measure {σ : gS} (hIσ : JM σ) {p1 : Int32} {p2 : Int32} {p3 : Int32}  : Ok (fX10_measure σ p1 p2 p3) (fun out => JM out.2 ∧ Fr fr_fX10_measure σ out.2 ∧ 0 ≤ out.1.toInt ∧ out.1.toInt ≤ 1) := by
  unfold fX10_measure
  have hfσ : Fr fr_fX10_measure σ σ := Fr_r
  refine ok_bd.mpr ((o_fX10_canMeasure hIσ (p1 := p1) (p2 := p2) (p3 := p3) ).mono (fun r2 ho_2 => ?_))
  obtain ⟨r0r2, r1r2, hp_3⟩ := ho_2
  refine ok_ite.mpr ⟨fun h_4 => ?_, fun h_4 => ?_⟩
  · have f5 : (0 : Int32).toInt = 0 := by decide
    have g6 : r2.toInt = (0 : Int32).toInt := by rw [h_4]
    refine ok_some.mpr ?_
    exact ⟨hIσ, hfσ, (show 0 ≤ (0 : Int32).toInt by omega), (show (0 : Int32).toInt ≤ 1 by omega)⟩
  · have f7 : (0 : Int32).toInt = 0 := by decide
    have g8 : r2.toInt ≠ (0 : Int32).toInt := fun z => h_4 (Int32.toInt_inj.mp z)
    refine ok_bd.mpr ((o_fX10_measures hIσ (p1 := p1) (p2 := p2) (p3 := p3) (by omega) (by omega)).mono (fun σ5 ho_10 => ?_))
    obtain ⟨hIσ5, hcσ5⟩ := ho_10
    have hfσ5 : Fr fr_fX10_measure σ σ5 := Fr_c hfσ hcσ5 (by decide)
    refine ok_some.mpr ?_
    have f11 : (1 : Int32).toInt = 1 := by decide
    exact ⟨hIσ5, hfσ5, (show 0 ≤ (1 : Int32).toInt by omega), (show (1 : Int32).toInt ≤ 1 by omega)⟩
theorem w9_draw {s : Int64} (h0 : 0 ≤ s.toInt) (h1 : s.toInt < 2147483648) : 0 ≤ (lrm ((1103515245 * s) + 12345) 2147483648).toInt ∧ (lrm ((1103515245 * s) + 12345) 2147483648).toInt < 2147483648 := by
  have l1 : (1103515245 : Int64).toInt = 1103515245 := by decide
  have l2 : (12345 : Int64).toInt = 12345 := by decide
  have l3 : (2147483648 : Int64).toInt = 2147483648 := by decide
  have e1 : (1103515245 * s).toInt = 1103515245 * s.toInt := by
    rw [lmul_toInt, l1]
    · rw [l1]; omega
    · rw [l1]; omega
  have e2 : (1103515245 * s + 12345).toInt = 1103515245 * s.toInt + 12345 := by
    rw [ladd_toInt, e1, l2]
    · rw [e1, l2]; omega
    · rw [e1, l2]; omega
  rw [lrm_nn (by omega) (by omega), l3]
  omega
theorem o_fX10_drawOf {σ : gS} (hIσ : JM σ) {p1 : Int32} (h0p1 : 1 ≤ p1.toInt) (h1p1 : p1.toInt ≤ 1999) (pre0 : 0 ≤ (σ.2 0 54).toInt ∧ (σ.2 0 54).toInt < 2147483648) : Ok (fX10_drawOf σ p1) (fun out => JM out.2 ∧ Fr fr_fX10_drawOf σ out.2 ∧ 0 ≤ out.1.toInt ∧ out.1.toInt ≤ 1998 ∧ out.1.toInt < p1.toInt ∧ (0 ≤ (out.2.2 0 54).toInt ∧ (out.2.2 0 54).toInt < 2147483648)) := by
  have e : p1.toInt64.toInt = p1.toInt := Int32.toInt_toInt64 _
  have z : (0 : Int64).toInt = 0 := by decide
  have hd := w9_draw pre0.1 pre0.2
  unfold fX10_drawOf
  refine ok_nm.mpr (ok_gd.mpr ⟨decide_eq_true (fun y => by rw [y] at e; omega), ok_some.mpr ?_⟩)
  have e2 : (gsL σ 0 54 (lrm ((1103515245 * (σ.2 0 54)) + 12345) 2147483648)).2 0 54 = lrm ((1103515245 * (σ.2 0 54)) + 12345) 2147483648 := by rw [gsL_2, if_pos ⟨rfl, rfl⟩]
  dsimp only
  rw [e2]
  generalize lrm ((1103515245 * (σ.2 0 54)) + 12345) 2147483648 = x at hd ⊢
  have l64 : (64 : Int64).toInt = 64 := by decide
  have d1 : (x / 64).toInt = x.toInt / 64 := by rw [ldiv_nn hd.1 (by omega), l64]
  have d2 : (lrm (x / 64) p1.toInt64).toInt = x.toInt / 64 % p1.toInt := by rw [lrm_nn (by omega) (by omega), d1, e]
  have b0 : 0 ≤ x.toInt / 64 % p1.toInt := Int.emod_nonneg _ (by omega)
  have b1 : x.toInt / 64 % p1.toInt < p1.toInt := Int.emod_lt_of_pos _ (by omega)
  have d3 : (lrm (x / 64) p1.toInt64).toInt32.toInt = x.toInt / 64 % p1.toInt := by rw [l_toInt32 (by omega) (by omega), d2]
  exact ⟨JM_l hIσ, Fr_l Fr_r (by decide), by omega, by omega, by omega, hd⟩
set_option maxRecDepth 20000 in
set_option maxHeartbeats 2000000 in
theorem o_fX10_within {σ : gS} (hIσ : JM σ) {p0 : Int32}  : Ok (fX10_within σ p0) (fun out => 0 ≤ out.toInt ∧ out.toInt ≤ 9999) := by
  unfold fX10_within
  refine ok_ite.mpr ⟨fun h_1 => ?_, fun h_1 => ?_⟩
  · have f2 : (0 : Int32).toInt = 0 := by decide
    have g3 : (0 : Int32).toInt ≤ p0.toInt := Int32.le_iff_toInt_le.mp h_1
    refine ok_ite.mpr ⟨fun h_4 => ?_, fun h_4 => ?_⟩
    · have f5 : (9999 : Int32).toInt = 9999 := by decide
      have g6 : p0.toInt ≤ (9999 : Int32).toInt := Int32.le_iff_toInt_le.mp h_4
      refine ok_some.mpr ?_
      exact ⟨(show 0 ≤ p0.toInt by omega), (show p0.toInt ≤ 9999 by omega)⟩
    · have f7 : (9999 : Int32).toInt = 9999 := by decide
      have g8 : ¬ p0.toInt ≤ (9999 : Int32).toInt := fun z => h_4 (Int32.le_iff_toInt_le.mpr z)
      refine ok_some.mpr ?_
      exact ⟨(show 0 ≤ (9999 : Int32).toInt by omega), (show (9999 : Int32).toInt ≤ 9999 by omega)⟩
  · have f9 : (0 : Int32).toInt = 0 := by decide
    have g10 : ¬ (0 : Int32).toInt ≤ p0.toInt := fun z => h_1 (Int32.le_iff_toInt_le.mpr z)
    refine ok_some.mpr ?_
    exact ⟨(show 0 ≤ (0 : Int32).toInt by omega), (show (0 : Int32).toInt ≤ 9999 by omega)⟩
theorem w9_within (σ : gS) (x : Int32) : Ok (fX10_within σ x) (fun _ => True) := by
  unfold fX10_within
  exact ok_ite.mpr ⟨fun _ => ok_ite.mpr ⟨fun _ => ok_some.mpr trivial, fun _ => ok_some.mpr trivial⟩, fun _ => ok_some.mpr trivial⟩
theorem w9_slips {σ : gS} (hIσ : JM σ) {n m : Int32} (n1 : n.toInt ≤ 60) (n0 : 1 ≤ n.toInt) (m0 : 0 ≤ m.toInt) (m1 : m.toInt ≤ 999) (hr : σ.1 15 9 ≠ 0) (s0 : 0 ≤ (σ.2 0 54).toInt ∧ (σ.2 0 54).toInt < 2147483648) : Ok (lpc (S := Int32 × gS) K9 (fun rec s => bX10_slips_46 σ n m (fun a4 σ1 => rec (a4, σ1)) s.1 s.2) (0, σ)) (fun out => JM out.2 ∧ Fr fr_fX10_slips σ out.2) := by
  refine ok_lpc (I := fun (k : Nat) (s : Int32 × gS) => k = (n.toInt - s.1.toInt).toNat ∧ 0 ≤ s.1.toInt ∧ s.1.toInt ≤ n.toInt ∧ JM s.2 ∧ Fr fr_fX10_slips σ s.2 ∧ 0 ≤ (s.2.2 0 54).toInt ∧ (s.2.2 0 54).toInt < 2147483648) (fun rec k s hs hrec => ?_) K9 n.toInt.toNat (0, σ) ⟨show n.toInt.toNat = (n.toInt - (0 : Int32).toInt).toNat by have := z0; omega, show 0 ≤ (0 : Int32).toInt by decide, show (0 : Int32).toInt ≤ n.toInt by have := z0; omega, hIσ, Fr_r, s0⟩ (by unfold K9; omega)
  obtain ⟨a, τ⟩ := s
  obtain ⟨hk, h0, h1, hI, hF, q0⟩ := hs
  dsimp only at hk h0 h1 hI hF q0 ⊢
  have e9 : τ.1 15 9 = σ.1 15 9 := (hF 15 9 (by decide) (by decide)).1
  have hn := (JM_n hI).1
  have hp : 1 ≤ (τ.1 15 9).toInt := by
    have : (τ.1 15 9).toInt ≠ 0 := fun z => hr (by rw [← e9]; exact q_of 0 (z.trans (by decide)))
    omega
  unfold bX10_slips_46
  refine ok_ite.mpr ⟨fun _ => ok_some.mpr ⟨hI, hF⟩, fun h => ?_⟩
  have ha : a.toInt < n.toInt := by
    have := q_gt h
    omega
  have e1 : (a + 1).toInt = a.toInt + 1 := i_inc (c := 60) (by omega) (by omega) (by decide)
  have l2 : (2 : Int32).toInt = 2 := by decide
  have l1 : (1 : Int32).toInt = 1 := by decide
  have l120 : (120 : Int32).toInt = 120 := by decide
  have f1 : (2 * m).toInt = 2 * m.toInt := imulc (by decide) (by omega) (by omega)
  have f2 : (2 * m + 1).toInt = (2 * m).toInt + 1 := by rw [iadd_toInt] <;> omega
  refine ok_bde (m_rows τ) ?_
  refine ok_bd2.mpr ((o_fX10_drawOf hI (p1 := τ.1 15 9) hp (by omega) q0).mono (fun o ho => ?_))
  obtain ⟨x, ρ1⟩ := o
  obtain ⟨I1, F1, x0, x1, x2, q1⟩ := ho
  dsimp only at I1 F1 x0 x1 x2 q1 ⊢
  have f3 : (2 * x).toInt = 2 * x.toInt := imulc (by decide) (by omega) (by omega)
  have f4 : (120 + 2 * x).toInt = 120 + (2 * x).toInt := by rw [iadd_toInt] <;> omega
  have f5 : (120 + 2 * x + 1).toInt = (120 + 2 * x).toInt + 1 := by rw [iadd_toInt] <;> omega
  refine ok_nm.mpr (ok_gd.mpr ⟨gb_of (by omega) (by omega), ok_nm.mpr ?_⟩)
  refine ok_bd2.mpr ((o_fX10_drawOf I1 (p1 := 2 * m + 1) (by omega) (by omega) q1).mono (fun o ho => ?_))
  obtain ⟨y, ρ2⟩ := o
  obtain ⟨I2, F2, -, -, -, q2⟩ := ho
  dsimp only at I2 F2 q2 ⊢
  refine ok_nm.mpr (ok_gd.mpr ⟨gb_of (by omega) (by omega), ok_nm.mpr ?_⟩)
  refine ok_bd2.mpr ((o_fX10_drawOf I2 (p1 := 2 * m + 1) (by omega) (by omega) q2).mono (fun o ho => ?_))
  obtain ⟨z, ρ3⟩ := o
  obtain ⟨I3, F3, -, -, -, q3⟩ := ho
  dsimp only at I3 F3 q3 ⊢
  refine ok_nm.mpr ?_
  refine ok_bd.mpr ((w9_within ρ3 _).mono (fun u _ => ok_bd.mpr ((w9_within ρ3 _).mono (fun v _ => ?_))))
  refine ok_bd.mpr ((o_fX10_measures I3 (p1 := x) (p2 := u) (p3 := v) x0 (by omega)).mono (fun ρ4 h4 => ok_nm.mpr ?_))
  have G : Fr fr_fX10_slips σ ρ4 := Fr_c (Fr_c (Fr_c (Fr_c hF F1 (by decide)) F2 (by decide)) F3 (by decide)) h4.2 (by decide)
  have q4 : ρ4.2 0 54 = ρ3.2 0 54 := (h4.2 0 54 (by decide) (by decide)).2
  exact hrec (n.toInt - (a + 1).toInt).toNat (a + 1, ρ4) (by omega) ⟨rfl, show 0 ≤ (a + 1).toInt by omega, show (a + 1).toInt ≤ n.toInt by omega, h4.1, G, by rw [q4]; exact q3.1, by rw [q4]; exact q3.2⟩
theorem o_fX10_slips {σ : gS} (hIσ : JM σ) {p1 : Int32} {p2 : Int32} {p3 : Int32}  : Ok (fX10_slips σ p1 p2 p3) (fun out => JM out.2 ∧ Fr fr_fX10_slips σ out.2) := by
  have l1 : (1 : Int64).toInt = 1 := by decide
  have l60 : (60 : Int64).toInt = 60 := by decide
  have l0 : (0 : Int64).toInt = 0 := by decide
  have l999 : (999 : Int64).toInt = 999 := by decide
  have e1 : p1.toInt64.toInt = p1.toInt := Int32.toInt_toInt64 _
  have e2 : p2.toInt64.toInt = p2.toInt := Int32.toInt_toInt64 _
  have e3 : p3.toInt64.toInt = p3.toInt := Int32.toInt_toInt64 _
  have i0 : (0 : Int32).toInt = 0 := by decide
  unfold fX10_slips
  have no : Ok (some ((-1 : Int32), σ)) (fun out => JM out.2 ∧ Fr fr_fX10_slips σ out.2) := ok_some.mpr ⟨hIσ, Fr_r⟩
  rcases m_isIn σ p1.toInt64 1 60 with ⟨h, a1, a2⟩ | ⟨h, -⟩
  · refine ok_bde h (ok_ite.mpr ⟨fun _ => no, fun _ => ?_⟩)
    rcases m_isIn σ p2.toInt64 0 999 with ⟨h, b1, b2⟩ | ⟨h, -⟩
    · refine ok_bde h (ok_ite.mpr ⟨fun _ => no, fun _ => ok_ite.mpr ⟨fun _ => no, fun h3 => ?_⟩⟩)
      have h4 : ¬ p3.toInt < (0 : Int32).toInt := fun z => h3 (Int32.lt_iff_toInt_lt.mpr z)
      refine ok_bde (m_rows σ) (ok_ite.mpr ⟨fun _ => no, fun hr => ok_nm.mpr (ok_nm.mpr ?_)⟩)
      have e : (gsL σ 0 54 p3.toInt64).2 0 54 = p3.toInt64 := by rw [gsL_2, if_pos ⟨rfl, rfl⟩]
      have h5 := i32_hi p3
      refine (w9_slips (σ := gsL σ 0 54 p3.toInt64) (JM_l hIσ) (by omega) (by omega) (by omega) (by omega) hr (by rw [e]; omega)).mono (fun o ho => ⟨ho.1, Fr_c (Fr_l Fr_r (by decide)) ho.2 (by decide)⟩)
    · exact ok_bde h (ok_ite.mpr ⟨fun _ => no, fun z => absurd rfl z⟩)
  · exact ok_bde h (ok_ite.mpr ⟨fun _ => no, fun z => absurd rfl z⟩)
set_option maxRecDepth 20000 in
set_option maxHeartbeats 2000000 in
theorem o_fX10_writes {σ : gS} (hIσ : JM σ) {p1 : Int32} (pre0 : (σ.1 0 56).toInt ≤ 377) : Ok (fX10_writes σ p1) (fun out => JM out ∧ Fr fr_fX10_writes σ out ∧ (out.1 0 56).toInt = (σ.1 0 56).toInt + 1) := by
  unfold fX10_writes
  have hfσ : Fr fr_fX10_writes σ σ := Fr_r
  have f1 : 0 ≤ (σ.1 0 56).toInt ∧ (σ.1 0 56).toInt ≤ 378 := hIσ 0 56
  refine ok_gd.mpr ⟨gb_of (by omega) (by omega), ?_⟩
  refine ok_nm2 (fun σ1 eσ1 => ?_)
  have hIσ1 : JM σ1 := by rw [eσ1]; exact JM_w hIσ (Int32.le_toInt _) (Int32.toInt_le _)
  have hfσ1 : Fr fr_fX10_writes σ σ1 := by rw [eσ1]; exact Fr_w0 hfσ (by decide)
  have sσ1_0_56 : (σ1.1 0 56).toInt = (σ.1 0 56).toInt := by rw [eσ1]; rfl
  refine ok_nm2 (fun σ2 eσ2 => ?_)
  have f2 : 0 ≤ (σ1.1 0 56).toInt ∧ (σ1.1 0 56).toInt ≤ 378 := hIσ1 0 56
  have f3 : (1 : Int32).toInt = 1 := by decide
  have f4 : ((σ1.1 0 56) + (1 : Int32)).toInt = (σ1.1 0 56).toInt + (1 : Int32).toInt := iadd_toInt (by omega) (by omega)
  have hIσ2 : JM σ2 := by rw [eσ2]; exact JM_w hIσ1 (show 0 ≤ _ by omega) (show _ ≤ 378 by omega)
  have hfσ2 : Fr fr_fX10_writes σ σ2 := by rw [eσ2]; exact Fr_w hfσ1 (by decide)
  have sσ2_0_56 : (σ2.1 0 56).toInt = ((σ1.1 0 56) + 1).toInt := by rw [eσ2]; rfl
  refine ok_some.mpr ?_
  exact ⟨hIσ2, hfσ2, (show (σ2.1 0 56).toInt = (σ.1 0 56).toInt + 1 by omega)⟩
theorem o_fX10_checked {σ : gS} (hIσ : JM σ) {p0 : Nat} {p1 : Int32} (h0p0 : 1 ≤ p0) (h1p0 : p0 ≤ 40) (h0p1 : 0 ≤ p1.toInt) (h1p1 : p1.toInt ≤ 1600) (pre0 : (p0 = 1 ∧ p1.toInt ≤ 1600) ∨ (p0 = 40 ∧ p1.toInt ≤ 400)) : Ok (fX10_checked σ p0 p1) (fun _ => True) := by
  unfold fX10_checked
  have hz : 400 ≤ gsz zM.1 0 0 p0 ∧ p1.toInt ≤ (gsz zM.1 0 0 p0 : Int) := by
    rcases pre0 with ⟨rfl, hp⟩ | ⟨rfl, hp⟩
    · have : gsz zM.1 0 0 1 = 1600 := by decide
      omega
    · have : gsz zM.1 0 0 40 = 400 := by decide
      omega
  refine ok_nm.mpr (ok_nm.mpr (ok_lpc (I := fun (n : Nat) (s : Int32 × Int32) => n = (p1.toInt - s.2.toInt).toNat ∧ 0 ≤ s.2.toInt ∧ s.2.toInt ≤ p1.toInt) (fun rec n s hs hrec => ?_) K9 p1.toInt.toNat (45, 0) ⟨show p1.toInt.toNat = (p1.toInt - (0 : Int32).toInt).toNat by have := z0; omega, show 0 ≤ (0 : Int32).toInt by decide, show (0 : Int32).toInt ≤ p1.toInt by have := z0; omega⟩ (by unfold K9; omega)))
  obtain ⟨c, a⟩ := s
  obtain ⟨hn, h0, h1⟩ := hs
  dsimp only at hn h0 h1 ⊢
  unfold bX10_checked_5
  refine ok_ite.mpr ⟨fun _ => ok_some.mpr trivial, fun h => ?_⟩
  have ha : a.toInt < p1.toInt := by
    have := q_gt h
    omega
  have e1 : (a + 1).toInt = a.toInt + 1 := i_inc (c := 1600) (by omega) (by omega) (by decide)
  exact ok_gd.mpr ⟨gb_of h0 (by omega), ok_nm.mpr (ok_nm.mpr (ok_nm.mpr (hrec (p1.toInt - (a + 1).toInt).toNat (_, a + 1) (by omega) ⟨rfl, show 0 ≤ (a + 1).toInt by omega, show (a + 1).toInt ≤ p1.toInt by omega⟩)))⟩
theorem ok_lpcS {S α : Type} {K : Nat} {B : (S → Option α) → S → Option α} {s : S} {P : α → Prop} (h : Ok (B (lpc K B) s) P) : Ok (lpc (K + 1) B s) P := h
theorem w9_w4 {ρ : gS} {c a : Int32} {L : List (Nat × Nat)} {σ : gS} {o : Int} {rec : Int32 → gS → Option gS} {P : gS → Prop} (hI : JM ρ) (hF : Fr fr_fX10_writesFour σ ρ) (ho : (ρ.1 0 56).toInt = o) (h1 : o ≤ 377) (hn : ¬ a < 0) (k : ∀ u, JM u → Fr fr_fX10_writesFour σ u → (u.1 0 56).toInt = o + 1 → Ok (rec (a + (-8)) u) P) : Ok (bX10_writesFour_3 σ c rec a ρ) P := by
  unfold bX10_writesFour_3
  refine ok_ite.mpr ⟨fun h => absurd h hn, fun _ => ok_bd.mpr ((o_fX10_writes hI (p1 := (c >>> (a &&& 31)) &&& 255) (by rw [ho]; exact h1)).mono (fun u hu => ok_nm.mpr ?_))⟩
  exact k u hu.1 (Fr_c hF hu.2.1 (by decide)) (by rw [hu.2.2, ho])
theorem o_fX10_writesFour {σ : gS} (hIσ : JM σ) {p1 : Int32} (pre0 : (σ.1 0 56).toInt ≤ 374) : Ok (fX10_writesFour σ p1) (fun out => JM out ∧ Fr fr_fX10_writesFour σ out ∧ (out.1 0 56).toInt = (σ.1 0 56).toInt + 4) := by
  unfold fX10_writesFour
  refine ok_nm.mpr ?_
  rw [show K9 = 1048571 + 1 + 1 + 1 + 1 + 1 from rfl]
  refine ok_lpcS ?_
  refine w9_w4 (σ := σ) (L := []) (a := 24) (o := (σ.1 0 56).toInt) hIσ Fr_r rfl (by omega) (by decide) (fun u1 i1 f1 o1 => ok_lpcS ?_)
  refine w9_w4 (σ := σ) (ρ := u1) (L := []) (a := 24 + (-8)) (o := (σ.1 0 56).toInt + 1) i1 f1 (by omega) (by omega) (by decide) (fun u2 i2 f2 o2 => ok_lpcS ?_)
  refine w9_w4 (σ := σ) (ρ := u2) (L := []) (a := 24 + (-8) + (-8)) (o := (σ.1 0 56).toInt + 2) i2 f2 (by omega) (by omega) (by decide) (fun u3 i3 f3 o3 => ok_lpcS ?_)
  refine w9_w4 (σ := σ) (ρ := u3) (L := []) (a := 24 + (-8) + (-8) + (-8)) (o := (σ.1 0 56).toInt + 3) i3 f3 (by omega) (by omega) (by decide) (fun u4 i4 f4 o4 => ok_lpcS ?_)
  show Ok (bX10_writesFour_3 σ p1 _ (24 + (-8) + (-8) + (-8) + (-8)) u4) _
  unfold bX10_writesFour_3
  exact ok_ite.mpr ⟨fun _ => ok_some.mpr ⟨i4, f4, by rw [o4]; omega⟩, fun h => absurd (by decide) h⟩
set_option maxRecDepth 20000 in
set_option maxHeartbeats 2000000 in
theorem o_fX10_writesPlace {σ : gS} (hIσ : JM σ) {p1 : Int32} (h0p1 : 0 ≤ p1.toInt) (h1p1 : p1.toInt ≤ 37) (pre0 : (σ.1 0 56).toInt ≤ 370) : Ok (fX10_writesPlace σ p1) (fun out => JM out ∧ Fr fr_fX10_writesPlace σ out ∧ (out.1 0 56).toInt = (σ.1 0 56).toInt + 8) := by
  unfold fX10_writesPlace
  have hfσ : Fr fr_fX10_writesPlace σ σ := Fr_r
  have f1 : 0 ≤ (σ.1 0 56).toInt ∧ (σ.1 0 56).toInt ≤ 378 := hIσ 0 56
  refine ok_gd.mpr ⟨gb_of (by omega) (by omega), ?_⟩
  refine ok_nm2 (fun v1 ev1 => ?_)
  have qv1 : v1.toInt = (σ.1 28 p1.toNatClampNeg).toInt := congrArg Int32.toInt ev1
  refine ok_bd.mpr ((o_fX10_writesFour hIσ (p1 := v1) (by omega)).mono (fun σ3 ho_3 => ?_))
  obtain ⟨hIσ3, hcσ3, hp_4⟩ := ho_3
  have hfσ3 : Fr fr_fX10_writesPlace σ σ3 := Fr_c hfσ hcσ3 (by decide)
  have f5 : (38 : Int32).toInt = 38 := by decide
  have f6 : ((38 : Int32) + p1).toInt = (38 : Int32).toInt + p1.toInt := iadd_toInt (by omega) (by omega)
  refine ok_gd.mpr ⟨gb_of (by omega) (by omega), ?_⟩
  refine ok_nm2 (fun v4 ev4 => ?_)
  have qv4 : v4.toInt = (σ3.1 28 (38 + p1).toNatClampNeg).toInt := congrArg Int32.toInt ev4
  refine ok_bd.mpr ((o_fX10_writesFour hIσ3 (p1 := v4) (by omega)).mono (fun σ6 ho_8 => ?_))
  obtain ⟨hIσ6, hcσ6, hp_9⟩ := ho_8
  have hfσ6 : Fr fr_fX10_writesPlace σ σ6 := Fr_c hfσ3 hcσ6 (by decide)
  refine ok_some.mpr ?_
  exact ⟨hIσ6, hfσ6, (show (σ6.1 0 56).toInt = (σ.1 0 56).toInt + 8 by omega)⟩
set_option maxRecDepth 20000 in
set_option maxHeartbeats 2000000 in
theorem o_fX10_image {σ : gS} (hIσ : JM σ)   : Ok (fX10_image σ ) (fun out => JM out.2 ∧ Fr fr_fX10_image σ out.2 ∧ 0 ≤ out.1.toInt ∧ out.1.toInt ≤ 378) := by
  unfold fX10_image
  have hfσ : Fr fr_fX10_image σ σ := Fr_r
  have f1 : 0 ≤ (σ.1 0 56).toInt ∧ (σ.1 0 56).toInt ≤ 378 := hIσ 0 56
  refine ok_nm2 (fun σ1 eσ1 => ?_)
  have f2 : (0 : Int32).toInt = 0 := by decide
  have hIσ1 : JM σ1 := by rw [eσ1]; exact JM_w hIσ (show 0 ≤ _ by omega) (show _ ≤ 378 by omega)
  have hfσ1 : Fr fr_fX10_image σ σ1 := by rw [eσ1]; exact Fr_w hfσ (by decide)
  have sσ1_0_36 : (σ1.1 0 36).toInt = (σ.1 0 36).toInt := by rw [eσ1]; rfl
  have sσ1_0_56 : (σ1.1 0 56).toInt = (0 : Int32).toInt := by rw [eσ1]; rfl
  refine ok_bd.mpr ((o_fX10_writes hIσ1 (p1 := (σ1.1 0 36)) (by omega)).mono (fun σ3 ho_4 => ?_))
  obtain ⟨hIσ3, hcσ3, hp_5⟩ := ho_4
  have hfσ3 : Fr fr_fX10_image σ σ3 := Fr_c hfσ1 hcσ3 (by decide)
  have sσ3_0_36 : (σ3.1 0 36).toInt = (σ1.1 0 36).toInt := by rw [(hcσ3 0 36 (by decide) (by decide)).1]
  refine ok_nm2 (fun x4 ex4 => ?_)
  have qx4 : x4.toInt = 0 := by rw [ex4]; decide
  have f6 : 0 ≤ (σ3.1 0 56).toInt ∧ (σ3.1 0 56).toInt ≤ 378 := hIσ3 0 56
  refine ok_lpc (I := fun n s => n = (12 + 1 - s.1.toInt).toNat ∧ JM s.2 ∧ Fr fr_fX10_image σ s.2 ∧ 0 ≤ s.1.toInt ∧ s.1.toInt ≤ 12 ∧ (s.2.1 0 56).toInt = 1 + 9 * s.1.toInt) (fun rec15_1r n_1 s_1 hs_1 hrec_1 => ?_) K9 ((12 + 1 - x4.toInt).toNat) (x4, σ3) ⟨rfl, hIσ3, hfσ3, (show 0 ≤ x4.toInt by omega), (show x4.toInt ≤ 12 by omega), (show (σ3.1 0 56).toInt = 1 + 9 * x4.toInt by omega)⟩ (by unfold K9; omega)
  obtain ⟨a1_1, σ1_1⟩ := s_1
  obtain ⟨hn_1, hIσ1_1, hfσ1_1, b0a1_1, b1a1_1, iv0_1⟩ := hs_1
  dsimp only at hn_1 hIσ1_1 hfσ1_1 b0a1_1 b1a1_1 iv0_1
  unfold bX10_image_15
  try dsimp only
  refine ok_bd.mpr ?_
  try unfold fX10_pictures
  have f7 : (7 : Int32).toInt = 7 := by decide
  refine ok_gd.mpr ⟨gb_of (by omega) (by omega), ?_⟩
  refine ok_nm2 (fun v1_41 ev1_41 => ?_)
  have f8 : 0 ≤ (σ1_1.1 15 7).toInt ∧ (σ1_1.1 15 7).toInt ≤ 12 := hIσ1_1 15 7
  have qv1_41 : v1_41.toInt = (σ1_1.1 15 7).toInt := congrArg Int32.toInt ev1_41
  refine ok_some.mpr ?_
  refine ok_ite.mpr ⟨fun h_9 => ?_, fun h_9 => ?_⟩
  · have g10 : v1_41.toInt ≤ a1_1.toInt := Int32.le_iff_toInt_le.mp h_9
    refine ok_nm2 (fun x8_40_42 ex8_40_42 => ?_)
    have qx8_40_42 : x8_40_42.toInt = 0 := by rw [ex8_40_42]; decide
    have f11 : 0 ≤ (σ1_1.1 0 56).toInt ∧ (σ1_1.1 0 56).toInt ≤ 378 := hIσ1_1 0 56
    refine ok_lpc (I := fun n s => n = (20 + 1 - s.1.toInt).toNat ∧ JM s.2 ∧ Fr fr_fX10_image σ s.2 ∧ 0 ≤ s.1.toInt ∧ s.1.toInt ≤ 20 ∧ (s.2.1 0 56).toInt ≤ 109 + 8 * s.1.toInt) (fun rec46_43r n_43 s_43 hs_43 hrec_43 => ?_) K9 ((20 + 1 - x8_40_42.toInt).toNat) (x8_40_42, σ1_1) ⟨rfl, hIσ1_1, hfσ1_1, (show 0 ≤ x8_40_42.toInt by omega), (show x8_40_42.toInt ≤ 20 by omega), (show (σ1_1.1 0 56).toInt ≤ 109 + 8 * x8_40_42.toInt by omega)⟩ (by unfold K9; omega)
    obtain ⟨a1_43, σ1_43⟩ := s_43
    obtain ⟨hn_43, hIσ1_43, hfσ1_43, b0a1_43, b1a1_43, iv0_43⟩ := hs_43
    dsimp only at hn_43 hIσ1_43 hfσ1_43 b0a1_43 b1a1_43 iv0_43
    unfold bX10_image_46
    try dsimp only
    refine ok_bd.mpr ?_
    try unfold fX10_points
    have f12 : (8 : Int32).toInt = 8 := by decide
    refine ok_gd.mpr ⟨gb_of (by omega) (by omega), ?_⟩
    refine ok_nm2 (fun v1_74 ev1_74 => ?_)
    have f13 : 0 ≤ (σ1_43.1 15 8).toInt ∧ (σ1_43.1 15 8).toInt ≤ 20 := hIσ1_43 15 8
    have qv1_74 : v1_74.toInt = (σ1_43.1 15 8).toInt := congrArg Int32.toInt ev1_74
    refine ok_some.mpr ?_
    refine ok_ite.mpr ⟨fun h_14 => ?_, fun h_14 => ?_⟩
    · have g15 : v1_74.toInt ≤ a1_43.toInt := Int32.le_iff_toInt_le.mp h_14
      refine ok_nm2 (fun x12_73_75 ex12_73_75 => ?_)
      have qx12_73_75 : x12_73_75.toInt = 0 := by rw [ex12_73_75]; decide
      have f16 : 0 ≤ (σ1_43.1 0 56).toInt ∧ (σ1_43.1 0 56).toInt ≤ 378 := hIσ1_43 0 56
      refine ok_lpc (I := fun n s => n = (6 + 1 - s.1.toInt).toNat ∧ JM s.2 ∧ Fr fr_fX10_image σ s.2 ∧ 0 ≤ s.1.toInt ∧ s.1.toInt ≤ 6 ∧ (s.2.1 0 56).toInt ≤ 269 + 8 * s.1.toInt) (fun rec70_76r n_76 s_76 hs_76 hrec_76 => ?_) K9 ((6 + 1 - x12_73_75.toInt).toNat) (x12_73_75, σ1_43) ⟨rfl, hIσ1_43, hfσ1_43, (show 0 ≤ x12_73_75.toInt by omega), (show x12_73_75.toInt ≤ 6 by omega), (show (σ1_43.1 0 56).toInt ≤ 269 + 8 * x12_73_75.toInt by omega)⟩ (by unfold K9; omega)
      obtain ⟨a1_76, σ1_76⟩ := s_76
      obtain ⟨hn_76, hIσ1_76, hfσ1_76, b0a1_76, b1a1_76, iv0_76⟩ := hs_76
      dsimp only at hn_76 hIσ1_76 hfσ1_76 b0a1_76 b1a1_76 iv0_76
      unfold bX10_image_70
      try dsimp only
      have f17 : (6 : Int32).toInt = 6 := by decide
      refine ok_gd.mpr ⟨gb_of (by omega) (by omega), ?_⟩
      refine ok_nm2 (fun v13_95 ev13_95 => ?_)
      have f18 : 0 ≤ (σ1_76.1 15 6).toInt ∧ (σ1_76.1 15 6).toInt ≤ 6 := hIσ1_76 15 6
      have qv13_95 : v13_95.toInt = (σ1_76.1 15 6).toInt := congrArg Int32.toInt ev13_95
      refine ok_ite.mpr ⟨fun h_19 => ?_, fun h_19 => ?_⟩
      · have g20 : v13_95.toInt ≤ a1_76.toInt := Int32.le_iff_toInt_le.mp h_19
        refine ok_nm2 (fun x15_95 ex15_95 => ?_)
        have qx15_95 : x15_95.toInt = 0 := by rw [ex15_95]; decide
        have f21 : 0 ≤ (σ1_76.1 0 56).toInt ∧ (σ1_76.1 0 56).toInt ≤ 378 := hIσ1_76 0 56
        refine ok_lpc (I := fun n s => n = (60 + 1 - s.1.toInt).toNat ∧ JM s.2 ∧ Fr fr_fX10_image σ s.2 ∧ 0 ≤ s.1.toInt ∧ s.1.toInt ≤ 60 ∧ (s.2.1 0 56).toInt ≤ 317 + s.1.toInt) (fun rec97_96r n_96 s_96 hs_96 hrec_96 => ?_) K9 ((60 + 1 - x15_95.toInt).toNat) (x15_95, σ1_76) ⟨rfl, hIσ1_76, hfσ1_76, (show 0 ≤ x15_95.toInt by omega), (show x15_95.toInt ≤ 60 by omega), (show (σ1_76.1 0 56).toInt ≤ 317 + x15_95.toInt by omega)⟩ (by unfold K9; omega)
        obtain ⟨a1_96, σ1_96⟩ := s_96
        obtain ⟨hn_96, hIσ1_96, hfσ1_96, b0a1_96, b1a1_96, iv0_96⟩ := hs_96
        dsimp only at hn_96 hIσ1_96 hfσ1_96 b0a1_96 b1a1_96 iv0_96
        unfold bX10_image_97
        try dsimp only
        refine ok_bd.mpr ?_
        try unfold fX10_rows
        have f22 : (9 : Int32).toInt = 9 := by decide
        refine ok_gd.mpr ⟨gb_of (by omega) (by omega), ?_⟩
        refine ok_nm2 (fun v1_116 ev1_116 => ?_)
        have f23 : 0 ≤ (σ1_96.1 15 9).toInt ∧ (σ1_96.1 15 9).toInt ≤ 60 := hIσ1_96 15 9
        have qv1_116 : v1_116.toInt = (σ1_96.1 15 9).toInt := congrArg Int32.toInt ev1_116
        refine ok_some.mpr ?_
        refine ok_ite.mpr ⟨fun h_24 => ?_, fun h_24 => ?_⟩
        · have g25 : v1_116.toInt ≤ a1_96.toInt := Int32.le_iff_toInt_le.mp h_24
          have f26 : 0 ≤ (σ1_96.1 0 56).toInt ∧ (σ1_96.1 0 56).toInt ≤ 378 := hIσ1_96 0 56
          refine ok_bd.mpr ((o_fX10_checked hIσ1_96 (p0 := 40) (p1 := (σ1_96.1 0 56)) (by decide) (by decide) (by omega) (by omega) (by omega)).mono (fun r20_115_117 ho_28 => ?_))
          refine ok_bd.mpr ((o_fX10_writes hIσ1_96 (p1 := r20_115_117) (by omega)).mono (fun σ22_115_117 ho_30 => ?_))
          obtain ⟨hIσ22_115_117, hcσ22_115_117, hp_31⟩ := ho_30
          have hfσ22_115_117 : Fr fr_fX10_image σ σ22_115_117 := Fr_c hfσ1_96 hcσ22_115_117 (by decide)
          have sσ22_115_117_0_36 : (σ22_115_117.1 0 36).toInt = (σ1_96.1 0 36).toInt := by rw [(hcσ22_115_117 0 36 (by decide) (by decide)).1]
          refine ok_some.mpr ?_
          have f32 : 0 ≤ (σ22_115_117.1 0 56).toInt ∧ (σ22_115_117.1 0 56).toInt ≤ 378 := hIσ22_115_117 0 56
          exact ⟨hIσ22_115_117, hfσ22_115_117, (show 0 ≤ (σ22_115_117.1 0 56).toInt by omega), (show (σ22_115_117.1 0 56).toInt ≤ 378 by omega)⟩
        · have g33 : ¬ v1_116.toInt ≤ a1_96.toInt := fun z => h_24 (Int32.le_iff_toInt_le.mpr z)
          refine ok_gd.mpr ⟨gb_of (by omega) (by omega), ?_⟩
          refine ok_nm2 (fun v23_115_117 ev23_115_117 => ?_)
          have qv23_115_117 : v23_115_117.toInt = (σ1_96.1 26 a1_96.toNatClampNeg).toInt := congrArg Int32.toInt ev23_115_117
          refine ok_ite.mpr ⟨fun h_34 => ?_, fun h_34 => ?_⟩
          · have g35 : v23_115_117.toInt = (0 : Int32).toInt := by rw [h_34]
            refine ok_bd.mpr ((o_fX10_writes hIσ1_96 (p1 := (0 : Int32)) (by omega)).mono (fun σ26_115_117 ho_37 => ?_))
            obtain ⟨hIσ26_115_117, hcσ26_115_117, hp_38⟩ := ho_37
            have hfσ26_115_117 : Fr fr_fX10_image σ σ26_115_117 := Fr_c hfσ1_96 hcσ26_115_117 (by decide)
            have sσ26_115_117_0_36 : (σ26_115_117.1 0 36).toInt = (σ1_96.1 0 36).toInt := by rw [(hcσ26_115_117 0 36 (by decide) (by decide)).1]
            refine ok_nm2 (fun x27_115_117 ex27_115_117 => ?_)
            have f39 : (1 : Int32).toInt = 1 := by decide
            have f40 : (a1_96 + (1 : Int32)).toInt = a1_96.toInt + (1 : Int32).toInt := iadd_toInt (by omega) (by omega)
            have qx27_115_117 : x27_115_117.toInt = (a1_96 + 1).toInt := congrArg Int32.toInt ex27_115_117
            have f41 : 0 ≤ (σ26_115_117.1 0 56).toInt ∧ (σ26_115_117.1 0 56).toInt ≤ 378 := hIσ26_115_117 0 56
            exact hrec_96 _ (x27_115_117, σ26_115_117) (show (60 + 1 - x27_115_117.toInt).toNat < n_96 by omega) ⟨rfl, hIσ26_115_117, hfσ26_115_117, (show 0 ≤ x27_115_117.toInt by omega), (show x27_115_117.toInt ≤ 60 by omega), (show (σ26_115_117.1 0 56).toInt ≤ 317 + x27_115_117.toInt by omega)⟩
          · have g42 : v23_115_117.toInt ≠ (0 : Int32).toInt := fun z => h_34 (Int32.toInt_inj.mp z)
            have f43 : (1 : Int32).toInt = 1 := by decide
            refine ok_bd.mpr ((o_fX10_writes hIσ1_96 (p1 := (1 : Int32)) (by omega)).mono (fun σ29_115_117 ho_45 => ?_))
            obtain ⟨hIσ29_115_117, hcσ29_115_117, hp_46⟩ := ho_45
            have hfσ29_115_117 : Fr fr_fX10_image σ σ29_115_117 := Fr_c hfσ1_96 hcσ29_115_117 (by decide)
            have sσ29_115_117_0_36 : (σ29_115_117.1 0 36).toInt = (σ1_96.1 0 36).toInt := by rw [(hcσ29_115_117 0 36 (by decide) (by decide)).1]
            refine ok_nm2 (fun x30_115_117 ex30_115_117 => ?_)
            have f47 : (a1_96 + (1 : Int32)).toInt = a1_96.toInt + (1 : Int32).toInt := iadd_toInt (by omega) (by omega)
            have qx30_115_117 : x30_115_117.toInt = (a1_96 + 1).toInt := congrArg Int32.toInt ex30_115_117
            have f48 : 0 ≤ (σ29_115_117.1 0 56).toInt ∧ (σ29_115_117.1 0 56).toInt ≤ 378 := hIσ29_115_117 0 56
            exact hrec_96 _ (x30_115_117, σ29_115_117) (show (60 + 1 - x30_115_117.toInt).toNat < n_96 by omega) ⟨rfl, hIσ29_115_117, hfσ29_115_117, (show 0 ≤ x30_115_117.toInt by omega), (show x30_115_117.toInt ≤ 60 by omega), (show (σ29_115_117.1 0 56).toInt ≤ 317 + x30_115_117.toInt by omega)⟩
      · have g49 : ¬ v13_95.toInt ≤ a1_76.toInt := fun z => h_19 (Int32.le_iff_toInt_le.mpr z)
        have f50 : (32 : Int32).toInt = 32 := by decide
        have f51 : ((32 : Int32) + a1_76).toInt = (32 : Int32).toInt + a1_76.toInt := iadd_toInt (by omega) (by omega)
        refine ok_bd.mpr ((o_fX10_writesPlace hIσ1_76 (p1 := (32 + a1_76)) (by omega) (by omega) (by omega)).mono (fun σ32_95 ho_53 => ?_))
        obtain ⟨hIσ32_95, hcσ32_95, hp_54⟩ := ho_53
        have hfσ32_95 : Fr fr_fX10_image σ σ32_95 := Fr_c hfσ1_76 hcσ32_95 (by decide)
        have sσ32_95_0_36 : (σ32_95.1 0 36).toInt = (σ1_76.1 0 36).toInt := by rw [(hcσ32_95 0 36 (by decide) (by decide)).1]
        refine ok_nm2 (fun x33_95 ex33_95 => ?_)
        have f55 : (1 : Int32).toInt = 1 := by decide
        have f56 : (a1_76 + (1 : Int32)).toInt = a1_76.toInt + (1 : Int32).toInt := iadd_toInt (by omega) (by omega)
        have qx33_95 : x33_95.toInt = (a1_76 + 1).toInt := congrArg Int32.toInt ex33_95
        have f57 : 0 ≤ (σ32_95.1 0 56).toInt ∧ (σ32_95.1 0 56).toInt ≤ 378 := hIσ32_95 0 56
        exact hrec_76 _ (x33_95, σ32_95) (show (6 + 1 - x33_95.toInt).toNat < n_76 by omega) ⟨rfl, hIσ32_95, hfσ32_95, (show 0 ≤ x33_95.toInt by omega), (show x33_95.toInt ≤ 6 by omega), (show (σ32_95.1 0 56).toInt ≤ 269 + 8 * x33_95.toInt by omega)⟩
    · have g58 : ¬ v1_74.toInt ≤ a1_43.toInt := fun z => h_14 (Int32.le_iff_toInt_le.mpr z)
      have f59 : (12 : Int32).toInt = 12 := by decide
      have f60 : ((12 : Int32) + a1_43).toInt = (12 : Int32).toInt + a1_43.toInt := iadd_toInt (by omega) (by omega)
      refine ok_bd.mpr ((o_fX10_writesPlace hIσ1_43 (p1 := (12 + a1_43)) (by omega) (by omega) (by omega)).mono (fun σ35_73_75 ho_62 => ?_))
      obtain ⟨hIσ35_73_75, hcσ35_73_75, hp_63⟩ := ho_62
      have hfσ35_73_75 : Fr fr_fX10_image σ σ35_73_75 := Fr_c hfσ1_43 hcσ35_73_75 (by decide)
      have sσ35_73_75_0_36 : (σ35_73_75.1 0 36).toInt = (σ1_43.1 0 36).toInt := by rw [(hcσ35_73_75 0 36 (by decide) (by decide)).1]
      refine ok_nm2 (fun x36_73_75 ex36_73_75 => ?_)
      have f64 : (1 : Int32).toInt = 1 := by decide
      have f65 : (a1_43 + (1 : Int32)).toInt = a1_43.toInt + (1 : Int32).toInt := iadd_toInt (by omega) (by omega)
      have qx36_73_75 : x36_73_75.toInt = (a1_43 + 1).toInt := congrArg Int32.toInt ex36_73_75
      have f66 : 0 ≤ (σ35_73_75.1 0 56).toInt ∧ (σ35_73_75.1 0 56).toInt ≤ 378 := hIσ35_73_75 0 56
      exact hrec_43 _ (x36_73_75, σ35_73_75) (show (20 + 1 - x36_73_75.toInt).toNat < n_43 by omega) ⟨rfl, hIσ35_73_75, hfσ35_73_75, (show 0 ≤ x36_73_75.toInt by omega), (show x36_73_75.toInt ≤ 20 by omega), (show (σ35_73_75.1 0 56).toInt ≤ 109 + 8 * x36_73_75.toInt by omega)⟩
  · have g67 : ¬ v1_41.toInt ≤ a1_1.toInt := fun z => h_9 (Int32.le_iff_toInt_le.mpr z)
    refine ok_gd.mpr ⟨gb_of (by omega) (by omega), ?_⟩
    refine ok_nm2 (fun v37_40_42 ev37_40_42 => ?_)
    have qv37_40_42 : v37_40_42.toInt = (σ1_1.1 27 a1_1.toNatClampNeg).toInt := congrArg Int32.toInt ev37_40_42
    refine ok_bd.mpr ((o_fX10_writes hIσ1_1 (p1 := v37_40_42) (by omega)).mono (fun σ39_40_42 ho_69 => ?_))
    obtain ⟨hIσ39_40_42, hcσ39_40_42, hp_70⟩ := ho_69
    have hfσ39_40_42 : Fr fr_fX10_image σ σ39_40_42 := Fr_c hfσ1_1 hcσ39_40_42 (by decide)
    have sσ39_40_42_0_36 : (σ39_40_42.1 0 36).toInt = (σ1_1.1 0 36).toInt := by rw [(hcσ39_40_42 0 36 (by decide) (by decide)).1]
    refine ok_bd.mpr ((o_fX10_writesPlace hIσ39_40_42 (p1 := a1_1) (by omega) (by omega) (by omega)).mono (fun σ41_40_42 ho_72 => ?_))
    obtain ⟨hIσ41_40_42, hcσ41_40_42, hp_73⟩ := ho_72
    have hfσ41_40_42 : Fr fr_fX10_image σ σ41_40_42 := Fr_c hfσ39_40_42 hcσ41_40_42 (by decide)
    have sσ41_40_42_0_36 : (σ41_40_42.1 0 36).toInt = (σ39_40_42.1 0 36).toInt := by rw [(hcσ41_40_42 0 36 (by decide) (by decide)).1]
    refine ok_nm2 (fun x42_40_42 ex42_40_42 => ?_)
    have f74 : (1 : Int32).toInt = 1 := by decide
    have f75 : (a1_1 + (1 : Int32)).toInt = a1_1.toInt + (1 : Int32).toInt := iadd_toInt (by omega) (by omega)
    have qx42_40_42 : x42_40_42.toInt = (a1_1 + 1).toInt := congrArg Int32.toInt ex42_40_42
    have f76 : 0 ≤ (σ41_40_42.1 0 56).toInt ∧ (σ41_40_42.1 0 56).toInt ≤ 378 := hIσ41_40_42 0 56
    exact hrec_1 _ (x42_40_42, σ41_40_42) (show (12 + 1 - x42_40_42.toInt).toNat < n_1 by omega) ⟨rfl, hIσ41_40_42, hfσ41_40_42, (show 0 ≤ x42_40_42.toInt by omega), (show x42_40_42.toInt ≤ 12 by omega), (show (σ41_40_42.1 0 56).toInt = 1 + 9 * x42_40_42.toInt by omega)⟩
set_option maxRecDepth 20000 in
set_option maxHeartbeats 2000000 in
theorem o_fX10_octet {σ : gS} (hIσ : JM σ) {p1 : Int32}  : Ok (fX10_octet σ p1) (fun _ => True) := by
  unfold fX10_octet
  have f1 : 0 ≤ (σ.1 0 56).toInt ∧ (σ.1 0 56).toInt ≤ 378 := hIσ 0 56
  refine ok_ite.mpr ⟨fun h_2 => ?_, fun h_2 => ?_⟩
  · have f3 : (0 : Int32).toInt = 0 := by decide
    have g4 : p1.toInt < (0 : Int32).toInt := Int32.lt_iff_toInt_lt.mp h_2
    refine ok_some.mpr ?_
    have f5 : (-1 : Int32).toInt = -1 := by decide
    exact trivial
  · have f6 : (0 : Int32).toInt = 0 := by decide
    have g7 : ¬ p1.toInt < (0 : Int32).toInt := fun z => h_2 (Int32.lt_iff_toInt_lt.mpr z)
    refine ok_ite.mpr ⟨fun h_8 => ?_, fun h_8 => ?_⟩
    · have g9 : (σ.1 0 56).toInt ≤ p1.toInt := Int32.le_iff_toInt_le.mp h_8
      refine ok_some.mpr ?_
      have f10 : (-1 : Int32).toInt = -1 := by decide
      exact trivial
    · have g11 : ¬ (σ.1 0 56).toInt ≤ p1.toInt := fun z => h_8 (Int32.le_iff_toInt_le.mpr z)
      refine ok_gd.mpr ⟨gb_of (by omega) (by omega), ?_⟩
      refine ok_nm2 (fun v3 ev3 => ?_)
      have qv3 : v3.toInt = (σ.1 40 p1.toNatClampNeg).toInt := congrArg Int32.toInt ev3
      refine ok_some.mpr ?_
      exact trivial
set_option maxRecDepth 20000 in
set_option maxHeartbeats 2000000 in
theorem o_fX10_fourAt {σ : gS} (hIσ : JM σ) {p1 : Int32} (h0p1 : 0 ≤ p1.toInt) (h1p1 : p1.toInt ≤ 1596) : Ok (fX10_fourAt σ p1) (fun _ => True) := by
  unfold fX10_fourAt
  refine ok_gd.mpr ⟨gb_of (by omega) (by omega), ?_⟩
  refine ok_nm2 (fun v1 ev1 => ?_)
  have f1 : 0 ≤ (σ.1 1 p1.toNatClampNeg).toInt ∧ (σ.1 1 p1.toNatClampNeg).toInt ≤ 255 := hIσ 1 _
  have qv1 : v1.toInt = (σ.1 1 p1.toNatClampNeg).toInt := congrArg Int32.toInt ev1
  have f2 : (1 : Int32).toInt = 1 := by decide
  have f3 : (p1 + (1 : Int32)).toInt = p1.toInt + (1 : Int32).toInt := iadd_toInt (by omega) (by omega)
  refine ok_gd.mpr ⟨gb_of (by omega) (by omega), ?_⟩
  refine ok_nm2 (fun v2 ev2 => ?_)
  have f4 : 0 ≤ (σ.1 1 (p1 + 1).toNatClampNeg).toInt ∧ (σ.1 1 (p1 + 1).toNatClampNeg).toInt ≤ 255 := hIσ 1 _
  have qv2 : v2.toInt = (σ.1 1 (p1 + 1).toNatClampNeg).toInt := congrArg Int32.toInt ev2
  have f5 : (2 : Int32).toInt = 2 := by decide
  have f6 : (p1 + (2 : Int32)).toInt = p1.toInt + (2 : Int32).toInt := iadd_toInt (by omega) (by omega)
  refine ok_gd.mpr ⟨gb_of (by omega) (by omega), ?_⟩
  refine ok_nm2 (fun v3 ev3 => ?_)
  have f7 : 0 ≤ (σ.1 1 (p1 + 2).toNatClampNeg).toInt ∧ (σ.1 1 (p1 + 2).toNatClampNeg).toInt ≤ 255 := hIσ 1 _
  have qv3 : v3.toInt = (σ.1 1 (p1 + 2).toNatClampNeg).toInt := congrArg Int32.toInt ev3
  have f8 : (3 : Int32).toInt = 3 := by decide
  have f9 : (p1 + (3 : Int32)).toInt = p1.toInt + (3 : Int32).toInt := iadd_toInt (by omega) (by omega)
  refine ok_gd.mpr ⟨gb_of (by omega) (by omega), ?_⟩
  refine ok_nm2 (fun v4 ev4 => ?_)
  have f10 : 0 ≤ (σ.1 1 (p1 + 3).toNatClampNeg).toInt ∧ (σ.1 1 (p1 + 3).toNatClampNeg).toInt ≤ 255 := hIσ 1 _
  have qv4 : v4.toInt = (σ.1 1 (p1 + 3).toNatClampNeg).toInt := congrArg Int32.toInt ev4
  refine ok_some.mpr ?_
  exact trivial
set_option maxRecDepth 20000 in
set_option maxHeartbeats 2000000 in
theorem o_fX10_canBe {σ : gS} (hIσ : JM σ) {p1 : Int32} {p2 : Int32} {p3 : Int32} {p4 : Int32} (h0p1 : 0 ≤ p1.toInt) (h1p1 : p1.toInt ≤ 1592) : Ok (fX10_canBe σ p1 p2 p3 p4) (fun out => 0 ≤ out.toInt ∧ out.toInt ≤ 1) := by
  unfold fX10_canBe
  refine ok_bd.mpr ?_
  try unfold fX10_fourAt
  refine ok_gd.mpr ⟨gb_of (by omega) (by omega), ?_⟩
  refine ok_nm2 (fun v1_1 ev1_1 => ?_)
  have f1 : 0 ≤ (σ.1 1 p1.toNatClampNeg).toInt ∧ (σ.1 1 p1.toNatClampNeg).toInt ≤ 255 := hIσ 1 _
  have qv1_1 : v1_1.toInt = (σ.1 1 p1.toNatClampNeg).toInt := congrArg Int32.toInt ev1_1
  have f2 : (1 : Int32).toInt = 1 := by decide
  have f3 : (p1 + (1 : Int32)).toInt = p1.toInt + (1 : Int32).toInt := iadd_toInt (by omega) (by omega)
  refine ok_gd.mpr ⟨gb_of (by omega) (by omega), ?_⟩
  refine ok_nm2 (fun v2_1 ev2_1 => ?_)
  have f4 : 0 ≤ (σ.1 1 (p1 + 1).toNatClampNeg).toInt ∧ (σ.1 1 (p1 + 1).toNatClampNeg).toInt ≤ 255 := hIσ 1 _
  have qv2_1 : v2_1.toInt = (σ.1 1 (p1 + 1).toNatClampNeg).toInt := congrArg Int32.toInt ev2_1
  have f5 : (2 : Int32).toInt = 2 := by decide
  have f6 : (p1 + (2 : Int32)).toInt = p1.toInt + (2 : Int32).toInt := iadd_toInt (by omega) (by omega)
  refine ok_gd.mpr ⟨gb_of (by omega) (by omega), ?_⟩
  refine ok_nm2 (fun v3_1 ev3_1 => ?_)
  have f7 : 0 ≤ (σ.1 1 (p1 + 2).toNatClampNeg).toInt ∧ (σ.1 1 (p1 + 2).toNatClampNeg).toInt ≤ 255 := hIσ 1 _
  have qv3_1 : v3_1.toInt = (σ.1 1 (p1 + 2).toNatClampNeg).toInt := congrArg Int32.toInt ev3_1
  have f8 : (3 : Int32).toInt = 3 := by decide
  have f9 : (p1 + (3 : Int32)).toInt = p1.toInt + (3 : Int32).toInt := iadd_toInt (by omega) (by omega)
  refine ok_gd.mpr ⟨gb_of (by omega) (by omega), ?_⟩
  refine ok_nm2 (fun v4_1 ev4_1 => ?_)
  have f10 : 0 ≤ (σ.1 1 (p1 + 3).toNatClampNeg).toInt ∧ (σ.1 1 (p1 + 3).toNatClampNeg).toInt ≤ 255 := hIσ 1 _
  have qv4_1 : v4_1.toInt = (σ.1 1 (p1 + 3).toNatClampNeg).toInt := congrArg Int32.toInt ev4_1
  refine ok_some.mpr ?_
  refine ok_nm2 (fun x3_2 ex3_2 => ?_)
  have qx3_2 : x3_2.toInt = ((((v1_1 <<< (24 &&& 31)) + (v2_1 <<< (16 &&& 31))) + (v3_1 <<< (8 &&& 31))) + v4_1).toInt := congrArg Int32.toInt ex3_2
  refine ok_bd.mpr ?_
  try unfold fX10_fourAt
  have f11 : (4 : Int32).toInt = 4 := by decide
  have f12 : (p1 + (4 : Int32)).toInt = p1.toInt + (4 : Int32).toInt := iadd_toInt (by omega) (by omega)
  refine ok_gd.mpr ⟨gb_of (by omega) (by omega), ?_⟩
  refine ok_nm2 (fun v1_3 ev1_3 => ?_)
  have f13 : 0 ≤ (σ.1 1 (p1 + 4).toNatClampNeg).toInt ∧ (σ.1 1 (p1 + 4).toNatClampNeg).toInt ≤ 255 := hIσ 1 _
  have qv1_3 : v1_3.toInt = (σ.1 1 (p1 + 4).toNatClampNeg).toInt := congrArg Int32.toInt ev1_3
  have f14 : ((p1 + 4) + (1 : Int32)).toInt = (p1 + 4).toInt + (1 : Int32).toInt := iadd_toInt (by omega) (by omega)
  refine ok_gd.mpr ⟨gb_of (by omega) (by omega), ?_⟩
  refine ok_nm2 (fun v2_3 ev2_3 => ?_)
  have f15 : 0 ≤ (σ.1 1 ((p1 + 4) + 1).toNatClampNeg).toInt ∧ (σ.1 1 ((p1 + 4) + 1).toNatClampNeg).toInt ≤ 255 := hIσ 1 _
  have qv2_3 : v2_3.toInt = (σ.1 1 ((p1 + 4) + 1).toNatClampNeg).toInt := congrArg Int32.toInt ev2_3
  have f16 : ((p1 + 4) + (2 : Int32)).toInt = (p1 + 4).toInt + (2 : Int32).toInt := iadd_toInt (by omega) (by omega)
  refine ok_gd.mpr ⟨gb_of (by omega) (by omega), ?_⟩
  refine ok_nm2 (fun v3_3 ev3_3 => ?_)
  have f17 : 0 ≤ (σ.1 1 ((p1 + 4) + 2).toNatClampNeg).toInt ∧ (σ.1 1 ((p1 + 4) + 2).toNatClampNeg).toInt ≤ 255 := hIσ 1 _
  have qv3_3 : v3_3.toInt = (σ.1 1 ((p1 + 4) + 2).toNatClampNeg).toInt := congrArg Int32.toInt ev3_3
  have f18 : ((p1 + 4) + (3 : Int32)).toInt = (p1 + 4).toInt + (3 : Int32).toInt := iadd_toInt (by omega) (by omega)
  refine ok_gd.mpr ⟨gb_of (by omega) (by omega), ?_⟩
  refine ok_nm2 (fun v4_3 ev4_3 => ?_)
  have f19 : 0 ≤ (σ.1 1 ((p1 + 4) + 3).toNatClampNeg).toInt ∧ (σ.1 1 ((p1 + 4) + 3).toNatClampNeg).toInt ≤ 255 := hIσ 1 _
  have qv4_3 : v4_3.toInt = (σ.1 1 ((p1 + 4) + 3).toNatClampNeg).toInt := congrArg Int32.toInt ev4_3
  refine ok_some.mpr ?_
  refine ok_nm2 (fun x6_2_4 ex6_2_4 => ?_)
  have qx6_2_4 : x6_2_4.toInt = ((((v1_3 <<< (24 &&& 31)) + (v2_3 <<< (16 &&& 31))) + (v3_3 <<< (8 &&& 31))) + v4_3).toInt := congrArg Int32.toInt ex6_2_4
  refine ok_ite.mpr ⟨fun h_20 => ?_, fun h_20 => ?_⟩
  · have f21 : (0 : Int32).toInt = 0 := by decide
    have g22 : p2.toInt = (0 : Int32).toInt := by rw [h_20]
    refine ok_bd.mpr ?_
    try unfold fX10_isIn
    refine ok_ite.mpr ⟨fun h_23 => ?_, fun h_23 => ?_⟩
    · have f24 : x3_2.toInt64.toInt = x3_2.toInt := Int32.toInt_toInt64 _
      have f25 : (-100000000 : Int64).toInt = -100000000 := by decide
      have g26 : x3_2.toInt64.toInt < (-100000000 : Int64).toInt := Int64.lt_iff_toInt_lt.mp h_23
      refine ok_some.mpr ?_
      refine ok_ite.mpr ⟨fun h_27 => ?_, fun h_27 => ?_⟩
      · have g28 : (0 : Int32).toInt = (0 : Int32).toInt := by rw [h_27]
        refine ok_some.mpr ?_
        exact ⟨(show 0 ≤ (0 : Int32).toInt by omega), (show (0 : Int32).toInt ≤ 1 by omega)⟩
      · have g29 : (0 : Int32).toInt ≠ (0 : Int32).toInt := fun z => h_27 (Int32.toInt_inj.mp z)
        exfalso
        omega
    · have f30 : x3_2.toInt64.toInt = x3_2.toInt := Int32.toInt_toInt64 _
      have f31 : (-100000000 : Int64).toInt = -100000000 := by decide
      have g32 : ¬ x3_2.toInt64.toInt < (-100000000 : Int64).toInt := fun z => h_23 (Int64.lt_iff_toInt_lt.mpr z)
      refine ok_ite.mpr ⟨fun h_33 => ?_, fun h_33 => ?_⟩
      · have f34 : (100000000 : Int64).toInt = 100000000 := by decide
        have g35 : (100000000 : Int64).toInt < x3_2.toInt64.toInt := Int64.lt_iff_toInt_lt.mp h_33
        refine ok_some.mpr ?_
        refine ok_ite.mpr ⟨fun h_36 => ?_, fun h_36 => ?_⟩
        · have g37 : (0 : Int32).toInt = (0 : Int32).toInt := by rw [h_36]
          refine ok_some.mpr ?_
          exact ⟨(show 0 ≤ (0 : Int32).toInt by omega), (show (0 : Int32).toInt ≤ 1 by omega)⟩
        · have g38 : (0 : Int32).toInt ≠ (0 : Int32).toInt := fun z => h_36 (Int32.toInt_inj.mp z)
          exfalso
          omega
      · have f39 : (100000000 : Int64).toInt = 100000000 := by decide
        have g40 : ¬ (100000000 : Int64).toInt < x3_2.toInt64.toInt := fun z => h_33 (Int64.lt_iff_toInt_lt.mpr z)
        refine ok_some.mpr ?_
        refine ok_ite.mpr ⟨fun h_41 => ?_, fun h_41 => ?_⟩
        · have g42 : (1 : Int32).toInt = (0 : Int32).toInt := by rw [h_41]
          exfalso
          omega
        · have g43 : (1 : Int32).toInt ≠ (0 : Int32).toInt := fun z => h_41 (Int32.toInt_inj.mp z)
          refine ok_bd.mpr ?_
          try unfold fX10_isIn
          refine ok_ite.mpr ⟨fun h_44 => ?_, fun h_44 => ?_⟩
          · have f45 : x6_2_4.toInt64.toInt = x6_2_4.toInt := Int32.toInt_toInt64 _
            have g46 : x6_2_4.toInt64.toInt < (-100000000 : Int64).toInt := Int64.lt_iff_toInt_lt.mp h_44
            refine ok_some.mpr ?_
            refine ok_ite.mpr ⟨fun h_47 => ?_, fun h_47 => ?_⟩
            · have g48 : (0 : Int32).toInt = (0 : Int32).toInt := by rw [h_47]
              refine ok_some.mpr ?_
              exact ⟨(show 0 ≤ (0 : Int32).toInt by omega), (show (0 : Int32).toInt ≤ 1 by omega)⟩
            · have g49 : (0 : Int32).toInt ≠ (0 : Int32).toInt := fun z => h_47 (Int32.toInt_inj.mp z)
              exfalso
              omega
          · have f50 : x6_2_4.toInt64.toInt = x6_2_4.toInt := Int32.toInt_toInt64 _
            have g51 : ¬ x6_2_4.toInt64.toInt < (-100000000 : Int64).toInt := fun z => h_44 (Int64.lt_iff_toInt_lt.mpr z)
            refine ok_ite.mpr ⟨fun h_52 => ?_, fun h_52 => ?_⟩
            · have g53 : (100000000 : Int64).toInt < x6_2_4.toInt64.toInt := Int64.lt_iff_toInt_lt.mp h_52
              refine ok_some.mpr ?_
              refine ok_ite.mpr ⟨fun h_54 => ?_, fun h_54 => ?_⟩
              · have g55 : (0 : Int32).toInt = (0 : Int32).toInt := by rw [h_54]
                refine ok_some.mpr ?_
                exact ⟨(show 0 ≤ (0 : Int32).toInt by omega), (show (0 : Int32).toInt ≤ 1 by omega)⟩
              · have g56 : (0 : Int32).toInt ≠ (0 : Int32).toInt := fun z => h_54 (Int32.toInt_inj.mp z)
                exfalso
                omega
            · have g57 : ¬ (100000000 : Int64).toInt < x6_2_4.toInt64.toInt := fun z => h_52 (Int64.lt_iff_toInt_lt.mpr z)
              refine ok_some.mpr ?_
              refine ok_ite.mpr ⟨fun h_58 => ?_, fun h_58 => ?_⟩
              · have g59 : (1 : Int32).toInt = (0 : Int32).toInt := by rw [h_58]
                exfalso
                omega
              · have g60 : (1 : Int32).toInt ≠ (0 : Int32).toInt := fun z => h_58 (Int32.toInt_inj.mp z)
                refine ok_some.mpr ?_
                exact ⟨(show 0 ≤ (1 : Int32).toInt by omega), (show (1 : Int32).toInt ≤ 1 by omega)⟩
  · have f61 : (0 : Int32).toInt = 0 := by decide
    have g62 : p2.toInt ≠ (0 : Int32).toInt := fun z => h_20 (Int32.toInt_inj.mp z)
    refine ok_ite.mpr ⟨fun h_63 => ?_, fun h_63 => ?_⟩
    · have g64 : x3_2.toInt = p3.toInt := by rw [h_63]
      refine ok_ite.mpr ⟨fun h_65 => ?_, fun h_65 => ?_⟩
      · have g66 : x6_2_4.toInt = p4.toInt := by rw [h_65]
        refine ok_some.mpr ?_
        exact ⟨(show 0 ≤ (1 : Int32).toInt by omega), (show (1 : Int32).toInt ≤ 1 by omega)⟩
      · have g67 : x6_2_4.toInt ≠ p4.toInt := fun z => h_65 (Int32.toInt_inj.mp z)
        refine ok_some.mpr ?_
        exact ⟨(show 0 ≤ (0 : Int32).toInt by omega), (show (0 : Int32).toInt ≤ 1 by omega)⟩
    · have g68 : x3_2.toInt ≠ p3.toInt := fun z => h_63 (Int32.toInt_inj.mp z)
      refine ok_some.mpr ?_
      exact ⟨(show 0 ≤ (0 : Int32).toInt by omega), (show (0 : Int32).toInt ≤ 1 by omega)⟩
set_option maxRecDepth 20000 in
set_option maxHeartbeats 2000000 in
theorem o_fX10_isTold {σ : gS} (hIσ : JM σ) {p1 : Int32} (h0p1 : 0 ≤ p1.toInt) (h1p1 : p1.toInt ≤ 1600) : Ok (fX10_isTold σ p1) (fun out => 0 ≤ out.toInt ∧ out.toInt ≤ 1) := by
  unfold fX10_isTold
  have f1 : (6 : Int32).toInt = 6 := by decide
  refine ok_gd.mpr ⟨gb_of (by omega) (by omega), ?_⟩
  refine ok_nm2 (fun v1 ev1 => ?_)
  have f2 : 0 ≤ (σ.1 15 6).toInt ∧ (σ.1 15 6).toInt ≤ 6 := hIσ 15 6
  have qv1 : v1.toInt = (σ.1 15 6).toInt := congrArg Int32.toInt ev1
  refine ok_nm.mpr ?_
  refine ok_bd.mpr ?_
  try unfold fX10_pictures
  have f3 : (7 : Int32).toInt = 7 := by decide
  refine ok_gd.mpr ⟨gb_of (by omega) (by omega), ?_⟩
  refine ok_nm2 (fun v1_2 ev1_2 => ?_)
  have f4 : 0 ≤ (σ.1 15 7).toInt ∧ (σ.1 15 7).toInt ≤ 12 := hIσ 15 7
  have qv1_2 : v1_2.toInt = (σ.1 15 7).toInt := congrArg Int32.toInt ev1_2
  refine ok_some.mpr ?_
  refine ok_bd.mpr ?_
  try unfold fX10_points
  have f5 : (8 : Int32).toInt = 8 := by decide
  refine ok_gd.mpr ⟨gb_of (by omega) (by omega), ?_⟩
  refine ok_nm2 (fun v1_4 ev1_4 => ?_)
  have f6 : 0 ≤ (σ.1 15 8).toInt ∧ (σ.1 15 8).toInt ≤ 20 := hIσ 15 8
  have qv1_4 : v1_4.toInt = (σ.1 15 8).toInt := congrArg Int32.toInt ev1_4
  refine ok_some.mpr ?_
  refine ok_bd.mpr ?_
  try unfold fX10_rows
  have f7 : (9 : Int32).toInt = 9 := by decide
  refine ok_gd.mpr ⟨gb_of (by omega) (by omega), ?_⟩
  refine ok_nm2 (fun v1_6 ev1_6 => ?_)
  have f8 : 0 ≤ (σ.1 15 9).toInt ∧ (σ.1 15 9).toInt ≤ 60 := hIσ 15 9
  have qv1_6 : v1_6.toInt = (σ.1 15 9).toInt := congrArg Int32.toInt ev1_6
  refine ok_some.mpr ?_
  refine ok_ite.mpr ⟨fun h_9 => ?_, fun h_9 => ?_⟩
  · have f10 : (2 : Int32).toInt = 2 := by decide
    have f11 : ((9 : Int32) * v1_2).toInt = 9 * v1_2.toInt := imulc (by decide) (by omega) (by omega)
    have f12 : ((2 : Int32) + (9 * v1_2)).toInt = (2 : Int32).toInt + (9 * v1_2).toInt := iadd_toInt (by omega) (by omega)
    have f13 : ((8 : Int32) * v1_4).toInt = 8 * v1_4.toInt := imulc (by decide) (by omega) (by omega)
    have f14 : ((2 + (9 * v1_2)) + (8 * v1_4)).toInt = (2 + (9 * v1_2)).toInt + (8 * v1_4).toInt := iadd_toInt (by omega) (by omega)
    have f15 : ((8 : Int32) * v1).toInt = 8 * v1.toInt := imulc (by decide) (by omega) (by omega)
    have f16 : (((2 + (9 * v1_2)) + (8 * v1_4)) + (8 * v1)).toInt = ((2 + (9 * v1_2)) + (8 * v1_4)).toInt + (8 * v1).toInt := iadd_toInt (by omega) (by omega)
    have f17 : ((((2 + (9 * v1_2)) + (8 * v1_4)) + (8 * v1)) + v1_6).toInt = (((2 + (9 * v1_2)) + (8 * v1_4)) + (8 * v1)).toInt + v1_6.toInt := iadd_toInt (by omega) (by omega)
    have g18 : p1.toInt = ((((2 + (9 * v1_2)) + (8 * v1_4)) + (8 * v1)) + v1_6).toInt := by rw [h_9]
    have f19 : (1 : Int32).toInt = 1 := by decide
    have f20 : (p1 - (1 : Int32)).toInt = p1.toInt - (1 : Int32).toInt := isub_toInt (by omega) (by omega)
    refine ok_gd.mpr ⟨gb_of (by omega) (by omega), ?_⟩
    refine ok_nm2 (fun v10_1_3_5_7 ev10_1_3_5_7 => ?_)
    have f21 : 0 ≤ (σ.1 1 (p1 - 1).toNatClampNeg).toInt ∧ (σ.1 1 (p1 - 1).toNatClampNeg).toInt ≤ 255 := hIσ 1 _
    have qv10_1_3_5_7 : v10_1_3_5_7.toInt = (σ.1 1 (p1 - 1).toNatClampNeg).toInt := congrArg Int32.toInt ev10_1_3_5_7
    refine ok_bd.mpr ((o_fX10_checked hIσ (p0 := 1) (p1 := (p1 - 1)) (by decide) (by decide) (by omega) (by omega) (by omega)).mono (fun r12_1_3_5_7 ho_23 => ?_))
    refine ok_ite.mpr ⟨fun h_24 => ?_, fun h_24 => ?_⟩
    · have g25 : v10_1_3_5_7.toInt = r12_1_3_5_7.toInt := by rw [h_24]
      have f26 : (0 : Int32).toInt = 0 := by decide
      refine ok_gd.mpr ⟨gb_of (by omega) (by omega), ?_⟩
      refine ok_nm2 (fun v14_1_3_5_7 ev14_1_3_5_7 => ?_)
      have f27 : 0 ≤ (σ.1 1 0).toInt ∧ (σ.1 1 0).toInt ≤ 255 := hIσ 1 _
      have qv14_1_3_5_7 : v14_1_3_5_7.toInt = (σ.1 1 0).toInt := congrArg Int32.toInt ev14_1_3_5_7
      refine ok_ite.mpr ⟨fun h_28 => ?_, fun h_28 => ?_⟩
      · have f29 : (3 : Int32).toInt = 3 := by decide
        have g30 : v14_1_3_5_7.toInt ≤ (3 : Int32).toInt := Int32.le_iff_toInt_le.mp h_28
        refine ok_nm2 (fun x16_1_3_5_7 ex16_1_3_5_7 => ?_)
        have qx16_1_3_5_7 : x16_1_3_5_7.toInt = 1 := by rw [ex16_1_3_5_7]; decide
        refine ok_nm2 (fun x17_1_3_5_7 ex17_1_3_5_7 => ?_)
        have qx17_1_3_5_7 : x17_1_3_5_7.toInt = 0 := by rw [ex17_1_3_5_7]; decide
        refine ok_lpc (I := fun n s => n = (12 + 1 - s.2.toInt).toNat ∧ 1 ≤ s.1.toInt ∧ s.1.toInt ≤ 109 ∧ 0 ≤ s.2.toInt ∧ s.2.toInt ≤ 12 ∧ s.1.toInt = 1 + 9 * s.2.toInt) (fun rec77_8r n_8 s_8 hs_8 hrec_8 => ?_) K9 ((12 + 1 - x17_1_3_5_7.toInt).toNat) (x16_1_3_5_7, x17_1_3_5_7) ⟨rfl, (show 1 ≤ x16_1_3_5_7.toInt by omega), (show x16_1_3_5_7.toInt ≤ 109 by omega), (show 0 ≤ x17_1_3_5_7.toInt by omega), (show x17_1_3_5_7.toInt ≤ 12 by omega), (show x16_1_3_5_7.toInt = 1 + 9 * x17_1_3_5_7.toInt by omega)⟩ (by unfold K9; omega)
        obtain ⟨a3_8, a4_8⟩ := s_8
        obtain ⟨hn_8, b0a3_8, b1a3_8, b0a4_8, b1a4_8, iv0_8⟩ := hs_8
        dsimp only at hn_8 b0a3_8 b1a3_8 b0a4_8 b1a4_8 iv0_8
        unfold bX10_isTold_77
        try dsimp only
        refine ok_bd.mpr ?_
        try unfold fX10_pictures
        refine ok_gd.mpr ⟨gb_of (by omega) (by omega), ?_⟩
        refine ok_nm2 (fun v1_50 ev1_50 => ?_)
        have qv1_50 : v1_50.toInt = (σ.1 15 7).toInt := congrArg Int32.toInt ev1_50
        refine ok_some.mpr ?_
        refine ok_ite.mpr ⟨fun h_31 => ?_, fun h_31 => ?_⟩
        · have g32 : v1_50.toInt ≤ a4_8.toInt := Int32.le_iff_toInt_le.mp h_31
          refine ok_nm2 (fun x21_47_51 ex21_47_51 => ?_)
          have qx21_47_51 : x21_47_51.toInt = 0 := by rw [ex21_47_51]; decide
          refine ok_lpc (I := fun n s => n = (20 + 1 - s.2.toInt).toNat ∧ 1 ≤ s.1.toInt ∧ s.1.toInt ≤ 269 ∧ 0 ≤ s.2.toInt ∧ s.2.toInt ≤ 20 ∧ s.1.toInt ≤ 109 + 8 * s.2.toInt) (fun rec152_52r n_52 s_52 hs_52 hrec_52 => ?_) K9 ((20 + 1 - x21_47_51.toInt).toNat) (a3_8, x21_47_51) ⟨rfl, (show 1 ≤ a3_8.toInt by omega), (show a3_8.toInt ≤ 269 by omega), (show 0 ≤ x21_47_51.toInt by omega), (show x21_47_51.toInt ≤ 20 by omega), (show a3_8.toInt ≤ 109 + 8 * x21_47_51.toInt by omega)⟩ (by unfold K9; omega)
          obtain ⟨a3_52, a4_52⟩ := s_52
          obtain ⟨hn_52, b0a3_52, b1a3_52, b0a4_52, b1a4_52, iv0_52⟩ := hs_52
          dsimp only at hn_52 b0a3_52 b1a3_52 b0a4_52 b1a4_52 iv0_52
          unfold bX10_isTold_152
          try dsimp only
          refine ok_bd.mpr ?_
          try unfold fX10_points
          refine ok_gd.mpr ⟨gb_of (by omega) (by omega), ?_⟩
          refine ok_nm2 (fun v1_86 ev1_86 => ?_)
          have qv1_86 : v1_86.toInt = (σ.1 15 8).toInt := congrArg Int32.toInt ev1_86
          refine ok_some.mpr ?_
          refine ok_ite.mpr ⟨fun h_33 => ?_, fun h_33 => ?_⟩
          · have g34 : v1_86.toInt ≤ a4_52.toInt := Int32.le_iff_toInt_le.mp h_33
            refine ok_nm2 (fun x25_82_87 ex25_82_87 => ?_)
            have qx25_82_87 : x25_82_87.toInt = 0 := by rw [ex25_82_87]; decide
            refine ok_lpc (I := fun n s => n = (6 + 1 - s.2.toInt).toNat ∧ 1 ≤ s.1.toInt ∧ s.1.toInt ≤ 317 ∧ 0 ≤ s.2.toInt ∧ s.2.toInt ≤ 6 ∧ s.1.toInt ≤ 269 + 8 * s.2.toInt) (fun rec256_88r n_88 s_88 hs_88 hrec_88 => ?_) K9 ((6 + 1 - x25_82_87.toInt).toNat) (a3_52, x25_82_87) ⟨rfl, (show 1 ≤ a3_52.toInt by omega), (show a3_52.toInt ≤ 317 by omega), (show 0 ≤ x25_82_87.toInt by omega), (show x25_82_87.toInt ≤ 6 by omega), (show a3_52.toInt ≤ 269 + 8 * x25_82_87.toInt by omega)⟩ (by unfold K9; omega)
            obtain ⟨a3_88, a4_88⟩ := s_88
            obtain ⟨hn_88, b0a3_88, b1a3_88, b0a4_88, b1a4_88, iv0_88⟩ := hs_88
            dsimp only at hn_88 b0a3_88 b1a3_88 b0a4_88 b1a4_88 iv0_88
            unfold bX10_isTold_256
            try dsimp only
            refine ok_ite.mpr ⟨fun h_35 => ?_, fun h_35 => ?_⟩
            · have g36 : v1.toInt ≤ a4_88.toInt := Int32.le_iff_toInt_le.mp h_35
              refine ok_nm2 (fun x27_107 ex27_107 => ?_)
              have qx27_107 : x27_107.toInt = 0 := by rw [ex27_107]; decide
              refine ok_lpc (I := fun n s => n = (60 + 1 - s.toInt).toNat ∧ 0 ≤ s.toInt ∧ s.toInt ≤ 60) (fun rec300_110r n_110 s_110 hs_110 hrec_110 => ?_) K9 ((60 + 1 - x27_107.toInt).toNat) x27_107 ⟨rfl, (show 0 ≤ x27_107.toInt by omega), (show x27_107.toInt ≤ 60 by omega)⟩ (by unfold K9; omega)
              obtain ⟨a4_110, hq_110⟩ : ∃ y, y = s_110 := ⟨_, rfl⟩
              subst hq_110
              obtain ⟨hn_110, b0a4_110, b1a4_110⟩ := hs_110
              skip
              unfold bX10_isTold_300
              try dsimp only
              refine ok_bd.mpr ?_
              try unfold fX10_rows
              refine ok_gd.mpr ⟨gb_of (by omega) (by omega), ?_⟩
              refine ok_nm2 (fun v1_130 ev1_130 => ?_)
              have qv1_130 : v1_130.toInt = (σ.1 15 9).toInt := congrArg Int32.toInt ev1_130
              refine ok_some.mpr ?_
              refine ok_ite.mpr ⟨fun h_37 => ?_, fun h_37 => ?_⟩
              · have g38 : v1_130.toInt ≤ a4_110.toInt := Int32.le_iff_toInt_le.mp h_37
                refine ok_some.mpr ?_
                exact ⟨(show 0 ≤ (1 : Int32).toInt by omega), (show (1 : Int32).toInt ≤ 1 by omega)⟩
              · have g39 : ¬ v1_130.toInt ≤ a4_110.toInt := fun z => h_37 (Int32.le_iff_toInt_le.mpr z)
                have f40 : (a3_88 + a4_110).toInt = a3_88.toInt + a4_110.toInt := iadd_toInt (by omega) (by omega)
                refine ok_gd.mpr ⟨gb_of (by omega) (by omega), ?_⟩
                refine ok_nm2 (fun v31_129_131 ev31_129_131 => ?_)
                have f41 : 0 ≤ (σ.1 1 (a3_88 + a4_110).toNatClampNeg).toInt ∧ (σ.1 1 (a3_88 + a4_110).toNatClampNeg).toInt ≤ 255 := hIσ 1 _
                have qv31_129_131 : v31_129_131.toInt = (σ.1 1 (a3_88 + a4_110).toNatClampNeg).toInt := congrArg Int32.toInt ev31_129_131
                refine ok_ite.mpr ⟨fun h_42 => ?_, fun h_42 => ?_⟩
                · have g43 : v31_129_131.toInt ≤ (1 : Int32).toInt := Int32.le_iff_toInt_le.mp h_42
                  refine ok_nm2 (fun x33_129_131 ex33_129_131 => ?_)
                  have f44 : (a4_110 + (1 : Int32)).toInt = a4_110.toInt + (1 : Int32).toInt := iadd_toInt (by omega) (by omega)
                  have qx33_129_131 : x33_129_131.toInt = (a4_110 + 1).toInt := congrArg Int32.toInt ex33_129_131
                  exact hrec_110 _ x33_129_131 (show (60 + 1 - x33_129_131.toInt).toNat < n_110 by omega) ⟨rfl, (show 0 ≤ x33_129_131.toInt by omega), (show x33_129_131.toInt ≤ 60 by omega)⟩
                · have g45 : ¬ v31_129_131.toInt ≤ (1 : Int32).toInt := fun z => h_42 (Int32.le_iff_toInt_le.mpr z)
                  refine ok_some.mpr ?_
                  exact ⟨(show 0 ≤ (0 : Int32).toInt by omega), (show (0 : Int32).toInt ≤ 1 by omega)⟩
            · have g46 : ¬ v1.toInt ≤ a4_88.toInt := fun z => h_35 (Int32.le_iff_toInt_le.mpr z)
              refine ok_bd.mpr ((o_fX10_hasDrift hIσ (p1 := a4_88) (by omega) (by omega)).mono (fun r35_107 ho_48 => ?_))
              obtain ⟨r0r35_107, r1r35_107⟩ := ho_48
              refine ok_ite.mpr ⟨fun h_49 => ?_, fun h_49 => ?_⟩
              · have g50 : r35_107.toInt = (0 : Int32).toInt := by rw [h_49]
                try unfold jX10_isTold_278
                refine ok_bd.mpr ((o_fX10_canBe hIσ (p1 := a3_88) (p2 := (1 : Int32)) (p3 := (0 : Int32)) (p4 := (0 : Int32)) (by omega) (by omega)).mono (fun r38_132 ho_52 => ?_))
                obtain ⟨r0r38_132, r1r38_132⟩ := ho_52
                refine ok_ite.mpr ⟨fun h_53 => ?_, fun h_53 => ?_⟩
                · have g54 : r38_132.toInt = (0 : Int32).toInt := by rw [h_53]
                  refine ok_some.mpr ?_
                  exact ⟨(show 0 ≤ (0 : Int32).toInt by omega), (show (0 : Int32).toInt ≤ 1 by omega)⟩
                · have g55 : r38_132.toInt ≠ (0 : Int32).toInt := fun z => h_53 (Int32.toInt_inj.mp z)
                  refine ok_nm2 (fun x40_132 ex40_132 => ?_)
                  have f56 : (a3_88 + (8 : Int32)).toInt = a3_88.toInt + (8 : Int32).toInt := iadd_toInt (by omega) (by omega)
                  have qx40_132 : x40_132.toInt = (a3_88 + 8).toInt := congrArg Int32.toInt ex40_132
                  refine ok_nm2 (fun x41_132 ex41_132 => ?_)
                  have f57 : (a4_88 + (1 : Int32)).toInt = a4_88.toInt + (1 : Int32).toInt := iadd_toInt (by omega) (by omega)
                  have qx41_132 : x41_132.toInt = (a4_88 + 1).toInt := congrArg Int32.toInt ex41_132
                  exact hrec_88 _ (x40_132, x41_132) (show (6 + 1 - x41_132.toInt).toNat < n_88 by omega) ⟨rfl, (show 1 ≤ x40_132.toInt by omega), (show x40_132.toInt ≤ 317 by omega), (show 0 ≤ x41_132.toInt by omega), (show x41_132.toInt ≤ 6 by omega), (show x40_132.toInt ≤ 269 + 8 * x41_132.toInt by omega)⟩
              · have g58 : r35_107.toInt ≠ (0 : Int32).toInt := fun z => h_49 (Int32.toInt_inj.mp z)
                try unfold jX10_isTold_278
                refine ok_bd.mpr ((o_fX10_canBe hIσ (p1 := a3_88) (p2 := (0 : Int32)) (p3 := (0 : Int32)) (p4 := (0 : Int32)) (by omega) (by omega)).mono (fun r38_133 ho_60 => ?_))
                obtain ⟨r0r38_133, r1r38_133⟩ := ho_60
                refine ok_ite.mpr ⟨fun h_61 => ?_, fun h_61 => ?_⟩
                · have g62 : r38_133.toInt = (0 : Int32).toInt := by rw [h_61]
                  refine ok_some.mpr ?_
                  exact ⟨(show 0 ≤ (0 : Int32).toInt by omega), (show (0 : Int32).toInt ≤ 1 by omega)⟩
                · have g63 : r38_133.toInt ≠ (0 : Int32).toInt := fun z => h_61 (Int32.toInt_inj.mp z)
                  refine ok_nm2 (fun x40_133 ex40_133 => ?_)
                  have f64 : (a3_88 + (8 : Int32)).toInt = a3_88.toInt + (8 : Int32).toInt := iadd_toInt (by omega) (by omega)
                  have qx40_133 : x40_133.toInt = (a3_88 + 8).toInt := congrArg Int32.toInt ex40_133
                  refine ok_nm2 (fun x41_133 ex41_133 => ?_)
                  have f65 : (a4_88 + (1 : Int32)).toInt = a4_88.toInt + (1 : Int32).toInt := iadd_toInt (by omega) (by omega)
                  have qx41_133 : x41_133.toInt = (a4_88 + 1).toInt := congrArg Int32.toInt ex41_133
                  exact hrec_88 _ (x40_133, x41_133) (show (6 + 1 - x41_133.toInt).toNat < n_88 by omega) ⟨rfl, (show 1 ≤ x40_133.toInt by omega), (show x40_133.toInt ≤ 317 by omega), (show 0 ≤ x41_133.toInt by omega), (show x41_133.toInt ≤ 6 by omega), (show x40_133.toInt ≤ 269 + 8 * x41_133.toInt by omega)⟩
          · have g66 : ¬ v1_86.toInt ≤ a4_52.toInt := fun z => h_33 (Int32.le_iff_toInt_le.mpr z)
            have f67 : (20 : Int32).toInt = 20 := by decide
            have f68 : ((20 : Int32) + a4_52).toInt = (20 : Int32).toInt + a4_52.toInt := iadd_toInt (by omega) (by omega)
            refine ok_gd.mpr ⟨gb_of (by omega) (by omega), ?_⟩
            refine ok_nm2 (fun v42_82_87 ev42_82_87 => ?_)
            have qv42_82_87 : v42_82_87.toInt = (σ.1 20 (20 + a4_52).toNatClampNeg).toInt := congrArg Int32.toInt ev42_82_87
            refine ok_nm.mpr ?_
            refine ok_ite.mpr ⟨fun h_69 => ?_, fun h_69 => ?_⟩
            · have g70 : v42_82_87.toInt = (0 : Int32).toInt := by rw [h_69]
              try unfold jX10_isTold_200
              refine ok_nm2 (fun x45_135 ex45_135 => ?_)
              have qx45_135 : x45_135.toInt = 0 := by rw [ex45_135]; decide
              have f71 : (40 : Int32).toInt = 40 := by decide
              have f72 : ((2 : Int32) * a4_52).toInt = 2 * a4_52.toInt := imulc (by decide) (by omega) (by omega)
              have f73 : ((40 : Int32) + (2 * a4_52)).toInt = (40 : Int32).toInt + (2 * a4_52).toInt := iadd_toInt (by omega) (by omega)
              refine ok_gd.mpr ⟨gb_of (by omega) (by omega), ?_⟩
              refine ok_nm2 (fun v46_135 ev46_135 => ?_)
              have qv46_135 : v46_135.toInt = (σ.1 21 (40 + (2 * a4_52)).toNatClampNeg).toInt := congrArg Int32.toInt ev46_135
              have f74 : (41 : Int32).toInt = 41 := by decide
              have f75 : ((41 : Int32) + (2 * a4_52)).toInt = (41 : Int32).toInt + (2 * a4_52).toInt := iadd_toInt (by omega) (by omega)
              refine ok_gd.mpr ⟨gb_of (by omega) (by omega), ?_⟩
              refine ok_nm2 (fun v47_135 ev47_135 => ?_)
              have qv47_135 : v47_135.toInt = (σ.1 21 (41 + (2 * a4_52)).toNatClampNeg).toInt := congrArg Int32.toInt ev47_135
              have f76 : (100 : Int32).toInt = 100 := by decide
              refine ok_bd.mpr ((o_fX10_canBe hIσ (p1 := a3_52) (p2 := x45_135) (p3 := (100 * v46_135)) (p4 := (100 * v47_135)) (by omega) (by omega)).mono (fun r49_135 ho_78 => ?_))
              obtain ⟨r0r49_135, r1r49_135⟩ := ho_78
              refine ok_ite.mpr ⟨fun h_79 => ?_, fun h_79 => ?_⟩
              · have g80 : r49_135.toInt = (0 : Int32).toInt := by rw [h_79]
                refine ok_some.mpr ?_
                exact ⟨(show 0 ≤ (0 : Int32).toInt by omega), (show (0 : Int32).toInt ≤ 1 by omega)⟩
              · have g81 : r49_135.toInt ≠ (0 : Int32).toInt := fun z => h_79 (Int32.toInt_inj.mp z)
                refine ok_nm2 (fun x51_135 ex51_135 => ?_)
                have f82 : (a3_52 + (8 : Int32)).toInt = a3_52.toInt + (8 : Int32).toInt := iadd_toInt (by omega) (by omega)
                have qx51_135 : x51_135.toInt = (a3_52 + 8).toInt := congrArg Int32.toInt ex51_135
                refine ok_nm2 (fun x52_135 ex52_135 => ?_)
                have f83 : (a4_52 + (1 : Int32)).toInt = a4_52.toInt + (1 : Int32).toInt := iadd_toInt (by omega) (by omega)
                have qx52_135 : x52_135.toInt = (a4_52 + 1).toInt := congrArg Int32.toInt ex52_135
                exact hrec_52 _ (x51_135, x52_135) (show (20 + 1 - x52_135.toInt).toNat < n_52 by omega) ⟨rfl, (show 1 ≤ x51_135.toInt by omega), (show x51_135.toInt ≤ 269 by omega), (show 0 ≤ x52_135.toInt by omega), (show x52_135.toInt ≤ 20 by omega), (show x51_135.toInt ≤ 109 + 8 * x52_135.toInt by omega)⟩
            · have g84 : v42_82_87.toInt ≠ (0 : Int32).toInt := fun z => h_69 (Int32.toInt_inj.mp z)
              refine ok_gd.mpr ⟨gb_of (by omega) (by omega), ?_⟩
              refine ok_nm2 (fun v53_82_87_134 ev53_82_87_134 => ?_)
              have qv53_82_87_134 : v53_82_87_134.toInt = (σ.1 1 0).toInt := congrArg Int32.toInt ev53_82_87_134
              refine ok_ite.mpr ⟨fun h_85 => ?_, fun h_85 => ?_⟩
              · have f86 : 0 ≤ ((v53_82_87_134 >>> ((v42_82_87 - 1) &&& 31)) &&& 1).toInt ∧ ((v53_82_87_134 >>> ((v42_82_87 - 1) &&& 31)) &&& 1).toInt ≤ 1 := iand_toInt (by decide) (by decide)
                have g87 : ((v53_82_87_134 >>> ((v42_82_87 - 1) &&& 31)) &&& 1).toInt = (1 : Int32).toInt := by rw [h_85]
                try unfold jX10_isTold_200
                refine ok_nm2 (fun x45_136 ex45_136 => ?_)
                have qx45_136 : x45_136.toInt = 1 := by rw [ex45_136]; decide
                have f88 : (40 : Int32).toInt = 40 := by decide
                have f89 : ((2 : Int32) * a4_52).toInt = 2 * a4_52.toInt := imulc (by decide) (by omega) (by omega)
                have f90 : ((40 : Int32) + (2 * a4_52)).toInt = (40 : Int32).toInt + (2 * a4_52).toInt := iadd_toInt (by omega) (by omega)
                refine ok_gd.mpr ⟨gb_of (by omega) (by omega), ?_⟩
                refine ok_nm2 (fun v46_136 ev46_136 => ?_)
                have qv46_136 : v46_136.toInt = (σ.1 21 (40 + (2 * a4_52)).toNatClampNeg).toInt := congrArg Int32.toInt ev46_136
                have f91 : (41 : Int32).toInt = 41 := by decide
                have f92 : ((41 : Int32) + (2 * a4_52)).toInt = (41 : Int32).toInt + (2 * a4_52).toInt := iadd_toInt (by omega) (by omega)
                refine ok_gd.mpr ⟨gb_of (by omega) (by omega), ?_⟩
                refine ok_nm2 (fun v47_136 ev47_136 => ?_)
                have qv47_136 : v47_136.toInt = (σ.1 21 (41 + (2 * a4_52)).toNatClampNeg).toInt := congrArg Int32.toInt ev47_136
                have f93 : (100 : Int32).toInt = 100 := by decide
                refine ok_bd.mpr ((o_fX10_canBe hIσ (p1 := a3_52) (p2 := x45_136) (p3 := (100 * v46_136)) (p4 := (100 * v47_136)) (by omega) (by omega)).mono (fun r49_136 ho_95 => ?_))
                obtain ⟨r0r49_136, r1r49_136⟩ := ho_95
                refine ok_ite.mpr ⟨fun h_96 => ?_, fun h_96 => ?_⟩
                · have g97 : r49_136.toInt = (0 : Int32).toInt := by rw [h_96]
                  refine ok_some.mpr ?_
                  exact ⟨(show 0 ≤ (0 : Int32).toInt by omega), (show (0 : Int32).toInt ≤ 1 by omega)⟩
                · have g98 : r49_136.toInt ≠ (0 : Int32).toInt := fun z => h_96 (Int32.toInt_inj.mp z)
                  refine ok_nm2 (fun x51_136 ex51_136 => ?_)
                  have f99 : (a3_52 + (8 : Int32)).toInt = a3_52.toInt + (8 : Int32).toInt := iadd_toInt (by omega) (by omega)
                  have qx51_136 : x51_136.toInt = (a3_52 + 8).toInt := congrArg Int32.toInt ex51_136
                  refine ok_nm2 (fun x52_136 ex52_136 => ?_)
                  have f100 : (a4_52 + (1 : Int32)).toInt = a4_52.toInt + (1 : Int32).toInt := iadd_toInt (by omega) (by omega)
                  have qx52_136 : x52_136.toInt = (a4_52 + 1).toInt := congrArg Int32.toInt ex52_136
                  exact hrec_52 _ (x51_136, x52_136) (show (20 + 1 - x52_136.toInt).toNat < n_52 by omega) ⟨rfl, (show 1 ≤ x51_136.toInt by omega), (show x51_136.toInt ≤ 269 by omega), (show 0 ≤ x52_136.toInt by omega), (show x52_136.toInt ≤ 20 by omega), (show x51_136.toInt ≤ 109 + 8 * x52_136.toInt by omega)⟩
              · have f101 : 0 ≤ ((v53_82_87_134 >>> ((v42_82_87 - 1) &&& 31)) &&& 1).toInt ∧ ((v53_82_87_134 >>> ((v42_82_87 - 1) &&& 31)) &&& 1).toInt ≤ 1 := iand_toInt (by decide) (by decide)
                have g102 : ((v53_82_87_134 >>> ((v42_82_87 - 1) &&& 31)) &&& 1).toInt ≠ (1 : Int32).toInt := fun z => h_85 (Int32.toInt_inj.mp z)
                try unfold jX10_isTold_200
                refine ok_nm2 (fun x45_137 ex45_137 => ?_)
                have qx45_137 : x45_137.toInt = 0 := by rw [ex45_137]; decide
                have f103 : (40 : Int32).toInt = 40 := by decide
                have f104 : ((2 : Int32) * a4_52).toInt = 2 * a4_52.toInt := imulc (by decide) (by omega) (by omega)
                have f105 : ((40 : Int32) + (2 * a4_52)).toInt = (40 : Int32).toInt + (2 * a4_52).toInt := iadd_toInt (by omega) (by omega)
                refine ok_gd.mpr ⟨gb_of (by omega) (by omega), ?_⟩
                refine ok_nm2 (fun v46_137 ev46_137 => ?_)
                have qv46_137 : v46_137.toInt = (σ.1 21 (40 + (2 * a4_52)).toNatClampNeg).toInt := congrArg Int32.toInt ev46_137
                have f106 : (41 : Int32).toInt = 41 := by decide
                have f107 : ((41 : Int32) + (2 * a4_52)).toInt = (41 : Int32).toInt + (2 * a4_52).toInt := iadd_toInt (by omega) (by omega)
                refine ok_gd.mpr ⟨gb_of (by omega) (by omega), ?_⟩
                refine ok_nm2 (fun v47_137 ev47_137 => ?_)
                have qv47_137 : v47_137.toInt = (σ.1 21 (41 + (2 * a4_52)).toNatClampNeg).toInt := congrArg Int32.toInt ev47_137
                have f108 : (100 : Int32).toInt = 100 := by decide
                refine ok_bd.mpr ((o_fX10_canBe hIσ (p1 := a3_52) (p2 := x45_137) (p3 := (100 * v46_137)) (p4 := (100 * v47_137)) (by omega) (by omega)).mono (fun r49_137 ho_110 => ?_))
                obtain ⟨r0r49_137, r1r49_137⟩ := ho_110
                refine ok_ite.mpr ⟨fun h_111 => ?_, fun h_111 => ?_⟩
                · have g112 : r49_137.toInt = (0 : Int32).toInt := by rw [h_111]
                  refine ok_some.mpr ?_
                  exact ⟨(show 0 ≤ (0 : Int32).toInt by omega), (show (0 : Int32).toInt ≤ 1 by omega)⟩
                · have g113 : r49_137.toInt ≠ (0 : Int32).toInt := fun z => h_111 (Int32.toInt_inj.mp z)
                  refine ok_nm2 (fun x51_137 ex51_137 => ?_)
                  have f114 : (a3_52 + (8 : Int32)).toInt = a3_52.toInt + (8 : Int32).toInt := iadd_toInt (by omega) (by omega)
                  have qx51_137 : x51_137.toInt = (a3_52 + 8).toInt := congrArg Int32.toInt ex51_137
                  refine ok_nm2 (fun x52_137 ex52_137 => ?_)
                  have f115 : (a4_52 + (1 : Int32)).toInt = a4_52.toInt + (1 : Int32).toInt := iadd_toInt (by omega) (by omega)
                  have qx52_137 : x52_137.toInt = (a4_52 + 1).toInt := congrArg Int32.toInt ex52_137
                  exact hrec_52 _ (x51_137, x52_137) (show (20 + 1 - x52_137.toInt).toNat < n_52 by omega) ⟨rfl, (show 1 ≤ x51_137.toInt by omega), (show x51_137.toInt ≤ 269 by omega), (show 0 ≤ x52_137.toInt by omega), (show x52_137.toInt ≤ 20 by omega), (show x51_137.toInt ≤ 109 + 8 * x52_137.toInt by omega)⟩
        · have g116 : ¬ v1_50.toInt ≤ a4_8.toInt := fun z => h_31 (Int32.le_iff_toInt_le.mpr z)
          have f117 : (12 : Int32).toInt = 12 := by decide
          have f118 : ((12 : Int32) + a4_8).toInt = (12 : Int32).toInt + a4_8.toInt := iadd_toInt (by omega) (by omega)
          refine ok_gd.mpr ⟨gb_of (by omega) (by omega), ?_⟩
          refine ok_nm2 (fun v55_47_51 ev55_47_51 => ?_)
          have qv55_47_51 : v55_47_51.toInt = (σ.1 17 (12 + a4_8).toNatClampNeg).toInt := congrArg Int32.toInt ev55_47_51
          refine ok_nm.mpr ?_
          refine ok_gd.mpr ⟨gb_of (by omega) (by omega), ?_⟩
          refine ok_nm2 (fun v57_47_51_138 ev57_47_51_138 => ?_)
          have f119 : 0 ≤ (σ.1 1 a3_8.toNatClampNeg).toInt ∧ (σ.1 1 a3_8.toNatClampNeg).toInt ≤ 255 := hIσ 1 _
          have qv57_47_51_138 : v57_47_51_138.toInt = (σ.1 1 a3_8.toNatClampNeg).toInt := congrArg Int32.toInt ev57_47_51_138
          refine ok_ite.mpr ⟨fun h_120 => ?_, fun h_120 => ?_⟩
          · have g121 : (3 : Int32).toInt < v57_47_51_138.toInt := Int32.lt_iff_toInt_lt.mp h_120
            refine ok_some.mpr ?_
            exact ⟨(show 0 ≤ (0 : Int32).toInt by omega), (show (0 : Int32).toInt ≤ 1 by omega)⟩
          · have g122 : ¬ (3 : Int32).toInt < v57_47_51_138.toInt := fun z => h_120 (Int32.lt_iff_toInt_lt.mpr z)
            refine ok_ite.mpr ⟨fun h_123 => ?_, fun h_123 => ?_⟩
            · have f124 : (4 : Int32).toInt = 4 := by decide
              have g125 : v55_47_51.toInt = (4 : Int32).toInt := by rw [h_123]
              try unfold jX10_isTold_125
              have f126 : (a3_8 + (1 : Int32)).toInt = a3_8.toInt + (1 : Int32).toInt := iadd_toInt (by omega) (by omega)
              refine ok_bd.mpr ((o_fX10_canBe hIσ (p1 := (a3_8 + 1)) (p2 := (0 : Int32)) (p3 := (0 : Int32)) (p4 := (0 : Int32)) (by omega) (by omega)).mono (fun r61_139 ho_128 => ?_))
              obtain ⟨r0r61_139, r1r61_139⟩ := ho_128
              refine ok_ite.mpr ⟨fun h_129 => ?_, fun h_129 => ?_⟩
              · have g130 : r61_139.toInt = (0 : Int32).toInt := by rw [h_129]
                refine ok_some.mpr ?_
                exact ⟨(show 0 ≤ (0 : Int32).toInt by omega), (show (0 : Int32).toInt ≤ 1 by omega)⟩
              · have g131 : r61_139.toInt ≠ (0 : Int32).toInt := fun z => h_129 (Int32.toInt_inj.mp z)
                refine ok_nm2 (fun x63_139 ex63_139 => ?_)
                have f132 : (a3_8 + (9 : Int32)).toInt = a3_8.toInt + (9 : Int32).toInt := iadd_toInt (by omega) (by omega)
                have qx63_139 : x63_139.toInt = (a3_8 + 9).toInt := congrArg Int32.toInt ex63_139
                refine ok_nm2 (fun x64_139 ex64_139 => ?_)
                have f133 : (a4_8 + (1 : Int32)).toInt = a4_8.toInt + (1 : Int32).toInt := iadd_toInt (by omega) (by omega)
                have qx64_139 : x64_139.toInt = (a4_8 + 1).toInt := congrArg Int32.toInt ex64_139
                exact hrec_8 _ (x63_139, x64_139) (show (12 + 1 - x64_139.toInt).toNat < n_8 by omega) ⟨rfl, (show 1 ≤ x63_139.toInt by omega), (show x63_139.toInt ≤ 109 by omega), (show 0 ≤ x64_139.toInt by omega), (show x64_139.toInt ≤ 12 by omega), (show x63_139.toInt = 1 + 9 * x64_139.toInt by omega)⟩
            · have f134 : (4 : Int32).toInt = 4 := by decide
              have g135 : v55_47_51.toInt ≠ (4 : Int32).toInt := fun z => h_123 (Int32.toInt_inj.mp z)
              refine ok_gd.mpr ⟨gb_of (by omega) (by omega), ?_⟩
              refine ok_nm2 (fun v65_47_51_138 ev65_47_51_138 => ?_)
              have qv65_47_51_138 : v65_47_51_138.toInt = (σ.1 1 a3_8.toNatClampNeg).toInt := congrArg Int32.toInt ev65_47_51_138
              refine ok_ite.mpr ⟨fun h_136 => ?_, fun h_136 => ?_⟩
              · have g137 : v65_47_51_138.toInt = v55_47_51.toInt := by rw [h_136]
                try unfold jX10_isTold_125
                have f138 : (a3_8 + (1 : Int32)).toInt = a3_8.toInt + (1 : Int32).toInt := iadd_toInt (by omega) (by omega)
                refine ok_bd.mpr ((o_fX10_canBe hIσ (p1 := (a3_8 + 1)) (p2 := (0 : Int32)) (p3 := (0 : Int32)) (p4 := (0 : Int32)) (by omega) (by omega)).mono (fun r61_140 ho_140 => ?_))
                obtain ⟨r0r61_140, r1r61_140⟩ := ho_140
                refine ok_ite.mpr ⟨fun h_141 => ?_, fun h_141 => ?_⟩
                · have g142 : r61_140.toInt = (0 : Int32).toInt := by rw [h_141]
                  refine ok_some.mpr ?_
                  exact ⟨(show 0 ≤ (0 : Int32).toInt by omega), (show (0 : Int32).toInt ≤ 1 by omega)⟩
                · have g143 : r61_140.toInt ≠ (0 : Int32).toInt := fun z => h_141 (Int32.toInt_inj.mp z)
                  refine ok_nm2 (fun x63_140 ex63_140 => ?_)
                  have f144 : (a3_8 + (9 : Int32)).toInt = a3_8.toInt + (9 : Int32).toInt := iadd_toInt (by omega) (by omega)
                  have qx63_140 : x63_140.toInt = (a3_8 + 9).toInt := congrArg Int32.toInt ex63_140
                  refine ok_nm2 (fun x64_140 ex64_140 => ?_)
                  have f145 : (a4_8 + (1 : Int32)).toInt = a4_8.toInt + (1 : Int32).toInt := iadd_toInt (by omega) (by omega)
                  have qx64_140 : x64_140.toInt = (a4_8 + 1).toInt := congrArg Int32.toInt ex64_140
                  exact hrec_8 _ (x63_140, x64_140) (show (12 + 1 - x64_140.toInt).toNat < n_8 by omega) ⟨rfl, (show 1 ≤ x63_140.toInt by omega), (show x63_140.toInt ≤ 109 by omega), (show 0 ≤ x64_140.toInt by omega), (show x64_140.toInt ≤ 12 by omega), (show x63_140.toInt = 1 + 9 * x64_140.toInt by omega)⟩
              · have g146 : v65_47_51_138.toInt ≠ v55_47_51.toInt := fun z => h_136 (Int32.toInt_inj.mp z)
                refine ok_some.mpr ?_
                exact ⟨(show 0 ≤ (0 : Int32).toInt by omega), (show (0 : Int32).toInt ≤ 1 by omega)⟩
      · have f147 : (3 : Int32).toInt = 3 := by decide
        have g148 : ¬ v14_1_3_5_7.toInt ≤ (3 : Int32).toInt := fun z => h_28 (Int32.le_iff_toInt_le.mpr z)
        refine ok_some.mpr ?_
        exact ⟨(show 0 ≤ (0 : Int32).toInt by omega), (show (0 : Int32).toInt ≤ 1 by omega)⟩
    · have g149 : v10_1_3_5_7.toInt ≠ r12_1_3_5_7.toInt := fun z => h_24 (Int32.toInt_inj.mp z)
      refine ok_some.mpr ?_
      have f150 : (0 : Int32).toInt = 0 := by decide
      exact ⟨(show 0 ≤ (0 : Int32).toInt by omega), (show (0 : Int32).toInt ≤ 1 by omega)⟩
  · have f151 : (2 : Int32).toInt = 2 := by decide
    have f152 : ((9 : Int32) * v1_2).toInt = 9 * v1_2.toInt := imulc (by decide) (by omega) (by omega)
    have f153 : ((2 : Int32) + (9 * v1_2)).toInt = (2 : Int32).toInt + (9 * v1_2).toInt := iadd_toInt (by omega) (by omega)
    have f154 : ((8 : Int32) * v1_4).toInt = 8 * v1_4.toInt := imulc (by decide) (by omega) (by omega)
    have f155 : ((2 + (9 * v1_2)) + (8 * v1_4)).toInt = (2 + (9 * v1_2)).toInt + (8 * v1_4).toInt := iadd_toInt (by omega) (by omega)
    have f156 : ((8 : Int32) * v1).toInt = 8 * v1.toInt := imulc (by decide) (by omega) (by omega)
    have f157 : (((2 + (9 * v1_2)) + (8 * v1_4)) + (8 * v1)).toInt = ((2 + (9 * v1_2)) + (8 * v1_4)).toInt + (8 * v1).toInt := iadd_toInt (by omega) (by omega)
    have f158 : ((((2 + (9 * v1_2)) + (8 * v1_4)) + (8 * v1)) + v1_6).toInt = (((2 + (9 * v1_2)) + (8 * v1_4)) + (8 * v1)).toInt + v1_6.toInt := iadd_toInt (by omega) (by omega)
    have g159 : p1.toInt ≠ ((((2 + (9 * v1_2)) + (8 * v1_4)) + (8 * v1)) + v1_6).toInt := fun z => h_9 (Int32.toInt_inj.mp z)
    refine ok_some.mpr ?_
    have f160 : (0 : Int32).toInt = 0 := by decide
    exact ⟨(show 0 ≤ (0 : Int32).toInt by omega), (show (0 : Int32).toInt ≤ 1 by omega)⟩
set_option maxRecDepth 20000 in
set_option maxHeartbeats 2000000 in
theorem o_fX10_tells {σ : gS} (hIσ : JM σ) {p1 : Int32} {p2 : Int32} (h0p1 : 0 ≤ p1.toInt) (h1p1 : p1.toInt ≤ 1592) (h0p2 : 0 ≤ p2.toInt) (h1p2 : p2.toInt ≤ 37) : Ok (fX10_tells σ p1 p2) (fun out => JM out.2 ∧ Fr fr_fX10_tells σ out.2 ∧ 8 ≤ out.1.toInt ∧ out.1.toInt ≤ 1600 ∧ out.1.toInt = p1.toInt + 8) := by
  unfold fX10_tells
  have hfσ : Fr fr_fX10_tells σ σ := Fr_r
  refine ok_bd.mpr ?_
  try unfold fX10_fourAt
  refine ok_gd.mpr ⟨gb_of (by omega) (by omega), ?_⟩
  refine ok_nm2 (fun v1_1 ev1_1 => ?_)
  have f1 : 0 ≤ (σ.1 1 p1.toNatClampNeg).toInt ∧ (σ.1 1 p1.toNatClampNeg).toInt ≤ 255 := hIσ 1 _
  have qv1_1 : v1_1.toInt = (σ.1 1 p1.toNatClampNeg).toInt := congrArg Int32.toInt ev1_1
  have f2 : (1 : Int32).toInt = 1 := by decide
  have f3 : (p1 + (1 : Int32)).toInt = p1.toInt + (1 : Int32).toInt := iadd_toInt (by omega) (by omega)
  refine ok_gd.mpr ⟨gb_of (by omega) (by omega), ?_⟩
  refine ok_nm2 (fun v2_1 ev2_1 => ?_)
  have f4 : 0 ≤ (σ.1 1 (p1 + 1).toNatClampNeg).toInt ∧ (σ.1 1 (p1 + 1).toNatClampNeg).toInt ≤ 255 := hIσ 1 _
  have qv2_1 : v2_1.toInt = (σ.1 1 (p1 + 1).toNatClampNeg).toInt := congrArg Int32.toInt ev2_1
  have f5 : (2 : Int32).toInt = 2 := by decide
  have f6 : (p1 + (2 : Int32)).toInt = p1.toInt + (2 : Int32).toInt := iadd_toInt (by omega) (by omega)
  refine ok_gd.mpr ⟨gb_of (by omega) (by omega), ?_⟩
  refine ok_nm2 (fun v3_1 ev3_1 => ?_)
  have f7 : 0 ≤ (σ.1 1 (p1 + 2).toNatClampNeg).toInt ∧ (σ.1 1 (p1 + 2).toNatClampNeg).toInt ≤ 255 := hIσ 1 _
  have qv3_1 : v3_1.toInt = (σ.1 1 (p1 + 2).toNatClampNeg).toInt := congrArg Int32.toInt ev3_1
  have f8 : (3 : Int32).toInt = 3 := by decide
  have f9 : (p1 + (3 : Int32)).toInt = p1.toInt + (3 : Int32).toInt := iadd_toInt (by omega) (by omega)
  refine ok_gd.mpr ⟨gb_of (by omega) (by omega), ?_⟩
  refine ok_nm2 (fun v4_1 ev4_1 => ?_)
  have f10 : 0 ≤ (σ.1 1 (p1 + 3).toNatClampNeg).toInt ∧ (σ.1 1 (p1 + 3).toNatClampNeg).toInt ≤ 255 := hIσ 1 _
  have qv4_1 : v4_1.toInt = (σ.1 1 (p1 + 3).toNatClampNeg).toInt := congrArg Int32.toInt ev4_1
  refine ok_some.mpr ?_
  refine ok_gd.mpr ⟨gb_of (by omega) (by omega), ?_⟩
  refine ok_nm2 (fun σ3_2 eσ3_2 => ?_)
  have hIσ3_2 : JM σ3_2 := by rw [eσ3_2]; exact JM_w hIσ (Int32.le_toInt _) (Int32.toInt_le _)
  have hfσ3_2 : Fr fr_fX10_tells σ σ3_2 := by rw [eσ3_2]; exact Fr_w0 hfσ (by decide)
  refine ok_bd.mpr ?_
  try unfold fX10_fourAt
  have f11 : (4 : Int32).toInt = 4 := by decide
  have f12 : (p1 + (4 : Int32)).toInt = p1.toInt + (4 : Int32).toInt := iadd_toInt (by omega) (by omega)
  refine ok_gd.mpr ⟨gb_of (by omega) (by omega), ?_⟩
  refine ok_nm2 (fun v1_3 ev1_3 => ?_)
  have f13 : 0 ≤ (σ3_2.1 1 (p1 + 4).toNatClampNeg).toInt ∧ (σ3_2.1 1 (p1 + 4).toNatClampNeg).toInt ≤ 255 := hIσ3_2 1 _
  have qv1_3 : v1_3.toInt = (σ3_2.1 1 (p1 + 4).toNatClampNeg).toInt := congrArg Int32.toInt ev1_3
  have f14 : ((p1 + 4) + (1 : Int32)).toInt = (p1 + 4).toInt + (1 : Int32).toInt := iadd_toInt (by omega) (by omega)
  refine ok_gd.mpr ⟨gb_of (by omega) (by omega), ?_⟩
  refine ok_nm2 (fun v2_3 ev2_3 => ?_)
  have f15 : 0 ≤ (σ3_2.1 1 ((p1 + 4) + 1).toNatClampNeg).toInt ∧ (σ3_2.1 1 ((p1 + 4) + 1).toNatClampNeg).toInt ≤ 255 := hIσ3_2 1 _
  have qv2_3 : v2_3.toInt = (σ3_2.1 1 ((p1 + 4) + 1).toNatClampNeg).toInt := congrArg Int32.toInt ev2_3
  have f16 : ((p1 + 4) + (2 : Int32)).toInt = (p1 + 4).toInt + (2 : Int32).toInt := iadd_toInt (by omega) (by omega)
  refine ok_gd.mpr ⟨gb_of (by omega) (by omega), ?_⟩
  refine ok_nm2 (fun v3_3 ev3_3 => ?_)
  have f17 : 0 ≤ (σ3_2.1 1 ((p1 + 4) + 2).toNatClampNeg).toInt ∧ (σ3_2.1 1 ((p1 + 4) + 2).toNatClampNeg).toInt ≤ 255 := hIσ3_2 1 _
  have qv3_3 : v3_3.toInt = (σ3_2.1 1 ((p1 + 4) + 2).toNatClampNeg).toInt := congrArg Int32.toInt ev3_3
  have f18 : ((p1 + 4) + (3 : Int32)).toInt = (p1 + 4).toInt + (3 : Int32).toInt := iadd_toInt (by omega) (by omega)
  refine ok_gd.mpr ⟨gb_of (by omega) (by omega), ?_⟩
  refine ok_nm2 (fun v4_3 ev4_3 => ?_)
  have f19 : 0 ≤ (σ3_2.1 1 ((p1 + 4) + 3).toNatClampNeg).toInt ∧ (σ3_2.1 1 ((p1 + 4) + 3).toNatClampNeg).toInt ≤ 255 := hIσ3_2 1 _
  have qv4_3 : v4_3.toInt = (σ3_2.1 1 ((p1 + 4) + 3).toNatClampNeg).toInt := congrArg Int32.toInt ev4_3
  refine ok_some.mpr ?_
  have f20 : (38 : Int32).toInt = 38 := by decide
  have f21 : ((38 : Int32) + p2).toInt = (38 : Int32).toInt + p2.toInt := iadd_toInt (by omega) (by omega)
  refine ok_gd.mpr ⟨gb_of (by omega) (by omega), ?_⟩
  refine ok_nm2 (fun σ6_2_4 eσ6_2_4 => ?_)
  have hIσ6_2_4 : JM σ6_2_4 := by rw [eσ6_2_4]; exact JM_w hIσ3_2 (Int32.le_toInt _) (Int32.toInt_le _)
  have hfσ6_2_4 : Fr fr_fX10_tells σ σ6_2_4 := by rw [eσ6_2_4]; exact Fr_w0 hfσ3_2 (by decide)
  refine ok_some.mpr ?_
  have f22 : (8 : Int32).toInt = 8 := by decide
  have f23 : (p1 + (8 : Int32)).toInt = p1.toInt + (8 : Int32).toInt := iadd_toInt (by omega) (by omega)
  exact ⟨hIσ6_2_4, hfσ6_2_4, (show 8 ≤ (p1 + 8).toInt by omega), (show (p1 + 8).toInt ≤ 1600 by omega), (show (p1 + 8).toInt = p1.toInt + 8 by omega)⟩
set_option maxRecDepth 20000 in
set_option maxHeartbeats 2000000 in
theorem o_fX10_on {σ : gS} (hIσ : JM σ)   : Ok (fX10_on σ ) (fun out => JM out.2 ∧ Fr fr_fX10_on σ out.2 ∧ 0 ≤ out.1.toInt ∧ out.1.toInt ≤ 1) := by
  unfold fX10_on
  have hfσ : Fr fr_fX10_on σ σ := Fr_r
  have f1 : 0 ≤ (σ.1 0 1).toInt ∧ (σ.1 0 1).toInt ≤ 1600 := hIσ 0 1
  refine ok_nm2 (fun x1 ex1 => ?_)
  have qx1 : x1.toInt = (σ.1 0 1).toInt := congrArg Int32.toInt ex1
  refine ok_nm2 (fun σ2 eσ2 => ?_)
  have f2 : (0 : Int32).toInt = 0 := by decide
  have hIσ2 : JM σ2 := by rw [eσ2]; exact JM_w hIσ (show 0 ≤ _ by omega) (show _ ≤ 1600 by omega)
  have hfσ2 : Fr fr_fX10_on σ σ2 := by rw [eσ2]; exact Fr_w hfσ (by decide)
  have sσ2_0_1 : (σ2.1 0 1).toInt = (0 : Int32).toInt := by rw [eσ2]; rfl
  refine ok_bd.mpr ((o_fX10_isTold hIσ2 (p1 := x1) (by omega) (by omega)).mono (fun r4 ho_4 => ?_))
  obtain ⟨r0r4, r1r4⟩ := ho_4
  refine ok_ite.mpr ⟨fun h_5 => ?_, fun h_5 => ?_⟩
  · have g6 : r4.toInt = (0 : Int32).toInt := by rw [h_5]
    refine ok_some.mpr ?_
    exact ⟨hIσ2, hfσ2, (show 0 ≤ (0 : Int32).toInt by omega), (show (0 : Int32).toInt ≤ 1 by omega)⟩
  · have g7 : r4.toInt ≠ (0 : Int32).toInt := fun z => h_5 (Int32.toInt_inj.mp z)
    refine ok_gd.mpr ⟨gb_of (by omega) (by omega), ?_⟩
    refine ok_nm2 (fun v6 ev6 => ?_)
    have f8 : 0 ≤ (σ2.1 1 0).toInt ∧ (σ2.1 1 0).toInt ≤ 255 := hIσ2 1 _
    have qv6 : v6.toInt = (σ2.1 1 0).toInt := congrArg Int32.toInt ev6
    refine ok_nm2 (fun σ7 eσ7 => ?_)
    have hIσ7 : JM σ7 := by rw [eσ7]; exact JM_w hIσ2 (Int32.le_toInt _) (Int32.toInt_le _)
    have hfσ7 : Fr fr_fX10_on σ σ7 := by rw [eσ7]; exact Fr_w hfσ2 (by decide)
    have sσ7_0_1 : (σ7.1 0 1).toInt = (σ2.1 0 1).toInt := by rw [eσ7]; rfl
    refine ok_nm2 (fun x8 ex8 => ?_)
    have f9 : (1 : Int32).toInt = 1 := by decide
    have qx8 : x8.toInt = 1 := by rw [ex8]; decide
    refine ok_nm2 (fun x9 ex9 => ?_)
    have qx9 : x9.toInt = 0 := by rw [ex9]; decide
    refine ok_lpc (I := fun n s => n = (12 + 1 - s.2.1.toInt).toNat ∧ JM s.2.2 ∧ Fr fr_fX10_on σ s.2.2 ∧ 1 ≤ s.1.toInt ∧ s.1.toInt ≤ 109 ∧ 0 ≤ s.2.1.toInt ∧ s.2.1.toInt ≤ 12 ∧ s.1.toInt = 1 + 9 * s.2.1.toInt) (fun rec34_1r n_1 s_1 hs_1 hrec_1 => ?_) K9 ((12 + 1 - x9.toInt).toNat) (x8, x9, σ7) ⟨rfl, hIσ7, hfσ7, (show 1 ≤ x8.toInt by omega), (show x8.toInt ≤ 109 by omega), (show 0 ≤ x9.toInt by omega), (show x9.toInt ≤ 12 by omega), (show x8.toInt = 1 + 9 * x9.toInt by omega)⟩ (by unfold K9; omega)
    obtain ⟨a2_1, a3_1, σ1_1⟩ := s_1
    obtain ⟨hn_1, hIσ1_1, hfσ1_1, b0a2_1, b1a2_1, b0a3_1, b1a3_1, iv0_1⟩ := hs_1
    dsimp only at hn_1 hIσ1_1 hfσ1_1 b0a2_1 b1a2_1 b0a3_1 b1a3_1 iv0_1
    unfold bX10_on_34
    try dsimp only
    refine ok_bd.mpr ?_
    try unfold fX10_pictures
    have f10 : (7 : Int32).toInt = 7 := by decide
    refine ok_gd.mpr ⟨gb_of (by omega) (by omega), ?_⟩
    refine ok_nm2 (fun v1_41 ev1_41 => ?_)
    have f11 : 0 ≤ (σ1_1.1 15 7).toInt ∧ (σ1_1.1 15 7).toInt ≤ 12 := hIσ1_1 15 7
    have qv1_41 : v1_41.toInt = (σ1_1.1 15 7).toInt := congrArg Int32.toInt ev1_41
    refine ok_some.mpr ?_
    refine ok_ite.mpr ⟨fun h_12 => ?_, fun h_12 => ?_⟩
    · have g13 : v1_41.toInt ≤ a3_1.toInt := Int32.le_iff_toInt_le.mp h_12
      refine ok_nm2 (fun x13_40_42 ex13_40_42 => ?_)
      have qx13_40_42 : x13_40_42.toInt = 0 := by rw [ex13_40_42]; decide
      refine ok_lpc (I := fun n s => n = (20 + 1 - s.2.1.toInt).toNat ∧ JM s.2.2 ∧ Fr fr_fX10_on σ s.2.2 ∧ 1 ≤ s.1.toInt ∧ s.1.toInt ≤ 269 ∧ 0 ≤ s.2.1.toInt ∧ s.2.1.toInt ≤ 20 ∧ s.1.toInt ≤ 109 + 8 * s.2.1.toInt) (fun rec71_43r n_43 s_43 hs_43 hrec_43 => ?_) K9 ((20 + 1 - x13_40_42.toInt).toNat) (a2_1, x13_40_42, σ1_1) ⟨rfl, hIσ1_1, hfσ1_1, (show 1 ≤ a2_1.toInt by omega), (show a2_1.toInt ≤ 269 by omega), (show 0 ≤ x13_40_42.toInt by omega), (show x13_40_42.toInt ≤ 20 by omega), (show a2_1.toInt ≤ 109 + 8 * x13_40_42.toInt by omega)⟩ (by unfold K9; omega)
      obtain ⟨a2_43, a3_43, σ1_43⟩ := s_43
      obtain ⟨hn_43, hIσ1_43, hfσ1_43, b0a2_43, b1a2_43, b0a3_43, b1a3_43, iv0_43⟩ := hs_43
      dsimp only at hn_43 hIσ1_43 hfσ1_43 b0a2_43 b1a2_43 b0a3_43 b1a3_43 iv0_43
      unfold bX10_on_71
      try dsimp only
      refine ok_bd.mpr ?_
      try unfold fX10_points
      have f14 : (8 : Int32).toInt = 8 := by decide
      refine ok_gd.mpr ⟨gb_of (by omega) (by omega), ?_⟩
      refine ok_nm2 (fun v1_74 ev1_74 => ?_)
      have f15 : 0 ≤ (σ1_43.1 15 8).toInt ∧ (σ1_43.1 15 8).toInt ≤ 20 := hIσ1_43 15 8
      have qv1_74 : v1_74.toInt = (σ1_43.1 15 8).toInt := congrArg Int32.toInt ev1_74
      refine ok_some.mpr ?_
      refine ok_ite.mpr ⟨fun h_16 => ?_, fun h_16 => ?_⟩
      · have g17 : v1_74.toInt ≤ a3_43.toInt := Int32.le_iff_toInt_le.mp h_16
        refine ok_nm2 (fun x17_73_75 ex17_73_75 => ?_)
        have qx17_73_75 : x17_73_75.toInt = 0 := by rw [ex17_73_75]; decide
        refine ok_lpc (I := fun n s => n = (6 + 1 - s.2.1.toInt).toNat ∧ JM s.2.2 ∧ Fr fr_fX10_on σ s.2.2 ∧ 1 ≤ s.1.toInt ∧ s.1.toInt ≤ 317 ∧ 0 ≤ s.2.1.toInt ∧ s.2.1.toInt ≤ 6 ∧ s.1.toInt ≤ 269 + 8 * s.2.1.toInt) (fun rec97_76r n_76 s_76 hs_76 hrec_76 => ?_) K9 ((6 + 1 - x17_73_75.toInt).toNat) (a2_43, x17_73_75, σ1_43) ⟨rfl, hIσ1_43, hfσ1_43, (show 1 ≤ a2_43.toInt by omega), (show a2_43.toInt ≤ 317 by omega), (show 0 ≤ x17_73_75.toInt by omega), (show x17_73_75.toInt ≤ 6 by omega), (show a2_43.toInt ≤ 269 + 8 * x17_73_75.toInt by omega)⟩ (by unfold K9; omega)
        obtain ⟨a2_76, a3_76, σ1_76⟩ := s_76
        obtain ⟨hn_76, hIσ1_76, hfσ1_76, b0a2_76, b1a2_76, b0a3_76, b1a3_76, iv0_76⟩ := hs_76
        dsimp only at hn_76 hIσ1_76 hfσ1_76 b0a2_76 b1a2_76 b0a3_76 b1a3_76 iv0_76
        unfold bX10_on_97
        try dsimp only
        have f18 : (6 : Int32).toInt = 6 := by decide
        refine ok_gd.mpr ⟨gb_of (by omega) (by omega), ?_⟩
        refine ok_nm2 (fun v18_95 ev18_95 => ?_)
        have f19 : 0 ≤ (σ1_76.1 15 6).toInt ∧ (σ1_76.1 15 6).toInt ≤ 6 := hIσ1_76 15 6
        have qv18_95 : v18_95.toInt = (σ1_76.1 15 6).toInt := congrArg Int32.toInt ev18_95
        refine ok_ite.mpr ⟨fun h_20 => ?_, fun h_20 => ?_⟩
        · have g21 : v18_95.toInt ≤ a3_76.toInt := Int32.le_iff_toInt_le.mp h_20
          refine ok_nm2 (fun x20_95 ex20_95 => ?_)
          have qx20_95 : x20_95.toInt = 0 := by rw [ex20_95]; decide
          refine ok_lpc (I := fun n s => n = (60 + 1 - s.1.toInt).toNat ∧ JM s.2 ∧ Fr fr_fX10_on σ s.2 ∧ 0 ≤ s.1.toInt ∧ s.1.toInt ≤ 60) (fun rec126_96r n_96 s_96 hs_96 hrec_96 => ?_) K9 ((60 + 1 - x20_95.toInt).toNat) (x20_95, σ1_76) ⟨rfl, hIσ1_76, hfσ1_76, (show 0 ≤ x20_95.toInt by omega), (show x20_95.toInt ≤ 60 by omega)⟩ (by unfold K9; omega)
          obtain ⟨a3_96, σ1_96⟩ := s_96
          obtain ⟨hn_96, hIσ1_96, hfσ1_96, b0a3_96, b1a3_96⟩ := hs_96
          dsimp only at hn_96 hIσ1_96 hfσ1_96 b0a3_96 b1a3_96
          unfold bX10_on_126
          try dsimp only
          refine ok_bd.mpr ?_
          try unfold fX10_rows
          have f22 : (9 : Int32).toInt = 9 := by decide
          refine ok_gd.mpr ⟨gb_of (by omega) (by omega), ?_⟩
          refine ok_nm2 (fun v1_116 ev1_116 => ?_)
          have f23 : 0 ≤ (σ1_96.1 15 9).toInt ∧ (σ1_96.1 15 9).toInt ≤ 60 := hIσ1_96 15 9
          have qv1_116 : v1_116.toInt = (σ1_96.1 15 9).toInt := congrArg Int32.toInt ev1_116
          refine ok_some.mpr ?_
          refine ok_ite.mpr ⟨fun h_24 => ?_, fun h_24 => ?_⟩
          · have g25 : v1_116.toInt ≤ a3_96.toInt := Int32.le_iff_toInt_le.mp h_24
            refine ok_some.mpr ?_
            exact ⟨hIσ1_96, hfσ1_96, (show 0 ≤ (1 : Int32).toInt by omega), (show (1 : Int32).toInt ≤ 1 by omega)⟩
          · have g26 : ¬ v1_116.toInt ≤ a3_96.toInt := fun z => h_24 (Int32.le_iff_toInt_le.mpr z)
            have f27 : (a2_76 + a3_96).toInt = a2_76.toInt + a3_96.toInt := iadd_toInt (by omega) (by omega)
            refine ok_gd.mpr ⟨gb_of (by omega) (by omega), ?_⟩
            refine ok_nm2 (fun v24_115_117 ev24_115_117 => ?_)
            have f28 : 0 ≤ (σ1_96.1 1 (a2_76 + a3_96).toNatClampNeg).toInt ∧ (σ1_96.1 1 (a2_76 + a3_96).toNatClampNeg).toInt ≤ 255 := hIσ1_96 1 _
            have qv24_115_117 : v24_115_117.toInt = (σ1_96.1 1 (a2_76 + a3_96).toNatClampNeg).toInt := congrArg Int32.toInt ev24_115_117
            refine ok_ite.mpr ⟨fun h_29 => ?_, fun h_29 => ?_⟩
            · have g30 : v24_115_117.toInt = (1 : Int32).toInt := by rw [h_29]
              refine ok_gd.mpr ⟨gb_of (by omega) (by omega), ?_⟩
              refine ok_nm2 (fun σ28_115_117 eσ28_115_117 => ?_)
              have f31 : (vp_nar .boolean 1).toInt = 1 := by decide
              have hIσ28_115_117 : JM σ28_115_117 := by rw [eσ28_115_117]; exact JM_w hIσ1_96 (Int32.le_toInt _) (Int32.toInt_le _)
              have hfσ28_115_117 : Fr fr_fX10_on σ σ28_115_117 := by rw [eσ28_115_117]; exact Fr_w0 hfσ1_96 (by decide)
              have sσ28_115_117_0_1 : (σ28_115_117.1 0 1).toInt = (σ1_96.1 0 1).toInt := by rw [eσ28_115_117]; rfl
              refine ok_nm2 (fun x29_115_117 ex29_115_117 => ?_)
              have f32 : (a3_96 + (1 : Int32)).toInt = a3_96.toInt + (1 : Int32).toInt := iadd_toInt (by omega) (by omega)
              have qx29_115_117 : x29_115_117.toInt = (a3_96 + 1).toInt := congrArg Int32.toInt ex29_115_117
              exact hrec_96 _ (x29_115_117, σ28_115_117) (show (60 + 1 - x29_115_117.toInt).toNat < n_96 by omega) ⟨rfl, hIσ28_115_117, hfσ28_115_117, (show 0 ≤ x29_115_117.toInt by omega), (show x29_115_117.toInt ≤ 60 by omega)⟩
            · have g33 : v24_115_117.toInt ≠ (1 : Int32).toInt := fun z => h_29 (Int32.toInt_inj.mp z)
              refine ok_gd.mpr ⟨gb_of (by omega) (by omega), ?_⟩
              refine ok_nm2 (fun σ26_115_117 eσ26_115_117 => ?_)
              have f34 : (vp_nar .boolean 0).toInt = 0 := by decide
              have hIσ26_115_117 : JM σ26_115_117 := by rw [eσ26_115_117]; exact JM_w hIσ1_96 (Int32.le_toInt _) (Int32.toInt_le _)
              have hfσ26_115_117 : Fr fr_fX10_on σ σ26_115_117 := by rw [eσ26_115_117]; exact Fr_w0 hfσ1_96 (by decide)
              have sσ26_115_117_0_1 : (σ26_115_117.1 0 1).toInt = (σ1_96.1 0 1).toInt := by rw [eσ26_115_117]; rfl
              refine ok_nm2 (fun x27_115_117 ex27_115_117 => ?_)
              have f35 : (a3_96 + (1 : Int32)).toInt = a3_96.toInt + (1 : Int32).toInt := iadd_toInt (by omega) (by omega)
              have qx27_115_117 : x27_115_117.toInt = (a3_96 + 1).toInt := congrArg Int32.toInt ex27_115_117
              exact hrec_96 _ (x27_115_117, σ26_115_117) (show (60 + 1 - x27_115_117.toInt).toNat < n_96 by omega) ⟨rfl, hIσ26_115_117, hfσ26_115_117, (show 0 ≤ x27_115_117.toInt by omega), (show x27_115_117.toInt ≤ 60 by omega)⟩
        · have g36 : ¬ v18_95.toInt ≤ a3_76.toInt := fun z => h_20 (Int32.le_iff_toInt_le.mpr z)
          have f37 : (32 : Int32).toInt = 32 := by decide
          have f38 : ((32 : Int32) + a3_76).toInt = (32 : Int32).toInt + a3_76.toInt := iadd_toInt (by omega) (by omega)
          refine ok_bd2.mpr ((o_fX10_tells hIσ1_76 (p1 := a2_76) (p2 := (32 + a3_76)) (by omega) (by omega) (by omega) (by omega)).mono (fun o_39 ho_40 => ?_))
          obtain ⟨r31_95, σ32_95⟩ := o_39
          obtain ⟨hIσ32_95, hcσ32_95, r0r31_95, r1r31_95, hp_41⟩ := ho_40
          dsimp only at hIσ32_95 hcσ32_95 r0r31_95 r1r31_95 hp_41 ⊢
          have hfσ32_95 : Fr fr_fX10_on σ σ32_95 := Fr_c hfσ1_76 hcσ32_95 (by decide)
          have sσ32_95_0_1 : (σ32_95.1 0 1).toInt = (σ1_76.1 0 1).toInt := by rw [(hcσ32_95 0 1 (by decide) (by decide)).1]
          refine ok_nm.mpr ?_
          refine ok_nm2 (fun x34_95_118 ex34_95_118 => ?_)
          have f42 : (a3_76 + (1 : Int32)).toInt = a3_76.toInt + (1 : Int32).toInt := iadd_toInt (by omega) (by omega)
          have qx34_95_118 : x34_95_118.toInt = (a3_76 + 1).toInt := congrArg Int32.toInt ex34_95_118
          exact hrec_76 _ (r31_95, x34_95_118, σ32_95) (show (6 + 1 - x34_95_118.toInt).toNat < n_76 by omega) ⟨rfl, hIσ32_95, hfσ32_95, (show 1 ≤ r31_95.toInt by omega), (show r31_95.toInt ≤ 317 by omega), (show 0 ≤ x34_95_118.toInt by omega), (show x34_95_118.toInt ≤ 6 by omega), (show r31_95.toInt ≤ 269 + 8 * x34_95_118.toInt by omega)⟩
      · have g43 : ¬ v1_74.toInt ≤ a3_43.toInt := fun z => h_16 (Int32.le_iff_toInt_le.mpr z)
        have f44 : (12 : Int32).toInt = 12 := by decide
        have f45 : ((12 : Int32) + a3_43).toInt = (12 : Int32).toInt + a3_43.toInt := iadd_toInt (by omega) (by omega)
        refine ok_bd2.mpr ((o_fX10_tells hIσ1_43 (p1 := a2_43) (p2 := (12 + a3_43)) (by omega) (by omega) (by omega) (by omega)).mono (fun o_46 ho_47 => ?_))
        obtain ⟨r36_73_75, σ37_73_75⟩ := o_46
        obtain ⟨hIσ37_73_75, hcσ37_73_75, r0r36_73_75, r1r36_73_75, hp_48⟩ := ho_47
        dsimp only at hIσ37_73_75 hcσ37_73_75 r0r36_73_75 r1r36_73_75 hp_48 ⊢
        have hfσ37_73_75 : Fr fr_fX10_on σ σ37_73_75 := Fr_c hfσ1_43 hcσ37_73_75 (by decide)
        have sσ37_73_75_0_1 : (σ37_73_75.1 0 1).toInt = (σ1_43.1 0 1).toInt := by rw [(hcσ37_73_75 0 1 (by decide) (by decide)).1]
        refine ok_nm.mpr ?_
        refine ok_nm2 (fun x39_73_75_119 ex39_73_75_119 => ?_)
        have f49 : (a3_43 + (1 : Int32)).toInt = a3_43.toInt + (1 : Int32).toInt := iadd_toInt (by omega) (by omega)
        have qx39_73_75_119 : x39_73_75_119.toInt = (a3_43 + 1).toInt := congrArg Int32.toInt ex39_73_75_119
        exact hrec_43 _ (r36_73_75, x39_73_75_119, σ37_73_75) (show (20 + 1 - x39_73_75_119.toInt).toNat < n_43 by omega) ⟨rfl, hIσ37_73_75, hfσ37_73_75, (show 1 ≤ r36_73_75.toInt by omega), (show r36_73_75.toInt ≤ 269 by omega), (show 0 ≤ x39_73_75_119.toInt by omega), (show x39_73_75_119.toInt ≤ 20 by omega), (show r36_73_75.toInt ≤ 109 + 8 * x39_73_75_119.toInt by omega)⟩
    · have g50 : ¬ v1_41.toInt ≤ a3_1.toInt := fun z => h_12 (Int32.le_iff_toInt_le.mpr z)
      refine ok_gd.mpr ⟨gb_of (by omega) (by omega), ?_⟩
      refine ok_nm2 (fun v40_40_42 ev40_40_42 => ?_)
      have f51 : 0 ≤ (σ1_1.1 1 a2_1.toNatClampNeg).toInt ∧ (σ1_1.1 1 a2_1.toNatClampNeg).toInt ≤ 255 := hIσ1_1 1 _
      have qv40_40_42 : v40_40_42.toInt = (σ1_1.1 1 a2_1.toNatClampNeg).toInt := congrArg Int32.toInt ev40_40_42
      refine ok_gd.mpr ⟨gb_of (by omega) (by omega), ?_⟩
      refine ok_nm2 (fun σ41_40_42 eσ41_40_42 => ?_)
      have hIσ41_40_42 : JM σ41_40_42 := by rw [eσ41_40_42]; exact JM_w hIσ1_1 (Int32.le_toInt _) (Int32.toInt_le _)
      have hfσ41_40_42 : Fr fr_fX10_on σ σ41_40_42 := by rw [eσ41_40_42]; exact Fr_w0 hfσ1_1 (by decide)
      have sσ41_40_42_0_1 : (σ41_40_42.1 0 1).toInt = (σ1_1.1 0 1).toInt := by rw [eσ41_40_42]; rfl
      have f52 : (a2_1 + (1 : Int32)).toInt = a2_1.toInt + (1 : Int32).toInt := iadd_toInt (by omega) (by omega)
      refine ok_bd2.mpr ((o_fX10_tells hIσ41_40_42 (p1 := (a2_1 + 1)) (p2 := a3_1) (by omega) (by omega) (by omega) (by omega)).mono (fun o_53 ho_54 => ?_))
      obtain ⟨r43_40_42, σ44_40_42⟩ := o_53
      obtain ⟨hIσ44_40_42, hcσ44_40_42, r0r43_40_42, r1r43_40_42, hp_55⟩ := ho_54
      dsimp only at hIσ44_40_42 hcσ44_40_42 r0r43_40_42 r1r43_40_42 hp_55 ⊢
      have hfσ44_40_42 : Fr fr_fX10_on σ σ44_40_42 := Fr_c hfσ41_40_42 hcσ44_40_42 (by decide)
      have sσ44_40_42_0_1 : (σ44_40_42.1 0 1).toInt = (σ41_40_42.1 0 1).toInt := by rw [(hcσ44_40_42 0 1 (by decide) (by decide)).1]
      refine ok_nm.mpr ?_
      refine ok_nm2 (fun x46_40_42_120 ex46_40_42_120 => ?_)
      have f56 : (a3_1 + (1 : Int32)).toInt = a3_1.toInt + (1 : Int32).toInt := iadd_toInt (by omega) (by omega)
      have qx46_40_42_120 : x46_40_42_120.toInt = (a3_1 + 1).toInt := congrArg Int32.toInt ex46_40_42_120
      exact hrec_1 _ (r43_40_42, x46_40_42_120, σ44_40_42) (show (12 + 1 - x46_40_42_120.toInt).toNat < n_1 by omega) ⟨rfl, hIσ44_40_42, hfσ44_40_42, (show 1 ≤ r43_40_42.toInt by omega), (show r43_40_42.toInt ≤ 109 by omega), (show 0 ≤ x46_40_42_120.toInt by omega), (show x46_40_42_120.toInt ≤ 12 by omega), (show r43_40_42.toInt = 1 + 9 * x46_40_42_120.toInt by omega)⟩
