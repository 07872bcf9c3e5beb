/-! THE GEOMETRY: a round, on the reference's side: its three stages (printed by mk_12n.py) -/
section P12N
noncomputable def dn (c b : Nat) (R : Nat → Prop) (q a : Nat) (I : Nat) : Prop := ∃ q' a' : Nat, a' < 2 ∧ q' < b ∧ R q' ∧ I = 38 * a' + (c + q') ∧ (q' < q ∨ (q' = q ∧ a' < a))
theorem dn_0 {c b : Nat} {R : Nat → Prop} {I : Nat} : ¬ dn c b R 0 0 I := by
  rintro ⟨q', a', h1, h2, h3, h4, h5⟩
  omega
theorem dn_s {c b q a : Nat} {R : Nat → Prop} (ha : a < 2) (hb : q < b) (hR : R q) (J : Nat) : dn c b R q (a + 1) J ↔ dn c b R q a J ∨ J = 38 * a + (c + q) := by
  constructor
  · rintro ⟨q', a', h1, h2, hr, h3, h4⟩
    by_cases z : q' = q ∧ a' = a
    · exact .inr (by rw [h3, z.1, z.2])
    · exact .inl ⟨q', a', h1, h2, hr, h3, by omega⟩
  · rintro (⟨q', a', h1, h2, hr, h3, h4⟩ | h)
    · exact ⟨q', a', h1, h2, hr, h3, by omega⟩
    · exact ⟨q, a, ha, hb, hR, h, .inr ⟨rfl, by omega⟩⟩
theorem dn_k {c b q a : Nat} {R : Nat → Prop} (hR : ¬ R q) (J : Nat) : dn c b R q a J ↔ dn c b R q (a + 1) J := by
  constructor
  · rintro ⟨q', a', h1, h2, hr, h3, h4⟩
    exact ⟨q', a', h1, h2, hr, h3, by omega⟩
  · rintro ⟨q', a', h1, h2, hr, h3, h4⟩
    by_cases z : q' = q
    · exact absurd (by rw [← z]; exact hr) hR
    · exact ⟨q', a', h1, h2, hr, h3, by omega⟩
theorem dn_n {c b q : Nat} {R : Nat → Prop} (J : Nat) : dn c b R q 2 J ↔ dn c b R (q + 1) 0 J := by
  constructor
  · rintro ⟨q', a', h1, h2, hr, h3, h4⟩
    exact ⟨q', a', h1, h2, hr, h3, by omega⟩
  · rintro ⟨q', a', h1, h2, hr, h3, h4⟩
    exact ⟨q', a', h1, h2, hr, h3, by omega⟩
theorem dn_not {c b q a : Nat} {R : Nat → Prop} (hc : c + b ≤ 38) (hq : q < b) : ¬ dn c b R q a (38 * a + (c + q)) := by
  rintro ⟨q', a', h1, h2, hr, h3, h4⟩
  omega
noncomputable def fF (c : Nat) (G : Nat → Int32 → Int) (I : Nat) : Int := G (I % 38 - c) (Int32.ofNat (I / 38))
theorem fF_at {c q : Nat} {a : Int32} {G : Nat → Int32 → Int} (a0 : 0 ≤ a.toInt) (a1 : a.toInt ≤ 1) (hc : c + q < 38) : fF c G (38 * a.toInt.toNat + (c + q)) = G q a := by
  obtain ⟨e1, e2⟩ := rem_38 (a := a.toInt.toNat) (j := c + q) (by omega) hc
  unfold fF
  rw [e1, e2, Nat.add_sub_cancel_left, i32_of a0]
theorem SG_wf {σ s : gS} {f g : Int32} {D : Nat → Prop} {F : Nat → Int} (h : WF σ) (hs : SG σ f D F s g) : WF s := WF_eq h hs.1
theorem vpb {g : Int32} (h : g = 0 ∨ g = 1) : vp_nar .boolean g = g := by
  rcases h with rfl | rfl
  · exact nb0
  · exact nb1
noncomputable def freeM (σ : gS) (q : Nat) : Prop := fX10_isControl σ (Int32.ofNat q) = some 0
theorem isC_eq {σ s : gS} {q : Int32} (e20 : s.1 20 = σ.1 20) (e36 : s.1 0 36 = σ.1 0 36) : fX10_isControl s q = fX10_isControl σ q := by
  unfold fX10_isControl
  rw [e20, e36]
set_option maxHeartbeats 1000000 in
theorem rd_D {σx σ : gS} {f : Int32} {P : Int32 × gS → Prop} (h : WF σ) (hf : f = 0 ∨ f = 1) (kk : ∀ s g, SG σ f (dn 32 (σ.1 15 6).toInt.toNat (fun _ => True) (σ.1 15 6).toInt.toNat 0) (fF 32 (nD σ)) s g → P (g, s)) : Ok (lpc (S := Int32 × Int32 × gS) K9 (fun rec s => bX10_isRound_92 σx (fun a1 a2 σ1 => rec (a1, a2, σ1)) s.1 s.2.1 s.2.2) (f, 0, σ)) P := by
  have z0' := z0
  have l2 : (2 : Int32).toInt = 2 := by decide
  obtain ⟨b9, b8, b7, b6⟩ := h.1
  refine ok_lpc (I := fun (n : Nat) (s : Int32 × Int32 × gS) => n = ((σ.1 15 6).toInt - s.2.1.toInt).toNat ∧ 0 ≤ s.2.1.toInt ∧ s.2.1.toInt ≤ (σ.1 15 6).toInt ∧ SG σ f (dn 32 (σ.1 15 6).toInt.toNat (fun _ => True) s.2.1.toInt.toNat 0) (fF 32 (nD σ)) s.2.2 s.1) (fun rec n s hs hrec => ?_) K9 (σ.1 15 6).toInt.toNat (f, 0, σ) ⟨by dsimp only; omega, by dsimp only; omega, by dsimp only; omega, SG_0 hf (fun I => dn_0)⟩ (by unfold K9; omega)
  obtain ⟨g, q, s⟩ := s
  obtain ⟨hn, q0, q1, hs⟩ := hs
  dsimp only at hn q0 q1 hs ⊢
  have e15 : s.1 15 = σ.1 15 := hs.1 15 (by decide) (by decide)
  unfold bX10_isRound_92
  refine ok_gd.mpr ⟨by decide, ?_⟩
  have e6 : s.1 15 ((6 : Int32).toNatClampNeg) = σ.1 15 6 := by rw [e15]; rfl
  rw [nm_eq, e6]
  refine ok_ite.mpr ⟨fun hk => ?_, fun hk => ?_⟩
  · have : q.toInt.toNat = (σ.1 15 6).toInt.toNat := by have := Int32.le_iff_toInt_le.mp hk; omega
    rw [this] at hs
    rw [vpb hs.2.2.2.2.2.1]
    exact ok_some.mpr (kk s g hs)
  have hlt := q_gt hk
  have e1 := i_inc (a := q) (c := 60) (by omega) (by omega) (by decide)
  have eq1 : (q + 1).toInt.toNat = q.toInt.toNat + 1 := by omega
  rw [nm_eq]
  refine ok_lpc (I := fun (m : Nat) (t : Int32 × Int32 × gS) => m = (2 - t.2.1.toInt).toNat ∧ 0 ≤ t.2.1.toInt ∧ t.2.1.toInt ≤ 2 ∧ SG σ f (dn 32 (σ.1 15 6).toInt.toNat (fun _ => True) q.toInt.toNat t.2.1.toInt.toNat) (fF 32 (nD σ)) t.2.2 t.1) (fun rec2 m t ht hrec2 => ?_) K9 2 (g, 0, s) ⟨by dsimp only; omega, by dsimp only; omega, by dsimp only; omega, hs⟩ (by unfold K9; decide)
  obtain ⟨g2, a, t⟩ := t
  obtain ⟨hm, a0, a2, ht⟩ := ht
  dsimp only at hm a0 a2 ht ⊢
  unfold bX10_isRound_105
  refine ok_ite.mpr ⟨fun ha => ?_, fun ha => ?_⟩
  · have : a.toInt.toNat = 2 := by have := Int32.le_iff_toInt_le.mp ha; omega
    rw [this] at ht
    rw [nm_eq]
    refine hrec ((σ.1 15 6).toInt - (q + 1).toInt).toNat (g2, q + 1, t) (by omega) ⟨rfl, by dsimp only; omega, by dsimp only; omega, ?_⟩
    dsimp only
    rw [eq1]
    exact SG_D ht dn_n
  have alt := q_gt ha
  have e2 := i_inc (a := a) (c := 60) (by omega) (by omega) (by decide)
  have ea1 : (a + 1).toInt.toNat = a.toInt.toNat + 1 := by omega
  have t15 : t.1 15 = σ.1 15 := ht.1 15 (by decide) (by decide)
  refine ok_bd2.mpr ((m_driftR (SG_wf h ht) (q := q) (a := a) q0 (by rw [t15]; exact hlt) a0 (by omega)).mono (fun o ho => ?_))
  have ex : nD t q.toInt.toNat a = fF 32 (nD σ) (38 * a.toInt.toNat + (32 + q.toInt.toNat)) := by
    rw [fF_at a0 (by omega) (by omega)]
    exact nD_eq ht.1 (fun p hp => ht.2.2.2.2.1 _ (by rintro ⟨q', a', h1, h2, h3, h4, h5⟩; omega)) (by omega) (ht.2.2.2.2.1 _ (dn_not (by omega) (by omega)))
  have st := SG_step ht (dn_not (by omega) (by omega)) ex ho (dn_s (a := a.toInt.toNat) (q := q.toInt.toNat) (by omega) (by omega) trivial)
  rw [← ea1] at st
  refine ok_ite.mpr ⟨fun hr => ?_, fun hr => ?_⟩
  · rw [if_pos hr] at st
    rw [nm_eq]
    exact hrec2 (2 - (a + 1).toInt).toNat (g2, a + 1, o.2) (by omega) ⟨rfl, by dsimp only; omega, by dsimp only; omega, st⟩
  · rw [if_neg hr] at st
    rw [nm_eq, nm_eq]
    exact hrec2 (2 - (a + 1).toInt).toNat (1, a + 1, o.2) (by omega) ⟨rfl, by dsimp only; omega, by dsimp only; omega, st⟩
set_option maxHeartbeats 1000000 in
theorem rd_Q {σx σ : gS} {f : Int32} {P : Int32 × gS → Prop} (h : WF σ) (hf : f = 0 ∨ f = 1) (kk : ∀ s g, SG σ f (dn 0 (σ.1 15 7).toInt.toNat (fun _ => True) (σ.1 15 7).toInt.toNat 0) (fF 0 (nP σ)) s g → Ok (lpc (S := Int32 × Int32 × gS) K9 (fun rec u => bX10_isRound_92 s (fun a1 a2 σ1 => rec (a1, a2, σ1)) u.1 u.2.1 u.2.2) (g, 0, s)) P) : Ok (lpc (S := Int32 × Int32 × gS) K9 (fun rec s => bX10_isRound_52 σx (fun a1 a2 σ1 => rec (a1, a2, σ1)) s.1 s.2.1 s.2.2) (f, 0, σ)) P := by
  have z0' := z0
  have l2 : (2 : Int32).toInt = 2 := by decide
  obtain ⟨b9, b8, b7, b6⟩ := h.1
  refine ok_lpc (I := fun (n : Nat) (s : Int32 × Int32 × gS) => n = ((σ.1 15 7).toInt - s.2.1.toInt).toNat ∧ 0 ≤ s.2.1.toInt ∧ s.2.1.toInt ≤ (σ.1 15 7).toInt ∧ SG σ f (dn 0 (σ.1 15 7).toInt.toNat (fun _ => True) s.2.1.toInt.toNat 0) (fF 0 (nP σ)) s.2.2 s.1) (fun rec n s hs hrec => ?_) K9 (σ.1 15 7).toInt.toNat (f, 0, σ) ⟨by dsimp only; omega, by dsimp only; omega, by dsimp only; omega, SG_0 hf (fun I => dn_0)⟩ (by unfold K9; omega)
  obtain ⟨g, q, s⟩ := s
  obtain ⟨hn, q0, q1, hs⟩ := hs
  dsimp only at hn q0 q1 hs ⊢
  have e15 : s.1 15 = σ.1 15 := hs.1 15 (by decide) (by decide)
  unfold bX10_isRound_52
  rw [q_bd (m_pictures s), e15]
  refine ok_ite.mpr ⟨fun hk => ?_, fun hk => ?_⟩
  · have : q.toInt.toNat = (σ.1 15 7).toInt.toNat := by have := Int32.le_iff_toInt_le.mp hk; omega
    rw [this] at hs
    rw [nm_eq]
    exact kk s g hs
  have hlt := q_gt hk
  have e1 := i_inc (a := q) (c := 60) (by omega) (by omega) (by decide)
  have eq1 : (q + 1).toInt.toNat = q.toInt.toNat + 1 := by omega
  rw [nm_eq]
  refine ok_lpc (I := fun (m : Nat) (t : Int32 × Int32 × gS) => m = (2 - t.2.1.toInt).toNat ∧ 0 ≤ t.2.1.toInt ∧ t.2.1.toInt ≤ 2 ∧ SG σ f (dn 0 (σ.1 15 7).toInt.toNat (fun _ => True) q.toInt.toNat t.2.1.toInt.toNat) (fF 0 (nP σ)) t.2.2 t.1) (fun rec2 m t ht hrec2 => ?_) K9 2 (g, 0, s) ⟨by dsimp only; omega, by dsimp only; omega, by dsimp only; omega, hs⟩ (by unfold K9; decide)
  obtain ⟨g2, a, t⟩ := t
  obtain ⟨hm, a0, a2, ht⟩ := ht
  dsimp only at hm a0 a2 ht ⊢
  unfold bX10_isRound_62
  refine ok_ite.mpr ⟨fun ha => ?_, fun ha => ?_⟩
  · have : a.toInt.toNat = 2 := by have := Int32.le_iff_toInt_le.mp ha; omega
    rw [this] at ht
    rw [nm_eq]
    refine hrec ((σ.1 15 7).toInt - (q + 1).toInt).toNat (g2, q + 1, t) (by omega) ⟨rfl, by dsimp only; omega, by dsimp only; omega, ?_⟩
    dsimp only
    rw [eq1]
    exact SG_D ht dn_n
  have alt := q_gt ha
  have e2 := i_inc (a := a) (c := 60) (by omega) (by omega) (by decide)
  have ea1 : (a + 1).toInt.toNat = a.toInt.toNat + 1 := by omega
  have t15 : t.1 15 = σ.1 15 := ht.1 15 (by decide) (by decide)
  refine ok_bd2.mpr ((m_pictureR (SG_wf h ht) (q := q) (a := a) q0 (by rw [t15]; exact hlt) a0 (by omega)).mono (fun o ho => ?_))
  have ex : nP t q.toInt.toNat a = fF 0 (nP σ) (38 * a.toInt.toNat + (0 + q.toInt.toNat)) := by
    rw [fF_at a0 (by omega) (by omega)]
    exact nP_eq h ht.1 (by omega) (fun p hp => ht.2.2.2.2.1 _ (by rintro ⟨q', a', h1, h2, h3, h4, h5⟩; omega)) (fun p hp => ht.2.2.2.2.1 _ (by rintro ⟨q', a', h1, h2, h3, h4, h5⟩; omega)) (by have := ht.2.2.2.2.1 _ (dn_not (c := 0) (q := q.toInt.toNat) (a := a.toInt.toNat) (by omega) (by omega)); rw [Nat.zero_add] at this; exact this)
  have ho' : MV t (38 * a.toInt.toNat + (0 + q.toInt.toNat)) (nP t q.toInt.toNat a) o := by rw [Nat.zero_add]; exact ho
  have st := SG_step ht (dn_not (by omega) (by omega)) ex ho' (dn_s (a := a.toInt.toNat) (q := q.toInt.toNat) (by omega) (by omega) trivial)
  rw [← ea1] at st
  refine ok_ite.mpr ⟨fun hr => ?_, fun hr => ?_⟩
  · rw [if_pos hr] at st
    rw [nm_eq]
    exact hrec2 (2 - (a + 1).toInt).toNat (g2, a + 1, o.2) (by omega) ⟨rfl, by dsimp only; omega, by dsimp only; omega, st⟩
  · rw [if_neg hr] at st
    rw [nm_eq, nm_eq]
    exact hrec2 (2 - (a + 1).toInt).toNat (1, a + 1, o.2) (by omega) ⟨rfl, by dsimp only; omega, by dsimp only; omega, st⟩
set_option maxHeartbeats 1000000 in
theorem rd_P {σx σ : gS} {f : Int32} {P : Int32 × gS → Prop} (h : WF σ) (hf : f = 0 ∨ f = 1) (kk : ∀ s g, SG σ f (dn 12 (σ.1 15 8).toInt.toNat (freeM σ) (σ.1 15 8).toInt.toNat 0) (fF 12 (nQ σ)) s g → Ok (lpc (S := Int32 × Int32 × gS) K9 (fun rec u => bX10_isRound_52 s (fun a1 a2 σ1 => rec (a1, a2, σ1)) u.1 u.2.1 u.2.2) (g, 0, s)) P) : Ok (lpc (S := Int32 × Int32 × gS) K9 (fun rec s => bX10_isRound_4 σx (fun a1 a2 σ1 => rec (a1, a2, σ1)) s.1 s.2.1 s.2.2) (f, 0, σ)) P := by
  have z0' := z0
  have l2 : (2 : Int32).toInt = 2 := by decide
  obtain ⟨b9, b8, b7, b6⟩ := h.1
  refine ok_lpc (I := fun (n : Nat) (s : Int32 × Int32 × gS) => n = ((σ.1 15 8).toInt - s.2.1.toInt).toNat ∧ 0 ≤ s.2.1.toInt ∧ s.2.1.toInt ≤ (σ.1 15 8).toInt ∧ SG σ f (dn 12 (σ.1 15 8).toInt.toNat (freeM σ) s.2.1.toInt.toNat 0) (fF 12 (nQ σ)) s.2.2 s.1) (fun rec n s hs hrec => ?_) K9 (σ.1 15 8).toInt.toNat (f, 0, σ) ⟨by dsimp only; omega, by dsimp only; omega, by dsimp only; omega, SG_0 hf (fun I => dn_0)⟩ (by unfold K9; omega)
  obtain ⟨g, q, s⟩ := s
  obtain ⟨hn, q0, q1, hs⟩ := hs
  dsimp only at hn q0 q1 hs ⊢
  have e15 : s.1 15 = σ.1 15 := hs.1 15 (by decide) (by decide)
  unfold bX10_isRound_4
  rw [q_bd (m_points s), e15]
  refine ok_ite.mpr ⟨fun hk => ?_, fun hk => ?_⟩
  · have : q.toInt.toNat = (σ.1 15 8).toInt.toNat := by have := Int32.le_iff_toInt_le.mp hk; omega
    rw [this] at hs
    rw [nm_eq]
    exact kk s g hs
  have hlt := q_gt hk
  have e1 := i_inc (a := q) (c := 60) (by omega) (by omega) (by decide)
  have eq1 : (q + 1).toInt.toNat = q.toInt.toNat + 1 := by omega
  rw [nm_eq]
  refine ok_lpc (I := fun (m : Nat) (t : Int32 × Int32 × gS) => m = (2 - t.2.1.toInt).toNat ∧ 0 ≤ t.2.1.toInt ∧ t.2.1.toInt ≤ 2 ∧ SG σ f (dn 12 (σ.1 15 8).toInt.toNat (freeM σ) q.toInt.toNat t.2.1.toInt.toNat) (fF 12 (nQ σ)) t.2.2 t.1) (fun rec2 m t ht hrec2 => ?_) K9 2 (g, 0, s) ⟨by dsimp only; omega, by dsimp only; omega, by dsimp only; omega, hs⟩ (by unfold K9; decide)
  obtain ⟨g2, a, t⟩ := t
  obtain ⟨hm, a0, a2, ht⟩ := ht
  dsimp only at hm a0 a2 ht ⊢
  unfold bX10_isRound_14
  refine ok_ite.mpr ⟨fun ha => ?_, fun ha => ?_⟩
  · have : a.toInt.toNat = 2 := by have := Int32.le_iff_toInt_le.mp ha; omega
    rw [this] at ht
    rw [nm_eq]
    refine hrec ((σ.1 15 8).toInt - (q + 1).toInt).toNat (g2, q + 1, t) (by omega) ⟨rfl, by dsimp only; omega, by dsimp only; omega, ?_⟩
    dsimp only
    rw [eq1]
    exact SG_D ht dn_n
  have alt := q_gt ha
  have e2 := i_inc (a := a) (c := 60) (by omega) (by omega) (by decide)
  have ea1 : (a + 1).toInt.toNat = a.toInt.toNat + 1 := by omega
  have t15 : t.1 15 = σ.1 15 := ht.1 15 (by decide) (by decide)
  rcases m_isControl t q0 (by omega) with hc | hc
  · have hR : freeM σ q.toInt.toNat := by
      unfold freeM
      rw [i32_of q0, ← isC_eq (ht.1 20 (by decide) (by decide)) (ht.2.1 36 (by decide))]
      exact hc
    rw [q_bd hc, if_pos rfl]
    refine ok_bd2.mpr ((m_point (SG_wf h ht) (q := q) (a := a) q0 (by rw [t15]; exact hlt) a0 (by omega)).mono (fun o ho => ?_))
    have ex : nQ t q.toInt.toNat a = fF 12 (nQ σ) (38 * a.toInt.toNat + (12 + q.toInt.toNat)) := by
      rw [fF_at a0 (by omega) (by omega)]
      exact nQ_eq h ht.1 (fun p hp => ht.2.2.2.2.1 _ (by rintro ⟨q', a', h1, h2, h3, h4, h5⟩; omega)) (ht.2.2.2.2.1 _ (dn_not (by omega) (by omega)))
    have st := SG_step ht (dn_not (by omega) (by omega)) ex ho (dn_s (a := a.toInt.toNat) (q := q.toInt.toNat) (by omega) (by omega) hR)
    rw [← ea1] at st
    refine ok_ite.mpr ⟨fun hr => ?_, fun hr => ?_⟩
    · rw [if_pos hr] at st
      rw [nm_eq]
      exact hrec2 (2 - (a + 1).toInt).toNat (g2, a + 1, o.2) (by omega) ⟨rfl, by dsimp only; omega, by dsimp only; omega, st⟩
    · rw [if_neg hr] at st
      rw [nm_eq, nm_eq]
      exact hrec2 (2 - (a + 1).toInt).toNat (1, a + 1, o.2) (by omega) ⟨rfl, by dsimp only; omega, by dsimp only; omega, st⟩
  · have hR : ¬ freeM σ q.toInt.toNat := by
      unfold freeM
      rw [i32_of q0, ← isC_eq (ht.1 20 (by decide) (by decide)) (ht.2.1 36 (by decide)), hc]
      exact fun z => one_ne (Option.some.inj z)
    rw [q_bd hc, if_neg one_ne, nm_eq]
    refine hrec2 (2 - (a + 1).toInt).toNat (g2, a + 1, t) (by omega) ⟨rfl, by dsimp only; omega, by dsimp only; omega, ?_⟩
    dsimp only
    rw [ea1]
    exact SG_D ht (dn_k hR)
theorem m_round {σ : gS} (h : WF σ) : Ok (fX10_isRound σ) (fun o => ∃ s1 g1 s2 g2, SG σ 0 (dn 12 (σ.1 15 8).toInt.toNat (freeM σ) (σ.1 15 8).toInt.toNat 0) (fF 12 (nQ σ)) s1 g1 ∧ SG s1 g1 (dn 0 (s1.1 15 7).toInt.toNat (fun _ => True) (s1.1 15 7).toInt.toNat 0) (fF 0 (nP s1)) s2 g2 ∧ SG s2 g2 (dn 32 (s2.1 15 6).toInt.toNat (fun _ => True) (s2.1 15 6).toInt.toNat 0) (fF 32 (nD s2)) o.2 o.1) := by
  unfold fX10_isRound
  rw [nm_eq, nm_eq]
  exact rd_P h (.inl rfl) (fun s1 g1 h1 => rd_Q (SG_wf h h1) h1.2.2.2.2.2.1 (fun s2 g2 h2 => rd_D (SG_wf (SG_wf h h1) h2) h2.2.2.2.2.2.1 (fun s3 g3 h3 => ⟨s1, g1, s2, g2, h1, h2, h3⟩)))
end P12N
