/-! THE GEOMETRY: a start, 7: A START IS ALIKE on both sides -/
section P12Y7
noncomputable def cS (t : gS) : Int := sW (t.1 15 7).toInt.toNat (fun p => decide (t.1 29 p = 1)) (fun _ => 1)
theorem sW_all {u : Nat → Bool} : ∀ n, sW n u (fun _ => 1) = n → ∀ r, r < n → u r = true
  | 0, _, _, hr => absurd hr (Nat.not_lt_zero _)
  | n + 1, h, r, hr => by
    have b := sW_b (u := u) n
    unfold sW at h
    by_cases z : u n = true
    · rw [if_pos z] at h
      dsimp only at h
      by_cases y : r = n
      · rw [y]; exact z
      · exact sW_all (u := u) n (by omega) r (by omega)
    · rw [if_neg z] at h
      omega
theorem sW_lt {u : Nat → Bool} : ∀ n, sW n u (fun _ => 1) < n → ∃ r, r < n ∧ u r = false
  | 0, h => absurd h (by unfold sW; decide)
  | n + 1, h => by
    have b := sW_b (u := u) n
    unfold sW at h
    by_cases z : u n = true
    · rw [if_pos z] at h
      dsimp only at h
      obtain ⟨r, h1, h2⟩ := sW_lt (u := u) n (by omega)
      exact ⟨r, by omega, h2⟩
    · exact ⟨n, by omega, by simpa using z⟩
noncomputable def NS (t : gS) : Int32 := fI (fun p => decide (t.1 29 p = 0)) (t.1 15 7).toInt.toNat 0
theorem m_firstNot {t : gS} (n0 : 0 ≤ (t.1 15 7).toInt) (n1 : (t.1 15 7).toInt ≤ 12) : fX10_firstNotStarted t = some (NS t) := by
  have z0' := z0
  unfold fX10_firstNotStarted NS
  rw [nm_eq]
  refine fI_lpc (n := t.1 15 7) (c := fun p => decide (t.1 29 p = 0)) (fun rec a h2 h3 => ?_) (fun rec a h2 h3 => ?_) _ K9 0 (by omega) (by decide) (by unfold K9; omega)
  · show bX10_firstNotStarted_2 t rec a = _
    unfold bX10_firstNotStarted_2
    rw [q_bd (m_pictures t)]
    exact if_pos (q_le h3)
  · show bX10_firstNotStarted_2 t rec a = _
    unfold bX10_firstNotStarted_2
    rw [q_bd (m_pictures t), if_neg (q_nle h3), q_gd (gb_of (by omega) (by omega)), nm_eq, n_toInt]
    by_cases u : t.1 29 a.toInt.toNat = 0
    · rw [if_pos u]; exact (if_pos (decide_eq_true u)).symm
    · rw [if_neg u, nm_eq]; exact (if_neg (fun z => u (of_decide_eq_true z))).symm
theorem k_findUn {σ t : gS} (h : SP9 σ t) : fX6_findUnstarted σ = some (NS t) := by
  obtain ⟨b9, b8, b7, b6⟩ := h.2.1.1
  have z0' := z0
  have e7 : σ.1 3 ((1 : Int32).toNatClampNeg) = t.1 15 7 := (tr_n h.1).2.2.1
  unfold fX6_findUnstarted NS
  rw [nm_eq]
  refine fI_lpc (n := t.1 15 7) (c := fun p => decide (t.1 29 p = 0)) (fun rec a h2 h3 => ?_) (fun rec a h2 h3 => ?_) _ K9 0 (by omega) (by decide) (by unfold K9; omega)
  · show bX6_findUnstarted_2 σ rec a = _
    unfold bX6_findUnstarted_2
    rw [q_gd (by decide), nm_eq, e7]
    exact if_pos (q_le h3)
  · have e84 := (h.2.2.2.2.2 a.toInt.toNat (by omega)).1
    show bX6_findUnstarted_2 σ rec a = _
    unfold bX6_findUnstarted_2
    rw [q_gd (by decide), nm_eq, e7, if_neg (q_nle h3), q_gd (gb_of (by omega) (by omega)), nm_eq, n_toInt, e84]
    by_cases u : t.1 29 a.toInt.toNat = 0
    · rw [if_pos u]; exact (if_pos (decide_eq_true u)).symm
    · rw [if_neg u, nm_eq]; exact (if_neg (fun z => u (of_decide_eq_true z))).symm
/-- a picture is started where it is -/
theorem SP_st {σ t : gS} {P : Nat} (h : SP9 σ t) : SP9 (gsI σ 84 P 1) (gsI t 29 P 1) := by
  obtain ⟨h1, h2, h3, h4, h5, h6⟩ := h
  have m : ∀ k, k ≠ 29 → (gsI t 29 P 1).1 k = t.1 k := fun k hk => gsI_row hk
  have c : ∀ k, k ≠ 84 → (gsI σ 84 P 1).1 k = σ.1 k := fun k hk => gsI_row hk
  refine ⟨TR_k h1 (fun k hk => c k (by omega)) (fun k k1 k2 => m k (by omega)) rfl, ?_, ?_, ?_, ?_, fun p hp => ?_⟩
  · unfold WF
    rw [m 15 (by decide), m 22 (by decide), m 23 (by decide), m 25 (by decide), m 16 (by decide), m 18 (by decide), m 27 (by decide)]
    exact h2
  · unfold TN MSd
    rw [c 48 (by decide), c 13 (by decide), c 14 (by decide), m 15 (by decide), m 24 (by decide), m 27 (by decide)]
    exact h3
  · intro a p ha hp
    rw [m 15 (by decide)] at hp
    rw [c _ (by omega), m 28 (by decide)]
    exact h4 a p ha hp
  · rw [c 58 (by decide), m 15 (by decide), m 26 (by decide)]; exact h5
  · rw [m 15 (by decide)] at hp
    rw [gsI_at, gsI_at]
    by_cases z : p = P
    · rw [if_pos z, if_pos z]; exact ⟨rfl, .inr rfl⟩
    · rw [if_neg z, if_neg z]; exact h6 p hp
theorem cS_flip {t u : gS} {P : Nat} (e : u.1 15 7 = t.1 15 7) (hP : (P : Int) < (t.1 15 7).toInt) (h0 : t.1 29 P = 0) (h : ∀ i, u.1 29 i = if i = P then 1 else t.1 29 i) : cS u = cS t + 1 := by
  unfold cS
  rw [e]
  refine sW_flip (k := P) _ (by omega) (decide_eq_false (by rw [h0]; decide)) (decide_eq_true (by rw [h, if_pos rfl])) (fun j hj hk => ?_)
  rw [h, if_neg hk]
/-- in the midst of a start: what stays of the beginning -/
noncomputable def JS (ρ t0 σ t : gS) (n : Int32) : Prop := SP9 σ t ∧ MB t ∧ PBd t (2000000 * n.toInt) ∧ n.toInt = cS t ∧ (∀ k, k ≠ 84 → k ≠ 85 → k ≠ 86 → k ≠ 88 → k ≠ 89 → k ≠ 48 → k ≠ 50 → k ≠ 51 → σ.1 k = ρ.1 k) ∧ σ.2 = ρ.2 ∧ (∀ k, k ≠ 27 → k ≠ 28 → k ≠ 29 → t.1 k = t0.1 k) ∧ t.2 = t0.2 ∧ ∀ i, ¬ (i < 12 ∨ 38 ≤ i ∧ i < 50) → t.1 28 i = t0.1 28 i
theorem PBd_le {t : gS} {A B : Int} (h : PBd t A) (e : A ≤ B) : PBd t B := fun i hi => by
  have := h i hi
  omega
set_option maxHeartbeats 1000000 in
theorem main_2 (K : Nat) (hK : 1000 ≤ K) {R : Int32 × gS → Int32 × gS → Prop} {ρ t0 : gS} (fin : ∀ (al n : Int32) (σ t : gS), JS ρ t0 σ t n → (∀ p : Nat, (p : Int) < (t.1 15 7).toInt → ¬ t.1 29 p = 0) → Re (bd (fX6_putPoints σ) fun σ8 => some (al, σ8)) (lpc (S := Int32 × gS) K9 (fun rec s' => bX10_starts_133 t al (fun a2 σ1 => rec (a2, σ1)) s'.1 s'.2) (0, t)) R) {σx sx : gS} {al n : Int32} {σ t : gS} (h : JS ρ t0 σ t n) : Re (lpc (S := Int32 × Int32 × gS) K (fun rec s' => bX6_begin_8 σx (fun a1 a2 σ1 => rec (a1, a2, σ1)) s'.1 s'.2.1 s'.2.2) (al, n, σ)) (lpc (S := Int32 × gS) K9 (fun rec s' => bX10_starts_89 sx (fun a1 σ1 => rec (a1, σ1)) s'.1 s'.2) (al, t)) R := by
  have z0' := z0
  have hb := h.1.2.1.1
  have hc := sW_b (u := fun p => decide (t.1 29 p = 1)) (t.1 15 7).toInt.toNat
  refine re_lpc (I := fun (d : Nat) (u : Int32 × Int32 × gS) (v : Int32 × gS) => d = ((t.1 15 7).toInt - u.2.1.toInt).toNat ∧ u.1 = v.1 ∧ v.2.1 15 7 = t.1 15 7 ∧ JS ρ t0 u.2.2 v.2 u.2.1) (fun f g d u v hs hrec => ?_) K K9 _ (al, n, σ) (al, t) ⟨rfl, rfl, rfl, h⟩ (by have := h.2.2.2.1; unfold cS at this; dsimp only; omega) (by have := h.2.2.2.1; unfold cS at this; unfold K9; dsimp only; omega)
  clear hc h
  obtain ⟨x, m, κ⟩ := u
  obtain ⟨y, s⟩ := v
  obtain ⟨hd, he, h7, hJ⟩ := hs
  dsimp only at hd he h7 hJ ⊢
  subst he
  have hJ' := hJ
  obtain ⟨hS, hM, hP, hn, c1, c2, m1, m2, m3⟩ := hJ
  have b := hS.2.1.1
  have hc := sW_b (u := fun p => decide (s.1 29 p = 1)) (s.1 15 7).toInt.toNat
  have hn' : m.toInt = sW (s.1 15 7).toInt.toNat (fun p => decide (s.1 29 p = 1)) (fun _ => 1) := hn
  have e7 : κ.1 3 ((1 : Int32).toNatClampNeg) = s.1 15 7 := (tr_n hS.1).2.2.1
  have ei := i_inc (a := m) (c := 60) (by omega) (by omega) (by decide)
  unfold bX6_begin_8 bX10_starts_89
  rw [q_gd (by decide), nm_eq, e7, q_bd (m_firstNot b.2.2.1.1 b.2.2.1.2)]
  by_cases hk : s.1 15 7 ≤ m
  · have hk' := Int32.le_iff_toInt_le.mp hk
    have all : ∀ p : Nat, (p : Int) < (s.1 15 7).toInt → ¬ s.1 29 p = 0 := fun p hp z => by
      have := of_decide_eq_true (sW_all (u := fun p => decide (s.1 29 p = 1)) (s.1 15 7).toInt.toNat (by omega) p (by omega))
      rw [z] at this
      exact absurd this (by decide)
    have e : NS s = -1 := by
      unfold NS
      rcases fI_spec (fun p => decide (s.1 29 p = 0)) (s.1 15 7).toInt.toNat 0 (by omega) with ⟨q1, -⟩ | ⟨j, -, j1, j2, -⟩
      · exact q1
      · exact absurd (of_decide_eq_true j2) (all j (by omega))
    rw [if_pos hk, e, if_pos rfl, nm_eq]
    exact fin _ _ _ _ hJ' all
  have hlt := q_gt hk
  obtain ⟨j, j1, j2, j3⟩ : ∃ j : Nat, (j : Int) < (s.1 15 7).toInt ∧ s.1 29 j = 0 ∧ NS s = Int32.ofNat j := by
    obtain ⟨r, r1, r2⟩ := sW_lt (u := fun p => decide (s.1 29 p = 1)) (s.1 15 7).toInt.toNat (by omega)
    have r3 : s.1 29 r = 0 := by
      rcases (hS.2.2.2.2.2 r (by omega)).2 with z | z
      · exact z
      · exact absurd z (of_decide_eq_false r2)
    unfold NS
    rcases fI_spec (fun p => decide (s.1 29 p = 0)) (s.1 15 7).toInt.toNat 0 (by omega) with ⟨-, q2⟩ | ⟨j, -, j1, j2, j3, -⟩
    · exact absurd r3 (of_decide_eq_false (q2 r (by omega) (by omega)))
    · exact ⟨j, by omega, of_decide_eq_true j2, Int32.toInt_inj.mp (by rw [j3, iofNat_toInt (by omega)])⟩
  have ej : (Int32.ofNat j).toInt = j := iofNat_toInt (by omega)
  have nj : (Int32.ofNat j).toNatClampNeg = j := by rw [n_toInt]; omega
  obtain ⟨o, r, eo, er, F1, F2, F3, F4⟩ := next_2 hS
  have hSo : SP9 o.2 s := SP_c hS (fun k hk => F2 k (by omega) (by omega) (by omega) (by omega))
  rw [if_neg hk, j3, if_neg (ofN_m1 (by omega)), q_bd2 eo, F1, nm_eq, q_bd er, nm_eq]
  rcases F4 with F4 | ⟨⟨r0, r1⟩, r2, r3, r4⟩
  · rw [if_pos F4, if_pos F4, q_bd (k_findUn hSo), j3, nm_eq, nm_eq, q_bd (m_firstNot b.2.2.1.1 b.2.2.1.2), j3, q_gd (gb_of (by omega) (by omega)), nm_eq, nm_eq, nj, nb1]
    unfold jX6_begin_47
    rw [if_neg (ofN_m1 (by omega)), q_gd (gb_of (by omega) (by omega)), nm_eq, nm_eq, nj]
    have hf := cS_flip (t := s) (u := gsI s 29 j 1) (P := j) (by rw [gsI_row (by decide)]) j1 j2 (fun i => gsI_at)
    refine hrec ((t.1 15 7).toInt - (m + 1).toInt).toNat (x + 1, m + 1, gsI o.2 84 j 1) (x + 1, gsI s 29 j 1) (by rw [h7] at hlt; omega) ⟨rfl, rfl, by dsimp only; rw [gsI_row (by decide)]; exact h7, SP_st hSo, ?_, ?_, ?_, fun k k1 k2 k3 k4 k5 k6 k7 k8 => ?_, F3.trans c2, fun k k1 k2 k3 => ?_, m2, fun i hi => ?_⟩
    · exact MB_eq hM (gsI_row (by decide)) (gsI_row (by decide))
    · dsimp only
      unfold PBd
      rw [gsI_row (by decide)]
      exact PBd_le hP (by omega)
    · dsimp only; rw [ei, hf, hn]
    · dsimp only; rw [gsI_row k1, F2 k k2 k3 k4 k5]; exact c1 k k1 k2 k3 k4 k5 k6 k7 k8
    · dsimp only; rw [gsI_row k3]; exact m1 k k1 k2 k3
    · dsimp only; rw [gsI_row (by decide)]; exact m3 i hi
  · have hne : ¬ r = -1 := fun z => by rw [z] at r0; exact absurd r0 (by decide)
    obtain ⟨τ2, s2, e2, es, L1, L2, L3, L4, L5, L6, L7, L8⟩ := link_2 hSo hM hP (by omega) (by omega) r3 r0 r1 r2 r4
    rw [if_neg hne, if_neg hne, q_bd e2, q_bd es]
    unfold jX6_begin_47
    rw [if_neg hne, q_gd (gb_of (by omega) (by omega)), nm_eq, nm_eq, n_toInt]
    have hf := cS_flip (t := s) (u := s2) (P := r.toInt.toNat) (by rw [L3 15 (by decide) (by decide) (by decide)]) (by omega) r2 L7
    refine hrec ((t.1 15 7).toInt - (m + 1).toInt).toNat (x, m + 1, gsI τ2 84 r.toInt.toNat 1) (x, s2) (by rw [h7] at hlt; omega) ⟨rfl, rfl, by dsimp only; rw [L3 15 (by decide) (by decide) (by decide)]; exact h7, L5, ?_, ?_, ?_, fun k k1 k2 k3 k4 k5 k6 k7 k8 => ?_, (L2.trans F3).trans c2, fun k k1 k2 k3 => ?_, L4.trans m2, fun i hi => ?_⟩
    · exact MB_eq hM (L3 15 (by decide) (by decide) (by decide)) (L3 24 (by decide) (by decide) (by decide))
    · dsimp only; exact PBd_le L6 (by omega)
    · dsimp only; rw [ei, hf, hn]
    · dsimp only; rw [gsI_row k1, L1 k k6 k7 k8, F2 k k2 k3 k4 k5]; exact c1 k k1 k2 k3 k4 k5 k6 k7 k8
    · dsimp only; rw [L3 k k1 k2 k3]; exact m1 k k1 k2 k3
    · dsimp only; rw [L8 i (by omega) (by omega)]; exact m3 i hi
set_option maxHeartbeats 1000000 in
theorem start_2 {σ s : gS} (w : ((0 ≤ (s.1 15 9).toInt ∧ (s.1 15 9).toInt ≤ 60) ∧ (0 ≤ (s.1 15 8).toInt ∧ (s.1 15 8).toInt ≤ 20) ∧ (0 ≤ (s.1 15 7).toInt ∧ (s.1 15 7).toInt ≤ 12) ∧ 0 ≤ (s.1 15 6).toInt ∧ (s.1 15 6).toInt ≤ 6)) (jM : JM s) (h : TRd σ s) (e47 : σ.1 47 1 = s.1 0 36) (b36 : 0 ≤ (s.1 0 36).toInt ∧ (s.1 0 36).toInt ≤ 3) (dr : ∀ r : Nat, (r : Int) < (s.1 15 9).toInt → σ.1 58 r = s.1 26 r ∧ (s.1 26 r = 0 ∨ s.1 26 r = 1)) (ms : ∀ r : Nat, (r : Int) < (s.1 15 9).toInt → MSd σ s r) : Re (fX6_begin σ) (fX10_starts s) (fun oc om => oc.1 = om.1 ∧ GE oc.2 om.2) := by
  have z0' := z0
  have mb : MB s := fun r hr => (ms r hr).2.2
  obtain ⟨b9, b8, b7, b6⟩ := w
  obtain ⟨ρ, eρ, R1, R2, R3, R4, R5, R6, R7⟩ := k_reset h b7.1 b7.2
  obtain ⟨t0, ⟨T1, T2, T3, T4⟩, eT⟩ := m_reset s
  rw [eT]
  unfold fX6_begin
  rw [q_bd eρ, nm_eq, nm_eq]
  have n15 : t0.1 15 = s.1 15 := T1 15 (by decide) (by decide) (by decide)
  -- the worlds where nothing is started
  obtain ⟨u, hu⟩ : ∃ u, u = gsI t0 29 0 0 := ⟨_, rfl⟩
  have U : ∀ k, k ≠ 29 → u.1 k = t0.1 k := fun k hk => by rw [hu, gsI_row hk]
  have U29 : ∀ p : Nat, p < 12 → u.1 29 p = 0 := fun p hp => by
    rw [hu, gsI_at]
    by_cases z : p = 0
    · rw [if_pos z]
    · rw [if_neg z, (T4 p hp).2, if_neg z]
  have cR : ∀ k, k < 47 → ρ.1 k = σ.1 k := fun k hk => R1 k (by omega) (by omega) (by omega) (by omega) (by omega) (by omega) (by omega) (by omega)
  have uR : ∀ k, k ≠ 27 → k ≠ 28 → k ≠ 29 → u.1 k = s.1 k := fun k k1 k2 k3 => (U k k3).trans (T1 k k1 k2 k3)
  have hTR : TRd ρ u := TR_k h cR (fun k k1 k2 => uR k (by omega) (by omega) (by omega)) (by rw [hu]; exact T2)
  have u15 : u.1 15 = s.1 15 := uR 15 (by decide) (by decide) (by decide)
  have hW : WF u := by
    refine ⟨by rw [u15]; exact ⟨b9, b8, b7, b6⟩, fun r hr => ?_, fun p hp => ?_⟩
    · have R := hTR.2.2.2.2 r hr
      have j2 := (jM 22 (60 + r)).1
      have j3 := (jM 23 (60 + r)).1
      rw [← uR 22 (by decide) (by decide) (by decide)] at j2
      rw [← uR 23 (by decide) (by decide) (by decide)] at j3
      exact ⟨⟨j2, R.2.2.1⟩, ⟨j3, R.2.2.2.1⟩, R.2.2.2.2.2.1⟩
    · have P := hTR.2.2.1 p hp
      have j2 := (jM 16 (12 + p)).1
      rw [← uR 16 (by decide) (by decide) (by decide)] at j2
      refine ⟨⟨j2, P.2.2.2.1⟩, P.2.2.2.2.2.1, ?_⟩
      have p5 := P.2.2.2.2.1
      rw [u15] at hp
      rw [U 27 (by decide), (T4 p (by omega)).1]
      rw [uR 17 (by decide) (by decide) (by decide)] at p5
      have l4 : (4 : Int32).toInt = 4 := by decide
      by_cases z : s.1 17 (12 + p) = 4
      · rw [if_pos z]; decide
      · rw [if_neg z]
        have : (s.1 17 (12 + p)).toInt ≠ 4 := fun y => z (Int32.toInt_inj.mp (by omega))
        omega
  have hSP : SP9 ρ u := by
    refine ⟨hTR, hW, ⟨fun p hp => ?_, fun r hr => ?_⟩, fun a p ha hp => ?_, fun r hr => ?_, fun p hp => ?_⟩
    · rw [u15] at hp
      rw [R7 p hp, U 27 (by decide), (T4 p (by omega)).1]
    · rw [u15] at hr
      have := ms r hr
      unfold MSd at this ⊢
      rw [cR 13 (by decide), cR 14 (by decide), uR 24 (by decide) (by decide) (by decide)]
      exact this
    · rw [u15] at hp
      have hz := R4 p (by omega)
      have ha2 : a = 0 ∨ a = 1 := by omega
      rw [U 28 (by decide), T3 _ (by omega)]
      rcases ha2 with rfl | rfl
      · exact hz.1
      · exact hz.2
    · rw [u15] at hr
      rw [R1 58 (by decide) (by decide) (by decide) (by decide) (by decide) (by decide) (by decide) (by decide), uR 26 (by decide) (by decide) (by decide)]
      exact (dr r hr).1
    · rw [u15] at hp
      rw [R3 p (by omega), U29 p (by omega)]
      exact ⟨rfl, .inl rfl⟩
  have hMB : MB u := MB_eq mb u15 (uR 24 (by decide) (by decide) (by decide))
  have hPB : PBd u 0 := fun i hi => by rw [U 28 (by decide), T3 i (by omega)]; decide
  -- the end
  have fin : ∀ (al n : Int32) (κ t : gS), JS ρ t0 κ t n → (∀ p : Nat, (p : Int) < (t.1 15 7).toInt → ¬ t.1 29 p = 0) → Re (bd (fX6_putPoints κ) fun σ8 => some (al, σ8)) (lpc (S := Int32 × gS) K9 (fun rec s' => bX10_starts_133 t al (fun a2 σ1 => rec (a2, σ1)) s'.1 s'.2) (0, t)) (fun oc om => oc.1 = om.1 ∧ GE oc.2 om.2) := by
    intro al n κ t hJ all
    obtain ⟨hS, hM, hP, hn, c1, c2, m1, m2, m3⟩ := hJ
    obtain ⟨x, ex, μ, ⟨p1, p2, p3⟩, q1, q2, q3⟩ := k_putPoints hS (fun i hi => by rw [c1 53 (by decide) (by decide) (by decide) (by decide) (by decide) (by decide) (by decide) (by decide), c1 54 (by decide) (by decide) (by decide) (by decide) (by decide) (by decide) (by decide) (by decide)]; exact R5 i hi) all
    obtain ⟨y, ey, y0, ν, ⟨n1, n2, n3, n4⟩, o1, o2, o3, o4⟩ := m_points133 hS.2.1 al
    rw [q_bd ex, ey]
    refine ⟨_, _, rfl, rfl, y0.symm, ?_⟩
    have t15 : t.1 15 = s.1 15 := (m1 15 (by decide) (by decide) (by decide)).trans n15
    have y15 : y.2.1 15 = s.1 15 := by rw [o1 15 (by decide), n1 15 (by decide), t15]
    have yk : ∀ k, k ≠ 28 → y.2.1 k = t.1 k := fun k hk => (o1 k hk).trans (n1 k hk)
    have xk : ∀ k, k ≠ 53 → k ≠ 54 → x.1 k = κ.1 k := fun k k1 k2 => (q1 k k1 k2).trans (p1 k k1 k2)
    have t36 : t.1 0 = s.1 0 := (m1 0 (by decide) (by decide) (by decide)).trans (T1 0 (by decide) (by decide) (by decide))
    have y28 : ∀ i, i < 12 ∨ (32 ≤ i ∧ i < 50) ∨ 70 ≤ i → y.2.1 28 i = t.1 28 i := fun i hi => (o3 i hi).trans (n3 i hi)
    have k47 : κ.1 47 1 = s.1 0 36 := by
      rw [c1 47 (by decide) (by decide) (by decide) (by decide) (by decide) (by decide) (by decide) (by decide), R1 47 (by decide) (by decide) (by decide) (by decide) (by decide) (by decide) (by decide) (by decide)]
      exact e47
    refine ⟨?_, ?_, fun p hp => ?_, fun a p ha hp => ?_, fun a q ha hq => ?_, fun a d ha hd => ?_, fun r hr => ?_, fun r hr => ?_⟩
    · show x.1 47 1 = y.2.1 0 36
      rw [xk 47 (by decide) (by decide), yk 0 (by decide), k47, t36]
    · rw [yk 0 (by decide), t36]; exact b36
    · rw [y15, ← t15] at hp
      show x.1 48 p = y.2.1 27 p ∧ _
      rw [xk 48 (by decide) (by decide), yk 27 (by decide)]
      exact ⟨hS.2.2.1.1 p hp, (hS.2.1.2.2 p hp).2.2⟩
    · rw [y15, ← t15] at hp
      have b := hS.2.1.1.2.2.1
      show x.1 (50 + a) p = y.2.1 28 _
      rw [xk _ (by omega) (by omega), y28 _ (by omega)]
      exact hS.2.2.2.1 a p ha hp
    · rw [y15, ← t15] at hq
      have b := hS.2.1.1.2.1
      have X := q3 q hq
      have n15' : ν.1 15 = t.1 15 := n1 15 (by decide)
      have Y := o4 q (by rw [n15']; exact hq)
      have fx := fx_of (σ := κ) (s := t) hS.1 hS.2.1 (by rw [k47, t36]) (by rw [t36]; exact b36) q hq
      have fν : freeM ν q ↔ freeM t q := by
        unfold freeM
        rw [isC_eq (n1 20 (by decide)) (by rw [n1 0 (by decide)])]
      have fμ : fixK μ q ↔ fixK κ q := by
        unfold fixK
        rw [p1 16 (by decide) (by decide), p1 47 (by decide) (by decide)]
      have Q := hS.1.2.2.2.1 q hq
      have ha2 : a = 0 ∨ a = 1 := by omega
      have V : x.1 53 q = y.2.1 28 (12 + q) ∧ x.1 54 q = y.2.1 28 (50 + q) := by
        by_cases z : fixK κ q
        · have zM : ¬ freeM t q := fun y => z (fx.mpr y)
          have X1 := X.1 (fμ.mpr z)
          have Y1 := Y.1 (fun y => zM (fν.mp y))
          have z20 : ¬ t.1 20 (20 + q) = 0 := fun y => z (by rw [Q.1, y]; exact Int32.zero_and)
          obtain ⟨g1, g2, -⟩ := Q.2.2.2 z20
          rw [X1.1, X1.2, Y1.1, Y1.2, p1 18 (by decide) (by decide), p1 19 (by decide) (by decide), n1 21 (by decide), g1, g2]
          exact ⟨rfl, rfl⟩
        · have zM : freeM t q := fx.mp (Decidable.not_not.mp z)
          have X1 := X.2 (fun y => z (fμ.mp y))
          have Y1 := Y.2 (fν.mpr zM)
          have N4 := n4 q (by omega)
          rw [X1.1, X1.2, Y1.1, Y1.2, (p3 q hq).1, (p3 q hq).2, N4.1, N4.2]
          exact ⟨rfl, rfl⟩
      rcases ha2 with rfl | rfl
      · show x.1 53 q = y.2.1 28 _
        rw [V.1, show 38 * 0 + (12 + q) = 12 + q by omega]
      · show x.1 54 q = y.2.1 28 _
        rw [V.2, show 38 * 1 + (12 + q) = 50 + q by omega]
    · rw [y15] at hd
      have ha2 : a = 0 ∨ a = 1 := by omega
      show x.1 (56 + a) d = y.2.1 28 _
      rw [xk _ (by omega) (by omega), c1 _ (by omega) (by omega) (by omega) (by omega) (by omega) (by omega) (by omega) (by omega), y28 _ (by omega), m3 _ (by omega), T3 _ (by omega)]
      rcases ha2 with rfl | rfl
      · exact (R6 d (by omega)).1
      · exact (R6 d (by omega)).2
    · rw [y15] at hr
      have d2 := (dr r hr).2
      rw [← t15] at hr
      show x.1 58 r = y.2.1 26 r ∧ _
      rw [xk 58 (by decide) (by decide), yk 26 (by decide)]
      refine ⟨hS.2.2.2.2.1 r hr, ?_⟩
      rw [m1 26 (by decide) (by decide) (by decide), T1 26 (by decide) (by decide) (by decide)]
      exact d2
    · rw [y15, ← t15] at hr
      have := hS.2.2.1.2 r hr
      unfold MSd at this ⊢
      show x.1 13 r = _ ∧ x.1 14 r = _ ∧ _
      rw [xk 13 (by decide) (by decide), xk 14 (by decide) (by decide), yk 24 (by decide)]
      exact this
  by_cases z7 : s.1 15 7 = 0
  · rw [if_pos z7]
    have n7 : (u.1 15 7).toInt.toNat = 0 := by rw [u15, z7]; decide
    refine main_2 K9 (by unfold K9; omega) (ρ := ρ) (t0 := t0) fin ⟨?_, ?_, ?_, ?_, fun _ _ _ _ _ _ _ _ _ => rfl, rfl, fun _ _ _ _ => rfl, rfl, fun _ _ => rfl⟩
    · obtain ⟨g1, g2, g3, g4, g5, g6⟩ := hSP
      have V : ∀ k, k ≠ 29 → t0.1 k = u.1 k := fun k hk => (U k hk).symm
      refine ⟨TR_k g1 (fun _ _ => rfl) (fun k k1 k2 => V k (by omega)) (by rw [hu]; rfl), ?_, ?_, ?_, ?_, fun p hp => ?_⟩
      · unfold WF
        rw [V 15 (by decide), V 22 (by decide), V 23 (by decide), V 25 (by decide), V 16 (by decide), V 18 (by decide), V 27 (by decide)]
        exact g2
      · unfold TN MSd
        rw [V 15 (by decide), V 24 (by decide), V 27 (by decide)]
        exact g3
      · rw [V 15 (by decide), V 28 (by decide)]; exact g4
      · rw [V 15 (by decide), V 26 (by decide)]; exact g5
      · rw [V 15 (by decide), u15, z7] at hp
        omega
    · exact MB_eq hMB (U 15 (by decide)).symm (U 24 (by decide)).symm
    · unfold PBd; rw [← U 28 (by decide)]; exact hPB
    · unfold cS
      rw [n15, z7]
      exact z0
  · rw [if_neg z7]
    have p7 : 0 < (s.1 15 7).toInt := by
      have : (s.1 15 7).toInt ≠ 0 := fun y => z7 (Int32.toInt_inj.mp (by omega))
      omega
    obtain ⟨o, r, eo, er, F1, F2, F3, F4⟩ := next_2 hSP
    have hr : r = -1 := by
      rcases F4 with F4 | ⟨-, -, N, q, hq, hq2⟩
      · exact F4
      · obtain ⟨r', j, -, j1, -, -, j2, -⟩ := ln_at hW N hq hq2
        have s1 := (of_decide_eq_true (sr_in hW j1 j2)).2.2
        have W := (hW.2.1 j j1).1
        rw [u15] at W
        exact absurd (U29 (pO u j) (by unfold pO; omega)) s1
    have hSo : SP9 o.2 u := SP_c hSP (fun k hk => F2 k (by omega) (by omega) (by omega) (by omega))
    have hNS : NS u = 0 := by
      unfold NS
      rw [u15, show (s.1 15 7).toInt.toNat = ((s.1 15 7).toInt.toNat - 1) + 1 by omega, fI_t (decide_eq_true (U29 0 (by omega)))]
      rfl
    have e7 : ρ.1 3 ((1 : Int32).toNatClampNeg) = s.1 15 7 := by rw [cR 3 (by decide)]; exact (tr_n h).2.2.1
    have hE : gsI u 29 0 1 = t0 := by
      refine Prod.ext (funext fun k => funext fun i => ?_) (by rw [hu]; rfl)
      rw [gsI_1, hu, gsI_1]
      by_cases z : k = 29 ∧ i = 0
      · rw [if_pos z, z.1, z.2, (T4 0 (by decide)).2, if_pos rfl]
      · rw [if_neg z, if_neg z]
    have hS1 : SP9 (gsI o.2 84 0 1) t0 := by
      have := SP_st (P := 0) hSo
      rw [hE] at this
      exact this
    have hc0 : cS t0 = 1 := by
      have hf := cS_flip (t := u) (u := t0) (P := 0) (by rw [n15, u15]) (by rw [u15]; omega) (U29 0 (by decide)) (fun i => by rw [← hE]; exact gsI_at)
      rw [hf]
      unfold cS
      rw [sW_0 _ (fun r hr => decide_eq_false (fun z => ?_))]
      · rfl
      · rw [u15] at hr
        rw [U29 r (by omega)] at z
        exact absurd z (by decide)
    have s1 : ∀ rec : Int32 × Int32 × gS → Option (Int32 × gS), bX6_begin_8 ρ (fun a1 a2 σ1 => rec (a1, a2, σ1)) 0 0 ρ = rec (1, 1, gsI o.2 84 0 1) := fun rec => by
      unfold bX6_begin_8
      rw [q_gd (by decide), nm_eq, e7, if_neg (q_nle (by omega)), q_bd2 eo, F1, hr, nm_eq, if_pos rfl, q_bd (k_findUn hSo), hNS, nm_eq, nm_eq]
      unfold jX6_begin_47
      rw [if_neg (by decide), q_gd (by decide), nm_eq, nm_eq]
      rfl
    rw [lpc_pos (by unfold K9; omega)]
    show Re (bX6_begin_8 ρ _ 0 0 ρ) _ _
    rw [s1]
    obtain ⟨K, hK⟩ : ∃ K, K9 - 1 = K := ⟨_, rfl⟩
    have hKp : K = 1048575 := by rw [← hK]; rfl
    rw [hK]
    refine main_2 K (by omega) (ρ := ρ) (t0 := t0) fin ⟨hS1, ?_, ?_, hc0.symm, fun k k1 k2 k3 k4 k5 k6 k7 k8 => ?_, F3, fun _ _ _ _ => rfl, rfl, fun _ _ => rfl⟩
    · exact MB_eq hMB (U 15 (by decide)).symm (U 24 (by decide)).symm
    · unfold PBd; rw [← U 28 (by decide)]; exact PBd_le hPB (by decide)
    · rw [gsI_row k1]
      exact F2 k k2 k3 k4 k5
end P12Y7
