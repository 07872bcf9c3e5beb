/-! TIES, 1: what two pictures share; the reference -/
section P12ZX
noncomputable def bo (s : gS) (p1 p2 : Int32) (q : Nat) : Bool := decide (¬ RW9 s p1 (Int32.ofNat q) = -1 ∧ ¬ RW9 s p2 (Int32.ofNat q) = -1)
noncomputable def tDf (s : gS) (p1 p2 a : Int32) (q : Nat) : Int64 := (tO s (RW9 s p1 (Int32.ofNat q)).toInt.toNat a - tO s (RW9 s p2 (Int32.ofNat q)).toInt.toNat a).toInt64
noncomputable def tC (s : gS) (p1 p2 : Int32) : Nat → Int32
  | 0 => 0
  | q + 1 => if bo s p1 p2 q = true then tC s p1 p2 q + 1 else tC s p1 p2 q
noncomputable def tS (s : gS) (p1 p2 a : Int32) : Nat → Int64
  | 0 => 0
  | q + 1 => if bo s p1 p2 q = true then tS s p1 p2 a q + tDf s p1 p2 a q else tS s p1 p2 a q
theorem tC_in (s : gS) (p1 p2 : Int32) : ∀ n : Nat, n ≤ 100 → 0 ≤ (tC s p1 p2 n).toInt ∧ (tC s p1 p2 n).toInt ≤ n
  | 0, _ => by unfold tC; decide
  | n + 1, h => by
    have ih := tC_in s p1 p2 n (by omega)
    have l1 : (1 : Int32).toInt = 1 := by decide
    unfold tC
    by_cases z : bo s p1 p2 n = true
    · rw [if_pos z, iadd_toInt] <;> omega
    · rw [if_neg z]; omega
theorem tO_in {σ s : gS} (h : GT σ s) {r : Nat} (hr : (r : Int) < (s.1 15 9).toInt) (a : Int32) : -999900 ≤ (tO s r a).toInt ∧ (tO s r a).toInt ≤ 999900 := by
  have M := h.2.2.2.2.2.2.2.2.2.2 r hr
  exact tV_in M.2.2.1 M.2.2.2
theorem tDf_in {σ s : gS} (h : GT σ s) {p1 p2 : Int32} {q : Nat} (hb : bo s p1 p2 q = true) (a : Int32) : -1999800 ≤ (tDf s p1 p2 a q).toInt ∧ (tDf s p1 p2 a q).toInt ≤ 1999800 := by
  obtain ⟨h1, h2⟩ := of_decide_eq_true hb
  have b9 := (gt_n h).1
  obtain ⟨r1, k1, e1, -⟩ := ro_in (wf_gt h) h1
  obtain ⟨r2, k2, e2, -⟩ := ro_in (wf_gt h) h2
  have t1 := tO_in h k1 a
  have t2 := tO_in h k2 a
  have n1 : (RW9 s p1 (Int32.ofNat q)).toInt.toNat = r1 := by rw [e1, iofNat_toInt (by omega)]; omega
  have n2 : (RW9 s p2 (Int32.ofNat q)).toInt.toNat = r2 := by rw [e2, iofNat_toInt (by omega)]; omega
  unfold tDf
  rw [n1, n2, Int32.toInt_toInt64, isub_toInt] <;> omega
theorem tS_in {σ s : gS} (h : GT σ s) (p1 p2 a : Int32) : ∀ n : Nat, n ≤ 100 → -(1999800 * (tC s p1 p2 n).toInt) ≤ (tS s p1 p2 a n).toInt ∧ (tS s p1 p2 a n).toInt ≤ 1999800 * (tC s p1 p2 n).toInt
  | 0, _ => by unfold tC tS; decide
  | n + 1, hn => by
    have ih := tS_in h p1 p2 a n (by omega)
    have c := tC_in s p1 p2 n (by omega)
    have l1 : (1 : Int32).toInt = 1 := by decide
    unfold tC tS
    by_cases z : bo s p1 p2 n = true
    · have d := tDf_in h z a
      rw [if_pos z, if_pos z, ladd_toInt (by omega) (by omega), iadd_toInt (by omega) (by omega)]
      omega
    · rw [if_neg z, if_neg z]; exact ih
theorem m_tp {σ s : gS} (h : GT σ s) (p1 p2 : Int32) : fX10_tiePoints s p1 p2 = some (tC s p1 p2 (s.1 15 8).toInt.toNat) := by
  have w := wf_gt h
  obtain ⟨b9, b8, b7, b6⟩ := gt_n h
  have z0' := z0
  have key : Ok (fX10_tiePoints s p1 p2) (fun v => v = tC s p1 p2 (s.1 15 8).toInt.toNat) := by
    unfold fX10_tiePoints
    rw [nm_eq, nm_eq]
    refine ok_lpc (I := fun (n : Nat) (t : Int32 × Int32) => n = ((s.1 15 8).toInt - t.2.toInt).toNat ∧ 0 ≤ t.2.toInt ∧ t.2.toInt ≤ (s.1 15 8).toInt ∧ t.1 = tC s p1 p2 t.2.toInt.toNat) (fun rec n t hs hrec => ?_) K9 (s.1 15 8).toInt.toNat (0, 0) ⟨by dsimp only; omega, by dsimp only; omega, by dsimp only; omega, rfl⟩ (by unfold K9; omega)
    obtain ⟨c, q⟩ := t
    obtain ⟨hn, q0, q1, hc⟩ := hs
    dsimp only at hn q0 q1 hc ⊢
    unfold bX10_tiePoints_5
    simp only [nm_eq]
    rw [q_bd (m_points s)]
    refine ok_ite.mpr ⟨fun hk => ok_some.mpr ?_, fun hk => ?_⟩
    · have hk' := Int32.le_iff_toInt_le.mp hk
      rw [hc, show q.toInt.toNat = (s.1 15 8).toInt.toNat by omega]
    have hlt := q_gt hk
    have ei := i_inc (a := q) (c := 60) (by omega) (by omega) (by decide)
    have eq : Int32.ofNat q.toInt.toNat = q := i32_of q0
    have en : (q + 1).toInt.toNat = q.toInt.toNat + 1 := by omega
    have go : ∀ c1 : Int32, c1 = (if bo s p1 p2 q.toInt.toNat = true then c + 1 else c) → Ok (rec (c1, q + 1)) (fun v => v = tC s p1 p2 (s.1 15 8).toInt.toNat) := fun c1 h1 => hrec ((s.1 15 8).toInt - (q + 1).toInt).toNat _ (by omega) ⟨rfl, by dsimp only; omega, by dsimp only; omega, by
      dsimp only
      rw [en, h1, hc]
      rfl⟩
    unfold bo at go
    rw [eq] at go
    rw [q_bd (m9_rowOf w p1 q)]
    refine ok_ite.mpr ⟨fun z => go c ?_, fun z => ?_⟩
    · rw [if_neg (fun y => (of_decide_eq_true y).1 z)]
    rw [q_bd (m9_rowOf w p2 q)]
    refine ok_ite.mpr ⟨fun y => go c ?_, fun y => go (c + 1) ?_⟩
    · rw [if_neg (fun x => (of_decide_eq_true x).2 y)]
    · rw [if_pos (decide_eq_true ⟨z, y⟩)]
  obtain ⟨v, e, hv⟩ := key
  rw [e, hv]
theorem fl_in {x c : Int} {M : Int} (hc : 0 < c) (h0 : -(M * c) ≤ x) (h1 : x ≤ M * c) : -M ≤ x / c ∧ x / c ≤ M := by
  constructor
  · exact Int.le_ediv_of_mul_le hc (by rw [Int.neg_mul]; exact h0)
  · have := Int.ediv_le_ediv hc h1
    rw [Int.mul_ediv_cancel _ (Int.ne_of_gt hc)] at this
    exact this
/-- the reference's floor -/
theorem m_fl {x : Int64} {k : Int32} (hk : 0 < k.toInt) (k1 : k.toInt ≤ 100) (h0 : -(1999800 * k.toInt) ≤ x.toInt) (h1 : x.toInt ≤ 1999800 * k.toInt) : ∃ v : Int32, (gd (decide (¬ k.toInt64 = 0)) <| nm (x / k.toInt64 : Int64) fun x8 => gd (decide (¬ k.toInt64 = 0)) <| (if 0 ≤ (lrm x k.toInt64) then some x8.toInt32 else some ((x8 - 1).toInt32))) = some v ∧ v.toInt = x.toInt / k.toInt := by
  have l0 : (0 : Int64).toInt = 0 := by decide
  have l1 : (1 : Int64).toInt = 1 := by decide
  have ek : k.toInt64.toInt = k.toInt := Int32.toInt_toInt64 k
  have hn : ¬ k.toInt64 = 0 := fun z => by
    have := congrArg Int64.toInt z
    rw [ek, l0] at this
    omega
  have d := ld_gen (x := x) (c := k.toInt64) (by rw [ek]; exact hk)
  have r := lr_gen (x := x) (c := k.toInt64) (M := 1999800) (by rw [ek]; exact hk) (by rw [ek, Int.neg_mul]; exact h0) (by rw [ek]; exact h1) (by decide) (by rw [ek]; omega)
  rw [ek] at d r
  have B := fl_in hk h0 h1
  have f1 := Int.mul_ediv_add_emod x.toInt k.toInt
  have f2 := Int.emod_nonneg x.toInt (Int.ne_of_gt hk)
  have f3 := Int.emod_lt_of_pos x.toInt hk
  rw [q_gd (decide_eq_true hn), nm_eq, q_gd (decide_eq_true hn)]
  by_cases z : 0 ≤ x.toInt ∨ k.toInt ∣ x.toInt
  · have t := td_pos hk z
    have nn : 0 ≤ (lrm x k.toInt64).toInt := by
      rw [r, t, Int.mul_comm]
      omega
    rw [if_pos (Int64.le_iff_toInt_le.mpr (by rw [l0]; exact nn))]
    exact ⟨_, rfl, by rw [Int64.toInt_toInt32, d, t]; exact Int.bmod_eq_of_le (by omega) (by omega)⟩
  · have t := td_neg hk z
    have ne : x.toInt % k.toInt ≠ 0 := fun y => z (.inr (Int.dvd_of_emod_eq_zero y))
    have nn : (lrm x k.toInt64).toInt < 0 := by
      rw [r, t, Int.add_mul, Int.one_mul, Int.mul_comm]
      omega
    rw [if_neg (fun y => by have := Int64.le_iff_toInt_le.mp y; omega)]
    refine ⟨_, rfl, ?_⟩
    have e : (x / k.toInt64 - 1).toInt = x.toInt / k.toInt := by rw [lsub_toInt (by omega) (by omega), d, t]; omega
    rw [Int64.toInt_toInt32, e]
    exact Int.bmod_eq_of_le (by omega) (by omega)
theorem m_st9 {σ s : gS} (h : GT σ s) (p1 p2 : Int32) {a : Int32} (ha : a = 0 ∨ a = 1) (hp : 0 < (tC s p1 p2 (s.1 15 8).toInt.toNat).toInt) : ∃ v : Int32, fX10_step s p1 p2 a = some v ∧ v.toInt = (tS s p1 p2 a (s.1 15 8).toInt.toNat).toInt / (tC s p1 p2 (s.1 15 8).toInt.toNat).toInt := by
  have w := wf_gt h
  obtain ⟨b9, b8, b7, b6⟩ := gt_n h
  have z0' := z0
  have a0 : 0 ≤ a.toInt ∧ a.toInt ≤ 1 := by rcases ha with rfl | rfl <;> decide
  unfold fX10_step
  rw [nm_eq, nm_eq, nm_eq]
  refine ok_lpc (I := fun (n : Nat) (t : Int32 × Int64 × Int32) => n = ((s.1 15 8).toInt - t.2.2.toInt).toNat ∧ 0 ≤ t.2.2.toInt ∧ t.2.2.toInt ≤ (s.1 15 8).toInt ∧ t.1 = tC s p1 p2 t.2.2.toInt.toNat ∧ t.2.1 = tS s p1 p2 a t.2.2.toInt.toNat) (fun rec n t hs hrec => ?_) K9 (s.1 15 8).toInt.toNat (0, 0, 0) ⟨by dsimp only; omega, by dsimp only; omega, by dsimp only; omega, rfl, rfl⟩ (by unfold K9; omega)
  obtain ⟨c, x, q⟩ := t
  obtain ⟨hn, q0, q1, hc, hx⟩ := hs
  dsimp only at hn q0 q1 hc hx ⊢
  unfold bX10_step_9
  rw [q_bd (m_points s)]
  refine ok_ite.mpr ⟨fun hk => ?_, fun hk => ?_⟩
  · have hk' := Int32.le_iff_toInt_le.mp hk
    rw [show q.toInt.toNat = (s.1 15 8).toInt.toNat by omega] at hc hx
    rw [hc, hx]
    have c1 := tC_in s p1 p2 (s.1 15 8).toInt.toNat (by omega)
    have s1 := tS_in h p1 p2 a (s.1 15 8).toInt.toNat (by omega)
    exact m_fl hp (by omega) s1.1 s1.2
  have hlt := q_gt hk
  have ei := i_inc (a := q) (c := 60) (by omega) (by omega) (by decide)
  have eq : Int32.ofNat q.toInt.toNat = q := i32_of q0
  have en : (q + 1).toInt.toNat = q.toInt.toNat + 1 := by omega
  have go : ∀ (c1 : Int32) (x1 : Int64), c1 = (if bo s p1 p2 q.toInt.toNat = true then c + 1 else c) → x1 = (if bo s p1 p2 q.toInt.toNat = true then x + tDf s p1 p2 a q.toInt.toNat else x) → Ok (rec (c1, x1, q + 1)) (fun v => v.toInt = (tS s p1 p2 a (s.1 15 8).toInt.toNat).toInt / (tC s p1 p2 (s.1 15 8).toInt.toNat).toInt) := fun c1 x1 h1 h2 => hrec ((s.1 15 8).toInt - (q + 1).toInt).toNat _ (by omega) ⟨rfl, by dsimp only; omega, by dsimp only; omega, by
    dsimp only
    rw [en, h1, hc]
    rfl, by
    dsimp only
    rw [en, h2, hx]
    rfl⟩
  unfold bo tDf at go
  rw [eq] at go
  simp only [nm_eq]
  rw [q_bd (m9_rowOf w p1 q), q_bd (m9_rowOf w p2 q)]
  refine ok_ite.mpr ⟨fun z => go c x ?_ ?_, fun z => ?_⟩
  · rw [if_neg (fun y => (of_decide_eq_true y).1 z)]
  · rw [if_neg (fun y => (of_decide_eq_true y).1 z)]
  refine ok_ite.mpr ⟨fun y => go c x ?_ ?_, fun y => ?_⟩
  · rw [if_neg (fun x => (of_decide_eq_true x).2 y)]
  · rw [if_neg (fun x => (of_decide_eq_true x).2 y)]
  obtain ⟨r1, k1, e1, -⟩ := ro_in w z
  obtain ⟨r2, k2, e2, -⟩ := ro_in w y
  have i1 : (RW9 s p1 q).toInt = r1 := by rw [e1, iofNat_toInt (by omega)]
  have i2 : (RW9 s p2 q).toInt = r2 := by rw [e2, iofNat_toInt (by omega)]
  rw [q_bd (tu_2 ⟨h.2.1, h.2.2.1⟩ h.2.2.2 (r := RW9 s p1 q) (by omega) (by omega) a0.1 a0.2).2, q_bd (tu_2 ⟨h.2.1, h.2.2.1⟩ h.2.2.2 (r := RW9 s p2 q) (by omega) (by omega) a0.1 a0.2).2]
  refine go _ _ ?_ ?_
  · rw [if_pos (decide_eq_true ⟨z, y⟩)]
  · rw [if_pos (decide_eq_true ⟨z, y⟩)]
end P12ZX
