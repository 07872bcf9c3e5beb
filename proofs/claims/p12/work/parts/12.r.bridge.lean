/-! THE GEOMETRY: what both sides' rounds come to is alike -/
section P12R
/-- places of one axis, rows in use, what is TURNED: alike -/
noncomputable def PA (σ s : gS) (a : Int32) : Prop := (∀ p : Nat, (p : Int) < (s.1 15 7).toInt → σ.1 (50 + a.toInt.toNat) p = s.1 28 (38 * a.toInt.toNat + p)) ∧ (∀ q : Nat, (q : Int) < (s.1 15 8).toInt → σ.1 (53 + a.toInt.toNat) q = s.1 28 (38 * a.toInt.toNat + (12 + q))) ∧ (∀ t : Nat, (t : Int) < (s.1 15 6).toInt → σ.1 (56 + a.toInt.toNat) t = s.1 28 (38 * a.toInt.toNat + (32 + t))) ∧ (∀ r : Nat, (r : Int) < (s.1 15 9).toInt → σ.1 (94 + a.toInt.toNat) r = tO s r a) ∧ ∀ r : Nat, (r : Int) < (s.1 15 9).toInt → σ.1 58 r = s.1 26 r
theorem tr_n {σ s : gS} (h : TRd σ s) : σ.1 3 3 = s.1 15 9 ∧ σ.1 3 2 = s.1 15 8 ∧ σ.1 3 1 = s.1 15 7 ∧ σ.1 3 0 = s.1 15 6 := ⟨h.1 3 (by decide), h.1 2 (by decide), h.1 1 (by decide), h.1 0 (by decide)⟩
theorem tr_row {σ s : gS} (h : TRd σ s) {r : Nat} (hr : (r : Int) < (s.1 15 9).toInt) : pK σ r = pO s r ∧ qK σ r = qO s r ∧ wK σ r = wO s r := by
  obtain ⟨a, b, -, -, c, -⟩ := h.2.2.2.2 r hr
  refine ⟨?_, ?_, ?_⟩
  · unfold pK pO; rw [a]
  · unfold qK qO; rw [b]
  · unfold wK wO; rw [c]
theorem br_Q {σ s : gS} (h : TRd σ s) (w : WF s) {a : Int32} (p : PA σ s a) {q : Nat} (hq : (q : Int) < (s.1 15 8).toInt) : nQK σ a.toInt.toNat q = if σ.1 16 q &&& σ.1 47 1 = 0 then nQ s q a else (s.1 28 (38 * a.toInt.toNat + (12 + q))).toInt := by
  obtain ⟨p1, p2, p3, p4, p5⟩ := p
  obtain ⟨n3, -⟩ := tr_n h
  unfold nQK
  rw [p2 q hq]
  by_cases z : σ.1 16 q &&& σ.1 47 1 = 0
  · rw [if_pos z, if_pos z, n3]
    unfold nQ
    have u : ∀ r, r < (s.1 15 9).toInt.toNat → uQK σ q r = uQ s q r := fun r hr => by
      unfold uQK uQ
      rw [p5 r (by omega), (tr_row h (by omega)).2.1]
    rw [sW_eq _ (fun r hr => ⟨u r hr, fun _ => (tr_row h (by omega)).2.2⟩), sS_eq (t := fun r => (tQK σ a.toInt.toNat r).toInt) (y := fun r => (puO s r a).toInt) _ (fun r hr => ⟨u r hr, fun _ => ⟨(tr_row h (by omega)).2.2, by
      have W := (w.2.1 r (by omega)).1
      unfold tQK puO
      rw [(tr_row h (by omega)).1, p4 r (by omega), p1 (pO s r) (by unfold pO; omega)]⟩⟩)]
  · rw [if_neg z, if_neg z]
    exact if_neg (by decide)
theorem sS_eq0 {u v : Nat → Bool} {w x t y : Nat → Int} : ∀ n, (∀ r, r < n → u r = v r ∧ w r = x r ∧ (x r ≠ 0 → t r = y r)) → sS n u w t = sS n v x y
  | 0, _ => rfl
  | n + 1, h => by
    obtain ⟨h1, h2, h3⟩ := h n (by omega)
    rw [sS_1, sS_1, sS_eq0 n (fun r hr => h r (by omega)), h1, h2]
    by_cases z : x n = 0
    · rw [z, Int.zero_mul, Int.zero_mul]
    · rw [h3 z]
theorem brg_c {σ s : gS} {a : Int32} (a0 : 0 ≤ a.toInt) (a1 : a.toInt ≤ 1) {q : Nat} (c0 : σ.1 22 q = s.1 19 (24 + 2 * q)) (c1 : σ.1 23 q = s.1 19 (24 + (2 * q + 1))) : σ.1 (22 + a.toInt.toNat) q = s.1 19 (24 + (2 * q + a.toInt.toNat)) := by
  by_cases z : a.toInt.toNat = 0
  · rw [z]
    exact c0
  · have : a.toInt.toNat = 1 := by omega
    rw [this]
    exact c1
theorem br_P {σ s : gS} (h : TRd σ s) (w : WF s) {a : Int32} (a0 : 0 ≤ a.toInt) (a1 : a.toInt ≤ 1) (p : PA σ s a) {q : Nat} (hq : (q : Int) < (s.1 15 7).toInt) : nPK σ a.toInt.toNat q = nP s q a := by
  obtain ⟨p1, p2, p3, p4, p5⟩ := p
  obtain ⟨n3, -⟩ := tr_n h
  have T := h.2.2.1 q hq
  have W := w.2.2 q hq
  have hc : cK σ q = cO s q := by unfold cK cO; rw [T.2.2.1]
  have hs : sK σ q = sO s q := by unfold sK sO; rw [T.1]
  unfold nPK nP
  rw [p1 q hq, n3, hc]
  have u : ∀ r, r < (s.1 15 9).toInt.toNat → uPK σ q r = uP s q r := fun r hr => by
    unfold uPK uP
    rw [p5 r (by omega), (tr_row h (by omega)).1]
  rw [sW_eq _ (fun r hr => ⟨u r hr, fun _ => (tr_row h (by omega)).2.2⟩), sS_eq (t := fun r => (tPK σ a.toInt.toNat r).toInt) (y := fun r => (tP s a r).toInt) _ (fun r hr => ⟨u r hr, fun _ => ⟨(tr_row h (by omega)).2.2, by
    have W := (w.2.1 r (by omega)).2.1
    unfold tPK tP
    rw [(tr_row h (by omega)).2.1, p4 r (by omega), p2 (qO s r) (by unfold qO; omega)]⟩⟩)]
  by_cases z : s.1 18 (12 + q) = 0
  · have : cO s q = 0 := by unfold cO; rw [z]; decide
    rw [this, Int.zero_mul, Int.zero_mul]
  · have ct : cTK σ q a.toInt.toNat = cT s q a := by
      have C := T.2.2.2.2.2.2 z
      unfold cTK cT
      rw [hs, p3 (sO s q) (by unfold sO; omega)]
      rw [brg_c a0 a1 C.1 C.2]
    rw [ct]
theorem br_D {σ s : gS} (h : TRd σ s) (w : WF s) {a : Int32} (a0 : 0 ≤ a.toInt) (a1 : a.toInt ≤ 1) (p : PA σ s a) {t : Nat} (ht : (t : Int) < (s.1 15 6).toInt) : nDK σ a.toInt.toNat t = nD s t a := by
  obtain ⟨p1, p2, p3, p4, p5⟩ := p
  obtain ⟨-, -, n1, -⟩ := tr_n h
  unfold nDK nD
  rw [p3 t ht, n1]
  have u : ∀ r, r < (s.1 15 7).toInt.toNat → uDK σ t r = uD s t r := fun r hr => by
    unfold uDK uD sK sO
    rw [(h.2.2.1 r (by omega)).1]
  have c : ∀ r, r < (s.1 15 7).toInt.toNat → cK σ r = cO s r := fun r hr => by
    unfold cK cO
    rw [(h.2.2.1 r (by omega)).2.2.1]
  rw [sW_eq _ (fun r hr => ⟨u r hr, fun _ => c r hr⟩)]
  rw [sS_eq0 (t := fun p => (tDK σ a.toInt.toNat p).toInt) (y := fun p => (tD s a p).toInt) _ (fun r hr => ⟨u r hr, c r hr, fun z => ?_⟩)]
  have C := (h.2.2.1 r (by omega)).2.2.2.2.2.2 (fun y => z (by unfold cO; rw [y]; exact z0))
  unfold tDK tD
  rw [p1 r (by omega), brg_c a0 a1 C.1 C.2]
end P12R
