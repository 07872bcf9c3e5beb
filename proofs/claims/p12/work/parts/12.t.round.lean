/-! THE GEOMETRY: a round, on both sides -/
section P12T
theorem wfc_of {σ s : gS} (h : TRd σ s) (w : WF s) : WFC σ := by
  obtain ⟨n3, n2, n1, n0⟩ := tr_n h
  obtain ⟨w1, w2, w3⟩ := w
  unfold WFC
  rw [n3, n2, n1, n0]
  refine ⟨w1, fun r hr => ?_, fun p hp => ?_⟩
  · obtain ⟨a, b, -, -, c, -⟩ := h.2.2.2.2 r hr
    rw [a, b, c]
    exact w2 r hr
  · obtain ⟨a, -, c, -⟩ := h.2.2.1 p hp
    rw [a, c]
    exact ⟨(w3 p hp).1, (w3 p hp).2.1⟩
theorem TR_cong {σ s τ t : gS} (h : TRd σ s) (a : ∀ k, k < 47 → τ.1 k = σ.1 k) (b : ∀ k, k ≠ 0 → k ≠ 28 → t.1 k = s.1 k) (c : t.2 14 = s.2 14) : TRd τ t := by
  obtain ⟨h1, h2, h3, h4, h5⟩ := h
  unfold TRd PTd QTd RTd
  rw [a 3 (by decide), a 8 (by decide), a 9 (by decide), a 10 (by decide), a 11 (by decide), a 15 (by decide), a 16 (by decide), a 18 (by decide), a 19 (by decide), a 20 (by decide), a 22 (by decide), a 23 (by decide), b 15 (by decide) (by decide), b 16 (by decide) (by decide), b 17 (by decide) (by decide), b 18 (by decide) (by decide), b 19 (by decide) (by decide), b 20 (by decide) (by decide), b 21 (by decide) (by decide), b 22 (by decide) (by decide), b 23 (by decide) (by decide), b 25 (by decide) (by decide), c]
  exact ⟨h1, fun K i hK hi => by rw [a (5 + K) (by omega)]; exact h2 K i hK hi, h3, h4, h5⟩
theorem tO_eq {s t : gS} (b : ∀ k, k ≠ 0 → k ≠ 28 → t.1 k = s.1 k) (r : Nat) (a : Int32) : tO t r a = tO s r a := by
  unfold tO pO
  rw [b 27 (by decide) (by decide), b 22 (by decide) (by decide), b 24 (by decide) (by decide)]
/-- rows that stay on the class's side -/
theorem PA_c {σ τ s : gS} {a : Int32} (p : PA σ s a) (e : ∀ k, k = 50 + a.toInt.toNat ∨ k = 53 + a.toInt.toNat ∨ k = 56 + a.toInt.toNat ∨ k = 94 + a.toInt.toNat ∨ k = 58 → τ.1 k = σ.1 k) : PA τ s a := by
  unfold PA
  rw [e _ (.inl rfl), e _ (.inr (.inl rfl)), e _ (.inr (.inr (.inl rfl))), e _ (.inr (.inr (.inr (.inl rfl)))), e 58 (.inr (.inr (.inr (.inr rfl))))]
  exact p
theorem st_Q {σ s : gS} (h : TRd σ s) (w : WF s) {a : Int32} (a0 : 0 ≤ a.toInt) (a1 : a.toInt ≤ 1) (p : PA σ s a) (fx : ∀ q : Nat, (q : Int) < (s.1 15 8).toInt → (σ.1 16 q &&& σ.1 47 1 = 0 ↔ freeM s q)) {o : Int32 × gS} (v : CV σ (53 + a.toInt.toNat) (σ.1 3 2).toInt.toNat (nQK σ a.toInt.toNat) o) {f g : Int32} {s1 : gS} (m : SG s f (dn 12 (s.1 15 8).toInt.toNat (freeM s) (s.1 15 8).toInt.toNat 0) (fF 12 (nQ s)) s1 g) : PA o.2 s1 a := by
  obtain ⟨b9, b8, b7, b6⟩ := w.1
  obtain ⟨-, n2, -⟩ := tr_n h
  obtain ⟨m1, m2, m3, m4, m5, -⟩ := m
  have e15 := m1 15 (by decide) (by decide)
  unfold PA
  rw [e15]
  refine ⟨fun q hq => ?_, fun q hq => ?_, fun q hq => ?_, fun r hr => ?_, fun r hr => ?_⟩
  · rw [v.1 _ (by omega), p.1 q hq, m5 _ (by rintro ⟨q', a', h1, h2, h3, h4, h5⟩; omega)]
  · have e := v.2.2.1 q (by rw [n2]; omega)
    rw [br_Q h w p hq] at e
    by_cases z : σ.1 16 q &&& σ.1 47 1 = 0
    · rw [if_pos z] at e
      refine Int32.toInt_inj.mp ?_
      rw [e, m4 _ ⟨q, a.toInt.toNat, by omega, by omega, (fx q hq).mp z, rfl, .inl (by omega)⟩, fF_at a0 a1 (by omega)]
    · rw [if_neg z] at e
      rw [m5 _ (by
        rintro ⟨q', a', h1, h2, h3, h4, h5⟩
        have : q' = q := by omega
        rw [this] at h3
        exact z ((fx q hq).mpr h3))]
      exact Int32.toInt_inj.mp e
  · rw [v.1 _ (by omega), p.2.2.1 q hq, m5 _ (by rintro ⟨q', a', h1, h2, h3, h4, h5⟩; omega)]
  · rw [v.1 _ (by omega), p.2.2.2.1 r hr, tO_eq m1]
  · rw [v.1 _ (by omega), p.2.2.2.2 r hr, m1 26 (by decide) (by decide)]
theorem st_P {σ s : gS} (h : TRd σ s) (w : WF s) {a : Int32} (a0 : 0 ≤ a.toInt) (a1 : a.toInt ≤ 1) (p : PA σ s a) {o : Int32 × gS} {n : Nat} (hn : n = (σ.1 3 1).toInt.toNat) (v : CV σ (50 + a.toInt.toNat) n (nPK σ a.toInt.toNat) o) {f g : Int32} {s1 : gS} (m : SG s f (dn 0 (s.1 15 7).toInt.toNat (fun _ => True) (s.1 15 7).toInt.toNat 0) (fF 0 (nP s)) s1 g) : PA o.2 s1 a := by
  obtain ⟨b9, b8, b7, b6⟩ := w.1
  obtain ⟨-, -, n1, -⟩ := tr_n h
  obtain ⟨m1, m2, m3, m4, m5, -⟩ := m
  have e15 := m1 15 (by decide) (by decide)
  unfold PA
  rw [e15]
  refine ⟨fun q hq => ?_, fun q hq => ?_, fun q hq => ?_, fun r hr => ?_, fun r hr => ?_⟩
  · have e := v.2.2.1 q (by rw [hn, n1]; omega)
    rw [br_P h w a0 a1 p hq] at e
    refine Int32.toInt_inj.mp ?_
    have m4' := m4 (38 * a.toInt.toNat + (0 + q)) ⟨q, a.toInt.toNat, by omega, by omega, trivial, rfl, .inl (by omega)⟩
    rw [fF_at a0 a1 (by omega), Nat.zero_add] at m4'
    rw [e, m4']
  · rw [v.1 _ (by omega), p.2.1 q hq, m5 _ (by rintro ⟨q', a', h1, h2, h3, h4, h5⟩; omega)]
  · rw [v.1 _ (by omega), p.2.2.1 q hq, m5 _ (by rintro ⟨q', a', h1, h2, h3, h4, h5⟩; omega)]
  · rw [v.1 _ (by omega), p.2.2.2.1 r hr, tO_eq m1]
  · rw [v.1 _ (by omega), p.2.2.2.2 r hr, m1 26 (by decide) (by decide)]
theorem st_D {σ s : gS} (h : TRd σ s) (w : WF s) {a : Int32} (a0 : 0 ≤ a.toInt) (a1 : a.toInt ≤ 1) (p : PA σ s a) {o : Int32 × gS} {n : Nat} (hn : n = (σ.1 3 0).toInt.toNat) (v : CV σ (56 + a.toInt.toNat) n (nDK σ a.toInt.toNat) o) {f g : Int32} {s1 : gS} (m : SG s f (dn 32 (s.1 15 6).toInt.toNat (fun _ => True) (s.1 15 6).toInt.toNat 0) (fF 32 (nD s)) s1 g) : PA o.2 s1 a := by
  obtain ⟨b9, b8, b7, b6⟩ := w.1
  obtain ⟨-, -, -, n0⟩ := tr_n h
  obtain ⟨m1, m2, m3, m4, m5, -⟩ := m
  have e15 := m1 15 (by decide) (by decide)
  unfold PA
  rw [e15]
  refine ⟨fun q hq => ?_, fun q hq => ?_, fun q hq => ?_, fun r hr => ?_, fun r hr => ?_⟩
  · rw [v.1 _ (by omega), p.1 q hq, m5 _ (by rintro ⟨q', a', h1, h2, h3, h4, h5⟩; omega)]
  · rw [v.1 _ (by omega), p.2.1 q hq, m5 _ (by rintro ⟨q', a', h1, h2, h3, h4, h5⟩; omega)]
  · have e := v.2.2.1 q (by rw [hn, n0]; omega)
    rw [br_D h w a0 a1 p hq] at e
    refine Int32.toInt_inj.mp ?_
    rw [e, m4 _ ⟨q, a.toInt.toNat, by omega, by omega, trivial, rfl, .inl (by omega)⟩, fF_at a0 a1 (by omega)]
  · rw [v.1 _ (by omega), p.2.2.2.1 r hr, tO_eq m1]
  · rw [v.1 _ (by omega), p.2.2.2.2 r hr, m1 26 (by decide) (by decide)]
/-- nothing is altered on the one side if and only if nothing is on the other -/
theorem fl_2 {X0 X1 Y0 Y1 : Nat → Int32} {T U : Nat → Int32} {c n : Nat} {R : Nat → Prop} (x0 : ∀ q, q < n → X0 q = T (38 * 0 + (c + q))) (x1 : ∀ q, q < n → X1 q = T (38 * 1 + (c + q))) (y0 : ∀ q, q < n → Y0 q = U (38 * 0 + (c + q))) (y1 : ∀ q, q < n → Y1 q = U (38 * 1 + (c + q))) (z0 : ∀ q, n ≤ q → Y0 q = X0 q) (z1 : ∀ q, n ≤ q → Y1 q = X1 q) (hU : ∀ I, ¬ dn c n R n 0 I → U I = T I) : U = T ↔ Y0 = X0 ∧ Y1 = X1 := by
  constructor
  · intro e
    constructor
    · funext q
      by_cases z : q < n
      · rw [y0 q z, e, x0 q z]
      · exact z0 q (by omega)
    · funext q
      by_cases z : q < n
      · rw [y1 q z, e, x1 q z]
      · exact z1 q (by omega)
  · rintro ⟨e0, e1⟩
    funext I
    by_cases z : dn c n R n 0 I
    · obtain ⟨q', a', h1, h2, h3, h4, h5⟩ := z
      have : a' = 0 ∨ a' = 1 := by omega
      rcases this with rfl | rfl
      · rw [h4, ← y0 q' h2, e0, x0 q' h2]
      · rw [h4, ← y1 q' h2, e1, x1 q' h2]
    · exact hU I z
end P12T
