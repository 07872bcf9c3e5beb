/-! THE GEOMETRY: a round, on the reference's side, as a whole -/
section P12M
/-- some places of row 28 are made anew (D), each as F says; a flag that tells whether any is altered -/
noncomputable def SG (σ : gS) (f : Int32) (D : Nat → Prop) (F : Nat → Int) (s : gS) (g : Int32) : Prop := (∀ k, k ≠ 0 → k ≠ 28 → s.1 k = σ.1 k) ∧ (∀ i, i ≠ 41 → s.1 0 i = σ.1 0 i) ∧ (∀ k i, ¬ (k = 0 ∧ i = 40) → s.2 k i = σ.2 k i) ∧ (∀ I, D I → (s.1 28 I).toInt = F I) ∧ (∀ I, ¬ D I → s.1 28 I = σ.1 28 I) ∧ (g = 0 ∨ g = 1) ∧ (g = 0 ↔ f = 0 ∧ s.1 28 = σ.1 28)
theorem SG_0 {σ : gS} {f : Int32} {D : Nat → Prop} {F : Nat → Int} (hf : f = 0 ∨ f = 1) (hD : ∀ I, ¬ D I) : SG σ f D F σ f := ⟨fun _ _ _ => rfl, fun _ _ => rfl, fun _ _ _ => rfl, fun I h => absurd h (hD I), fun _ _ => rfl, hf, ⟨fun h => ⟨h, rfl⟩, fun h => h.1⟩⟩
theorem SG_D {σ s : gS} {f g : Int32} {D E : Nat → Prop} {F : Nat → Int} (h : SG σ f D F s g) (e : ∀ I, D I ↔ E I) : SG σ f E F s g := ⟨h.1, h.2.1, h.2.2.1, fun I z => h.2.2.2.1 I ((e I).mpr z), fun I z => h.2.2.2.2.1 I (fun y => z ((e I).mp y)), h.2.2.2.2.2⟩
theorem SG_step {σ s : gS} {f g : Int32} {D E : Nat → Prop} {F : Nat → Int} {I : Nat} {x : Int} {o : Int32 × gS} (h : SG σ f D F s g) (hI : ¬ D I) (hx : x = F I) (m : MV s I x o) (e : ∀ J, E J ↔ D J ∨ J = I) : SG σ f E F o.2 (if o.1 = 0 then g else 1) := by
  obtain ⟨h1, h2, h3, h4, h5, h6, h7⟩ := h
  obtain ⟨m1, m2, m3, m4, m5, m6⟩ := m
  refine ⟨fun k a b => (m1 k a b).trans (h1 k a b), fun i hi => (m2 i hi).trans (h2 i hi), fun k i a => (m6 k i a).trans (h3 k i a), fun J hJ => ?_, fun J hJ => ?_, ?_, ?_⟩
  · by_cases z : J = I
    · rw [z, m4, hx]
    · rw [m3 J z]
      exact h4 J (((e J).mp hJ).resolve_right z)
  · have z : J ≠ I := fun z => hJ ((e J).mpr (.inr z))
    rw [m3 J z]
    exact h5 J (fun y => hJ ((e J).mpr (.inl y)))
  · by_cases z : o.1 = 0
    · rw [if_pos z]; exact h6
    · rw [if_neg z]; exact .inr rfl
  · by_cases y : (s.1 28 I).toInt = x
    · have o0 : o.1 = 0 := by rw [m5, if_pos y]
      have e28 : o.2.1 28 = s.1 28 := funext fun J => by
        by_cases z : J = I
        · rw [z]; exact Int32.toInt_inj.mp (by rw [m4, y])
        · exact m3 J z
      rw [if_pos o0, e28]
      exact h7
    · have o1 : o.1 = 1 := by rw [m5, if_neg y]
      rw [o1, if_neg one_ne]
      refine ⟨fun z => absurd z one_ne, fun z => ?_⟩
      exact absurd (by rw [h5 I hI, ← z.2, m4]) y
theorem rem_38 {a j : Nat} (ha : a < 2) (hj : j < 38) : (38 * a + j) / 38 = a ∧ (38 * a + j) % 38 = j := by omega
theorem ofA {a : Int32} (a0 : 0 ≤ a.toInt) (a1 : a.toInt ≤ 1) : Int32.ofNat a.toInt.toNat = a := i32_of a0
theorem nD_eq {σ s : gS} {q : Nat} {a : Int32} (e : ∀ k, k ≠ 0 → k ≠ 28 → s.1 k = σ.1 k) (ep : ∀ p : Nat, p < 12 → s.1 28 (38 * a.toInt.toNat + p) = σ.1 28 (38 * a.toInt.toNat + p)) (h7 : (σ.1 15 7).toInt ≤ 12) (ex : s.1 28 (38 * a.toInt.toNat + (32 + q)) = σ.1 28 (38 * a.toInt.toNat + (32 + q))) : nD s q a = nD σ q a := by
  unfold nD
  rw [ex, e 15 (by decide) (by decide)]
  have u : ∀ r, uD s q r = uD σ q r := fun r => by unfold uD sO; rw [e 16 (by decide) (by decide)]
  have w : ∀ r, cO s r = cO σ r := fun r => by unfold cO; rw [e 18 (by decide) (by decide)]
  rw [sW_eq _ (fun r _ => ⟨u r, fun _ => w r⟩), sS_eq (t := fun p => (tD s a p).toInt) (y := fun p => (tD σ a p).toInt) _ (fun r hr => ⟨u r, fun _ => ⟨w r, by unfold tD; rw [ep r (by omega), e 19 (by decide) (by decide)]⟩⟩)]
theorem nP_eq {σ s : gS} {p : Nat} {a : Int32} (h : WF σ) (e : ∀ k, k ≠ 0 → k ≠ 28 → s.1 k = σ.1 k) (hp : (p : Int) < (σ.1 15 7).toInt) (eq : ∀ q : Nat, q < 20 → s.1 28 (38 * a.toInt.toNat + (12 + q)) = σ.1 28 (38 * a.toInt.toNat + (12 + q))) (ed : ∀ t : Nat, t < 6 → s.1 28 (38 * a.toInt.toNat + (32 + t)) = σ.1 28 (38 * a.toInt.toNat + (32 + t))) (ex : s.1 28 (38 * a.toInt.toNat + p) = σ.1 28 (38 * a.toInt.toNat + p)) : nP s p a = nP σ p a := by
  unfold nP
  rw [ex, e 15 (by decide) (by decide)]
  have u : ∀ r, uP s p r = uP σ p r := fun r => by unfold uP pO; rw [e 22 (by decide) (by decide), e 26 (by decide) (by decide)]
  have w : ∀ r, wO s r = wO σ r := fun r => by unfold wO; rw [e 25 (by decide) (by decide)]
  have c : cO s p = cO σ p := by unfold cO; rw [e 18 (by decide) (by decide)]
  have t : cT s p a = cT σ p a := by
    have := h.2.2 p hp
    have := h.1.2.2.2
    unfold cT sO
    rw [e 16 (by decide) (by decide), e 19 (by decide) (by decide), ed _ (by omega)]
  have to : ∀ r, tO s r a = tO σ r a := fun r => by unfold tO pO; rw [e 27 (by decide) (by decide), e 22 (by decide) (by decide), e 24 (by decide) (by decide)]
  rw [c, t, sW_eq _ (fun r _ => ⟨u r, fun _ => w r⟩), sS_eq (t := fun r => (tP s a r).toInt) (y := fun r => (tP σ a r).toInt) _ (fun r hr => ⟨u r, fun _ => ⟨w r, by
    have := (h.2.1 r (by omega)).2.1
    have := h.1.2.1
    skip
    unfold tP qO
    rw [to, e 23 (by decide) (by decide), eq _ (by omega)]⟩⟩)]
theorem nQ_eq {σ s : gS} {q : Nat} {a : Int32} (h : WF σ) (e : ∀ k, k ≠ 0 → k ≠ 28 → s.1 k = σ.1 k) (ep : ∀ p : Nat, p < 12 → s.1 28 (38 * a.toInt.toNat + p) = σ.1 28 (38 * a.toInt.toNat + p)) (ex : s.1 28 (38 * a.toInt.toNat + (12 + q)) = σ.1 28 (38 * a.toInt.toNat + (12 + q))) : nQ s q a = nQ σ q a := by
  unfold nQ
  rw [ex, e 15 (by decide) (by decide)]
  have u : ∀ r, uQ s q r = uQ σ q r := fun r => by unfold uQ qO; rw [e 23 (by decide) (by decide), e 26 (by decide) (by decide)]
  have w : ∀ r, wO s r = wO σ r := fun r => by unfold wO; rw [e 25 (by decide) (by decide)]
  have to : ∀ r, tO s r a = tO σ r a := fun r => by unfold tO pO; rw [e 27 (by decide) (by decide), e 22 (by decide) (by decide), e 24 (by decide) (by decide)]
  rw [sW_eq _ (fun r _ => ⟨u r, fun _ => w r⟩), sS_eq (t := fun r => (puO s r a).toInt) (y := fun r => (puO σ r a).toInt) _ (fun r hr => ⟨u r, fun _ => ⟨w r, by
    have := (h.2.1 r (by omega)).1
    have := h.1.2.2.1
    skip
    unfold puO
    rw [to]
    unfold pO
    rw [e 22 (by decide) (by decide), ep _ (by omega)]⟩⟩)]
/-- drifts done ahead of strip q, axis a -/
noncomputable def dnD (q a : Nat) (I : Nat) : Prop := ∃ q' a' : Nat, a' < 2 ∧ q' < 6 ∧ I = 38 * a' + (32 + q') ∧ (q' < q ∨ (q' = q ∧ a' < a))
noncomputable def fD (σ : gS) (I : Nat) : Int := nD σ (I % 38 - 32) (Int32.ofNat (I / 38))
theorem dn_step {c : Nat} {q a J : Nat} (hc : c + q < 38) (ha : a < 2) {b : Nat} (hb : q < b) : (∃ q' a' : Nat, a' < 2 ∧ q' < b ∧ J = 38 * a' + (c + q') ∧ (q' < q ∨ (q' = q ∧ a' < a + 1))) ↔ (∃ q' a' : Nat, a' < 2 ∧ q' < b ∧ J = 38 * a' + (c + q') ∧ (q' < q ∨ (q' = q ∧ a' < a))) ∨ J = 38 * a + (c + q) := by
  constructor
  · rintro ⟨q', a', h1, h2, h3, h4⟩
    by_cases z : q' = q ∧ a' = a
    · exact .inr (by rw [h3, z.1, z.2])
    · exact .inl ⟨q', a', h1, h2, h3, by omega⟩
  · rintro (⟨q', a', h1, h2, h3, h4⟩ | h)
    · exact ⟨q', a', h1, h2, h3, by omega⟩
    · exact ⟨q, a, ha, hb, h, .inr ⟨rfl, by omega⟩⟩
theorem dn_next {c b q J : Nat} : (∃ q' a' : Nat, a' < 2 ∧ q' < b ∧ J = 38 * a' + (c + q') ∧ (q' < q ∨ (q' = q ∧ a' < 2))) ↔ (∃ q' a' : Nat, a' < 2 ∧ q' < b ∧ J = 38 * a' + (c + q') ∧ (q' < q + 1 ∨ (q' = q + 1 ∧ a' < 0))) := by
  constructor
  · rintro ⟨q', a', h1, h2, h3, h4⟩
    exact ⟨q', a', h1, h2, h3, by omega⟩
  · rintro ⟨q', a', h1, h2, h3, h4⟩
    exact ⟨q', a', h1, h2, h3, by omega⟩
end P12M
