/-! THE TWO READERS, 6: side by side -/
section PF
/-- two runs side by side -/
noncomputable def Re {α β : Type} (f : Option α) (g : Option β) (P : α → β → Prop) : Prop := ∃ a b, f = some a ∧ g = some b ∧ P a b
theorem Re.mono {α β : Type} {f : Option α} {g : Option β} {P Q : α → β → Prop} (h : Re f g P) (k : ∀ a b, P a b → Q a b) : Re f g Q := by
  obtain ⟨a, b, h1, h2, h3⟩ := h
  exact ⟨a, b, h1, h2, k a b h3⟩
theorem Re.l {α β : Type} {f : Option α} {g : Option β} {P : α → β → Prop} {A : α → Prop} (h : Re f g P) (k : Ok f A) : Re f g (fun a b => A a ∧ P a b) := by
  obtain ⟨a, b, h1, h2, h3⟩ := h
  obtain ⟨a', h1', hA⟩ := k
  rw [h1] at h1'
  cases h1'
  exact ⟨a, b, h1, h2, hA, h3⟩
theorem Re.r {α β : Type} {f : Option α} {g : Option β} {P : α → β → Prop} {B : β → Prop} (h : Re f g P) (k : Ok g B) : Re f g (fun a b => B b ∧ P a b) := by
  obtain ⟨a, b, h1, h2, h3⟩ := h
  obtain ⟨b', h2', hB⟩ := k
  rw [h2] at h2'
  cases h2'
  exact ⟨a, b, h1, h2, hB, h3⟩
theorem re_of {α β : Type} {f : Option α} {g : Option β} {A : α → Prop} {P : α → β → Prop} (k : Ok f A) (h : ∀ a, A a → Ok g (P a)) : Re f g P := by
  obtain ⟨a, ha, hA⟩ := k
  obtain ⟨b, hb, hB⟩ := h a hA
  exact ⟨a, b, ha, hb, hB⟩
theorem re_22 {α β γ δ : Type} {f : Option (α × gS)} {g : Option (β × gS)} {E : α → gS → Option γ} {H : β → gS → Option δ} {Q : α × gS → β × gS → Prop} {P : γ → δ → Prop} (h : Re f g Q) (k : ∀ a s b t, Q (a, s) (b, t) → Re (E a s) (H b t) P) : Re (bd2 f E) (bd2 g H) P := by
  obtain ⟨⟨a, s⟩, ⟨b, t⟩, h1, h2, h3⟩ := h
  rw [h1, h2]
  exact k a s b t h3
theorem re_21 {α β γ δ : Type} {f : Option (α × gS)} {g : Option β} {E : α → gS → Option γ} {H : β → Option δ} {Q : α × gS → β → Prop} {P : γ → δ → Prop} (h : Re f g Q) (k : ∀ a s b, Q (a, s) b → Re (E a s) (H b) P) : Re (bd2 f E) (bd g H) P := by
  obtain ⟨⟨a, s⟩, b, h1, h2, h3⟩ := h
  rw [h1, h2]
  exact k a s b h3
theorem re_tl {α β : Type} {c : Prop} {dc : Decidable c} {A B : Option α} {g : Option β} {P : α → β → Prop} (h : c) (k : Re A g P) : Re (@ite _ c dc A B) g P := by rw [if_pos h]; exact k
theorem re_fl {α β : Type} {c : Prop} {dc : Decidable c} {A B : Option α} {g : Option β} {P : α → β → Prop} (h : ¬ c) (k : Re B g P) : Re (@ite _ c dc A B) g P := by rw [if_neg h]; exact k
theorem re_tr {α β : Type} {c : Prop} {dc : Decidable c} {A B : Option β} {f : Option α} {P : α → β → Prop} (h : c) (k : Re f A P) : Re f (@ite _ c dc A B) P := by rw [if_pos h]; exact k
theorem re_fr {α β : Type} {c : Prop} {dc : Decidable c} {A B : Option β} {f : Option α} {P : α → β → Prop} (h : ¬ c) (k : Re f B P) : Re f (@ite _ c dc A B) P := by rw [if_neg h]; exact k
theorem re_gl {α β : Type} {b : Bool} {A : Option α} {g : Option β} {P : α → β → Prop} (h : b = true) (k : Re A g P) : Re (gd b A) g P := by rw [h]; exact k
theorem re_gr {α β : Type} {b : Bool} {A : Option β} {f : Option α} {P : α → β → Prop} (h : b = true) (k : Re f A P) : Re f (gd b A) P := by rw [h]; exact k
theorem re_so {α β : Type} {a : α} {g : Option β} {P : α → β → Prop} (k : Ok g (P a)) : Re (some a) g P := by
  obtain ⟨b, hb, hB⟩ := k
  exact ⟨a, b, rfl, hb, hB⟩
theorem re_el {α β γ : Type} {f : Option γ} {x : γ} {E : γ → Option α} {g : Option β} {P : α → β → Prop} (h : f = some x) (k : Re (E x) g P) : Re (bd f E) g P := by rw [h]; exact k
theorem re_er {α β γ : Type} {f : Option γ} {x : γ} {E : γ → Option β} {g : Option α} {P : α → β → Prop} (h : f = some x) (k : Re g (E x) P) : Re g (bd f E) P := by rw [h]; exact k
theorem re_e2l {α β γ : Type} {f : Option (γ × gS)} {x : γ} {s : gS} {E : γ → gS → Option α} {g : Option β} {P : α → β → Prop} (h : f = some (x, s)) (k : Re (E x s) g P) : Re (bd2 f E) g P := by rw [h]; exact k
theorem re_e2r {α β γ : Type} {f : Option (γ × gS)} {x : γ} {s : gS} {E : γ → gS → Option β} {g : Option α} {P : α → β → Prop} (h : f = some (x, s)) (k : Re g (E x s) P) : Re g (bd2 f E) P := by rw [h]; exact k
theorem WM_fr {L : List (Nat × Nat)} {σ τ : gS} (h : Fr L σ τ) (hL : ∀ q ∈ L, q.1 < 2 ∨ 13 < q.1) (hw : WM σ) : WM τ := fun q hq i hi => by
  rw [Fr_row h q.1 (fun y hy => by
    have := hL y hy
    simp at hq
    rcases hq with rfl | rfl | rfl | rfl | rfl | rfl | rfl | rfl | rfl | rfl | rfl | rfl <;> dsimp only <;> omega)]
  exact hw q hq i hi
noncomputable def PSt (σC σM : gS) : Prop := JC σC ∧ JM σM ∧ σM.1 1 = σC.1 1 ∧ σM.1 0 3 = σC.1 46 4 ∧ σM.1 0 4 = σC.1 46 8 ∧ (∃ b, Wh BL (σC.1 1) (σC.1 46 4).toInt (σC.1 46 5).toInt b ∧ Wh BL (σC.1 1) (σC.1 46 4).toInt (σM.1 0 2).toInt b) ∧ (σC.1 46 8).toInt ≤ (σC.1 46 5).toInt ∧ σM.1 0 5 = 0 ∧ WM σM ∧ σC.1 46 2 = 0 ∧ σC.1 46 3 = -1 ∧ σM.1 0 6 = -1
noncomputable def FSt (σC σM : gS) : Prop := JC σC ∧ JM σM ∧ σM.1 0 5 ≠ 0 ∧ σM.1 0 5 = σC.1 46 2 ∧ σM.1 0 6 = σC.1 46 3
theorem w9_pair {LC LM : List (Nat × Nat)} {σC σM τC τM : gS} {r f g : Int32} {p q e d : Int} (hP : PSt σC σM) (jC : JC τC) (jM : JM τM) (FC : Fr LC σC τC) (hC : ∀ q ∈ LC, q.1 ≠ 1 ∧ q ≠ (46, 5) ∧ q ≠ (46, 0)) (FM : Fr LM σM τM) (hM : ∀ q ∈ LM, (q.1 = 0 ∧ q.2 ≠ 0 ∧ q.2 ≠ 4) ∨ 13 < q.1) (cC : CO σC τC r f p e) (cM : MO σM τM g q d) (hf : f = g) (he : f = 0 → e = d) (hp : f ≠ 0 → p = q) : (r = 1 ∧ f = 0 ∧ PSt τC τM) ∨ (r = 0 ∧ f ≠ 0 ∧ FSt τC τM) := by
  obtain ⟨p1, p2, p3, p4, p5, p6, p7, p8, p9, p10, p11, p12⟩ := hP
  have c1 : τC.1 1 = σC.1 1 := Fr_row FC 1 (fun q hq => (hC q hq).1)
  have m1 : τM.1 1 = σM.1 1 := Fr_row FM 1 (fun q hq => by have := hM q hq; omega)
  have c4 : τC.1 46 4 = σC.1 46 4 := (FC 46 4 (fun z => (hC _ z).2.2 rfl) (fun z => (hC _ z).2.1 rfl)).1
  have m3 : τM.1 0 3 = σM.1 0 3 := (FM 0 3 (fun z => by have := hM _ z; simp at this) (fun z => by have := hM _ z; simp at this)).1
  rcases cC with ⟨r1, f0, a5, a8, a2, a3⟩ | ⟨r1, f0, a2, a3⟩ <;> rcases cM with ⟨g0, b5, b2, b4, b6⟩ | ⟨g0, b5, b6⟩
  · have e1 : τM.1 0 2 = τC.1 46 5 := Int32.toInt_inj.mp (by rw [b2, a5, he f0])
    obtain ⟨b, hb⟩ := Wh_ex BL (σC.1 1) (σC.1 46 4).toInt _ (τC.1 46 5).toInt rfl
    refine .inl ⟨r1, f0, jC, jM, by rw [m1, c1, p3], by rw [m3, c4, p4], by rw [b4, a8, e1], ⟨b, by rw [c1, c4]; exact hb, by rw [c1, c4, e1]; exact hb⟩, by rw [a8]; exact Int.le_refl _, b5, WM_fr FM (fun q hq => by have := hM q hq; omega) p9, by rw [a2, p10], by rw [a3, p11], by rw [b6, p12]⟩
  · exact absurd (hf.symm.trans f0) g0
  · exact absurd (hf.trans g0) f0
  · exact .inr ⟨r1, f0, jC, jM, by rw [b5]; exact g0, by rw [b5, a2, hf], Int32.toInt_inj.mp (by rw [b6, a3, hp f0])⟩
theorem p_number {σC σM : gS} (hP : PSt σC σM) (lo hi : Int32) : Re (fX3_readNumber σC lo hi) (fX10_number σM lo hi) (fun a b => Fr fr_fX3_readNumber σC a.2 ∧ Fr fr_fX10_number σM b.2 ∧ ((a.1 = 1 ∧ PSt a.2 b.2 ∧ a.2.1 46 11 = b.1 ∧ lo.toInt ≤ b.1.toInt ∧ b.1.toInt ≤ hi.toInt) ∨ (a.1 = 0 ∧ FSt a.2 b.2))) := by
  have hP' := hP
  obtain ⟨p1, p2, p3, p4, p5, ⟨b, hb, hc⟩, p7, p8, p9, p10, p11, p12⟩ := hP'
  obtain ⟨⟨r, τC⟩, eC, c1, c2, f, p, e, c3, c4⟩ := r_readNumber p1 lo hi
  obtain ⟨⟨v, τM⟩, eM, m1, m2, g, q, d, m3, m4⟩ := r_number p2 lo hi p8
  dsimp only at c1 c2 c3 c4 m1 m2 m3 m4
  rw [p3, p4, p5] at m3
  have u := NO_uniq hb hc c3 m3
  have m3' := m3
  rcases w9_pair hP c1 m1 c2 (by decide) m2 (by decide) c4 m4 u.1 (fun z => (u.2.1 z).1) u.2.2 with ⟨h1, h2, h3⟩ | ⟨h1, h2, h3⟩
  · refine ⟨_, _, eC, eM, c2, m2, .inl ⟨h1, h3, (u.2.1 h2).2, ?_⟩⟩
    have g0 := u.1.symm.trans h2
    obtain ⟨a, x, w1, w2, h⟩ := m3
    rcases h with ⟨-, k2, -⟩ | ⟨-, -, -, k2, -⟩ | ⟨-, -, -, -, k2, -⟩ | ⟨-, -, -, k1, k2, -⟩
    · exact absurd (k2.symm.trans g0) (by decide)
    · exact absurd (k2.symm.trans g0) (by decide)
    · exact absurd (k2.symm.trans g0) (by decide)
    · refine ⟨?_, Int32.le_iff_toInt_le.mp k2⟩
      have : ¬ v.toInt < lo.toInt := fun z => k1 (Int32.lt_iff_toInt_lt.mpr z)
      show lo.toInt ≤ v.toInt
      omega
  · exact ⟨_, _, eC, eM, c2, m2, .inr ⟨h1, h3⟩⟩
theorem p_word6 {σC σM : gS} (hP : PSt σC σM) : Re (fX3_readWord_K6 σC) (fX10_asks σM 4) (fun a b => Fr fr_fX3_readWord_K6 σC a.2 ∧ Fr fr_fX10_asks σM b ∧ ((a.1 = 1 ∧ PSt a.2 b) ∨ (a.1 = 0 ∧ FSt a.2 b))) := by
  have hP' := hP
  obtain ⟨p1, p2, p3, p4, p5, ⟨b, hb, hc⟩, p7, p8, p9, p10, p11, p12⟩ := hP'
  obtain ⟨⟨r, τC⟩, eC, c1, c2, f, p, e, c3, c4⟩ := r_readWord6 p1
  obtain ⟨τM, eM, m1, m2, g, q, d, m3, m4⟩ := r_asks p2 (p := 4) (L := 2) (by decide) (by decide) (by decide) (by decide) p8
  dsimp only at c1 c2 c3 c4
  rw [p3, p4, p5] at m3
  have u := WO_uniq hb hc (fun i hi => (p9 (4, 6) (by decide) i hi).symm) c3 m3
  rcases w9_pair hP c1 m1 c2 (by decide) m2 (by decide) c4 m4 u.1 u.2.1 u.2.2 with ⟨h1, h2, h3⟩ | ⟨h1, h2, h3⟩
  · exact ⟨_, _, eC, eM, c2, m2, .inl ⟨h1, h3⟩⟩
  · exact ⟨_, _, eC, eM, c2, m2, .inr ⟨h1, h3⟩⟩
theorem p_word7 {σC σM : gS} (hP : PSt σC σM) : Re (fX3_readWord_K7 σC) (fX10_asks σM 5) (fun a b => Fr fr_fX3_readWord_K7 σC a.2 ∧ Fr fr_fX10_asks σM b ∧ ((a.1 = 1 ∧ PSt a.2 b) ∨ (a.1 = 0 ∧ FSt a.2 b))) := by
  have hP' := hP
  obtain ⟨p1, p2, p3, p4, p5, ⟨b, hb, hc⟩, p7, p8, p9, p10, p11, p12⟩ := hP'
  obtain ⟨⟨r, τC⟩, eC, c1, c2, f, p, e, c3, c4⟩ := r_readWord7 p1
  obtain ⟨τM, eM, m1, m2, g, q, d, m3, m4⟩ := r_asks p2 (p := 5) (L := 4) (by decide) (by decide) (by decide) (by decide) p8
  dsimp only at c1 c2 c3 c4
  rw [p3, p4, p5] at m3
  have u := WO_uniq hb hc (fun i hi => (p9 (5, 7) (by decide) i hi).symm) c3 m3
  rcases w9_pair hP c1 m1 c2 (by decide) m2 (by decide) c4 m4 u.1 u.2.1 u.2.2 with ⟨h1, h2, h3⟩ | ⟨h1, h2, h3⟩
  · exact ⟨_, _, eC, eM, c2, m2, .inl ⟨h1, h3⟩⟩
  · exact ⟨_, _, eC, eM, c2, m2, .inr ⟨h1, h3⟩⟩
theorem p_word9 {σC σM : gS} (hP : PSt σC σM) : Re (fX3_readWord_K9 σC) (fX10_asks σM 9) (fun a b => Fr fr_fX3_readWord_K9 σC a.2 ∧ Fr fr_fX10_asks σM b ∧ ((a.1 = 1 ∧ PSt a.2 b) ∨ (a.1 = 0 ∧ FSt a.2 b))) := by
  have hP' := hP
  obtain ⟨p1, p2, p3, p4, p5, ⟨b, hb, hc⟩, p7, p8, p9, p10, p11, p12⟩ := hP'
  obtain ⟨⟨r, τC⟩, eC, c1, c2, f, p, e, c3, c4⟩ := r_readWord9 p1
  obtain ⟨τM, eM, m1, m2, g, q, d, m3, m4⟩ := r_asks p2 (p := 9) (L := 2) (by decide) (by decide) (by decide) (by decide) p8
  dsimp only at c1 c2 c3 c4
  rw [p3, p4, p5] at m3
  have u := WO_uniq hb hc (fun i hi => (p9 (9, 9) (by decide) i hi).symm) c3 m3
  rcases w9_pair hP c1 m1 c2 (by decide) m2 (by decide) c4 m4 u.1 u.2.1 u.2.2 with ⟨h1, h2, h3⟩ | ⟨h1, h2, h3⟩
  · exact ⟨_, _, eC, eM, c2, m2, .inl ⟨h1, h3⟩⟩
  · exact ⟨_, _, eC, eM, c2, m2, .inr ⟨h1, h3⟩⟩
theorem p_word10 {σC σM : gS} (hP : PSt σC σM) : Re (fX3_readWord_K10 σC) (fX10_asks σM 10) (fun a b => Fr fr_fX3_readWord_K10 σC a.2 ∧ Fr fr_fX10_asks σM b ∧ ((a.1 = 1 ∧ PSt a.2 b) ∨ (a.1 = 0 ∧ FSt a.2 b))) := by
  have hP' := hP
  obtain ⟨p1, p2, p3, p4, p5, ⟨b, hb, hc⟩, p7, p8, p9, p10, p11, p12⟩ := hP'
  obtain ⟨⟨r, τC⟩, eC, c1, c2, f, p, e, c3, c4⟩ := r_readWord10 p1
  obtain ⟨τM, eM, m1, m2, g, q, d, m3, m4⟩ := r_asks p2 (p := 10) (L := 6) (by decide) (by decide) (by decide) (by decide) p8
  dsimp only at c1 c2 c3 c4
  rw [p3, p4, p5] at m3
  have u := WO_uniq hb hc (fun i hi => (p9 (10, 10) (by decide) i hi).symm) c3 m3
  rcases w9_pair hP c1 m1 c2 (by decide) m2 (by decide) c4 m4 u.1 u.2.1 u.2.2 with ⟨h1, h2, h3⟩ | ⟨h1, h2, h3⟩
  · exact ⟨_, _, eC, eM, c2, m2, .inl ⟨h1, h3⟩⟩
  · exact ⟨_, _, eC, eM, c2, m2, .inr ⟨h1, h3⟩⟩
theorem p_word11 {σC σM : gS} (hP : PSt σC σM) : Re (fX3_readWord_K11 σC) (fX10_asks σM 12) (fun a b => Fr fr_fX3_readWord_K11 σC a.2 ∧ Fr fr_fX10_asks σM b ∧ ((a.1 = 1 ∧ PSt a.2 b) ∨ (a.1 = 0 ∧ FSt a.2 b))) := by
  have hP' := hP
  obtain ⟨p1, p2, p3, p4, p5, ⟨b, hb, hc⟩, p7, p8, p9, p10, p11, p12⟩ := hP'
  obtain ⟨⟨r, τC⟩, eC, c1, c2, f, p, e, c3, c4⟩ := r_readWord11 p1
  obtain ⟨τM, eM, m1, m2, g, q, d, m3, m4⟩ := r_asks p2 (p := 12) (L := 3) (by decide) (by decide) (by decide) (by decide) p8
  dsimp only at c1 c2 c3 c4
  rw [p3, p4, p5] at m3
  have u := WO_uniq hb hc (fun i hi => (p9 (12, 11) (by decide) i hi).symm) c3 m3
  rcases w9_pair hP c1 m1 c2 (by decide) m2 (by decide) c4 m4 u.1 u.2.1 u.2.2 with ⟨h1, h2, h3⟩ | ⟨h1, h2, h3⟩
  · exact ⟨_, _, eC, eM, c2, m2, .inl ⟨h1, h3⟩⟩
  · exact ⟨_, _, eC, eM, c2, m2, .inr ⟨h1, h3⟩⟩
/-- how the names of a kind stand on both sides -/
noncomputable def DN (K : Nat) (σC σM : gS) : Prop := σC.1 25 K = σM.1 15 K ∧ ∀ i : Nat, (i : Int) < (σM.1 15 K).toInt → NR (σC.1 (27 + K) i) (σM.2 14 (20 * K + i))
theorem NA_FN {σC σM : gS} {K : Nat} {k : Int32} (hk : k.toInt = K) (hD : DN K σC σM) {c : Int32} {v : Int64} (h : NR c v) : NA σM k v = FN σC K c := by
  unfold NA FN
  have ek : k.toInt.toNat = K := by omega
  rw [n_toInt, ek, hD.1]
  refine fI_congr _ 0 (fun j h1 h2 => ?_)
  have := NR_inj (hD.2 j (by omega)) h
  exact decide_eq_decide.mpr this.symm
noncomputable def ONP (k : Int32) (σ : gS) (out : Int32 × gS) : Prop := JM out.2 ∧ Fr fr_fX10_oneOf σ out.2 ∧ ∃ f p e L v, XO (σ.1 1) (σ.1 0 3).toInt (σ.1 0 4).toInt (σ.1 0 2).toInt f p e L v ∧ ((f ≠ 0 ∧ out.2.1 0 5 = f ∧ (out.2.1 0 6).toInt = p) ∨ (f = 0 ∧ ∃ m : Int64, m.toInt = v ∧ (out.2.1 0 21).toInt = p ∧ ((NA σ k m ≠ -1 ∧ out.1 = NA σ k m ∧ MO σ out.2 0 p e) ∨ (NA σ k m = -1 ∧ out.2.1 0 5 = 3 ∧ (out.2.1 0 6).toInt = p))))
theorem r_oneOf {σ : gS} (hI : JM σ) (hw : WM σ) (hb : σ.1 0 5 = 0) {k : Int32} (h0 : 0 ≤ k.toInt) (h2 : k.toInt ≤ 2) : Ok (fX10_oneOf σ k) (ONP k σ) := by
  unfold fX10_oneOf
  refine ok_bd2.mpr ((r_name hI hw hb).mono (fun o ho => ok_nm.mpr ?_))
  obtain ⟨m, τ⟩ := o
  obtain ⟨kI, kF, f, p, e, L, v, kX, kM, kv⟩ := ho
  dsimp only at kI kF kM kv ⊢
  have kF' : Fr fr_fX10_oneOf σ τ := Fr_c Fr_r kF (by decide)
  have t15 : τ.1 15 = σ.1 15 := Fr_row kF 15 (by decide)
  have t14 : τ.2 14 = σ.2 14 := Fr_row2 kF 14 (by decide)
  have eN : NA τ k m = NA σ k m := by unfold NA; rw [t15, t14]
  rw [q_bd (m_nameOf kI m h0 h2), eN]
  refine ok_nm.mpr ?_
  rcases kM with ⟨rfl, k5, k2, k4, k6⟩ | ⟨hf, k5, k6⟩
  · obtain ⟨kv1, kv2⟩ := kv rfl
    refine ok_ite.mpr ⟨fun _ => ok_ite.mpr ⟨fun z => ?_, fun z => ?_⟩, fun z => absurd k5 z⟩
    · rw [r_fail 3 _ k5]
      refine ok_bd.mpr (ok_some.mpr ?_)
      unfold jX10_oneOf_35
      refine ok_ite.mpr ⟨fun _ => ok_some.mpr ⟨JM_f kI, Fr_w (Fr_w kF' (by decide)) (by decide), 0, p, e, L, v, kX, .inr ⟨rfl, m, kv1, kv2, .inr ⟨z, rfl, kv2⟩⟩⟩, fun y => absurd z y⟩
    · unfold jX10_oneOf_35
      exact ok_ite.mpr ⟨fun y => absurd y z, fun _ => ok_some.mpr ⟨kI, kF', 0, p, e, L, v, kX, .inr ⟨rfl, m, kv1, kv2, .inl ⟨z, rfl, .inl ⟨rfl, k5, k2, k4, k6⟩⟩⟩⟩⟩
  · refine ok_ite.mpr ⟨fun z => absurd (k5.symm.trans z) hf, fun _ => ?_⟩
    unfold jX10_oneOf_35
    refine ok_ite.mpr ⟨fun _ => ok_some.mpr ⟨kI, kF', f, p, e, L, v, kX, .inl ⟨hf, k5, k6⟩⟩, fun _ => ok_some.mpr ⟨kI, kF', f, p, e, L, v, kX, .inl ⟨hf, k5, k6⟩⟩⟩
theorem XO_NR {T : Nat → Int32} {n le a0 : Int} {p e : Int} {L : Nat} {v : Int} (ha : 0 ≤ a0) (h : XO T n le a0 0 p e L v) {c : Int32} {m : Int64} (hc : c.toInt = cF T p.toNat L 6) (hm : m.toInt = v) : NR c m := by
  obtain ⟨a, x, w1, w2, h⟩ := h
  rcases h with ⟨-, k2, -⟩ | ⟨-, -, -, -, k2, -⟩ | ⟨k1, -, -, k4, -, rfl, -, rfl, rfl⟩
  · exact absurd k2 (by decide)
  · exact absurd k2 (by decide)
  · have := w1.1
    have := w2.1
    exact NR_of (by omega) (by omega) (XO_letters w2 (by omega)) hc hm
theorem p_old {σC σM : gS} (hP : PSt σC σM) {k : Int32} {K : Nat} (hk : k.toInt = K) (hK : K ≤ 2) (hD : DN K σC σM) : Re (fX3_readName σC k) (fX10_oneOf σM k) (fun a b => Fr fr_fX3_readName σC a.2 ∧ Fr fr_fX10_oneOf σM b.2 ∧ ((a.1 = 1 ∧ PSt a.2 b.2 ∧ a.2.1 46 10 = b.1 ∧ b.2.1 0 21 = a.2.1 46 6 ∧ 0 ≤ b.1.toInt ∧ b.1.toInt < (σM.1 15 K).toInt) ∨ (a.1 = 0 ∧ FSt a.2 b.2))) := by
  have hP' := hP
  obtain ⟨p1, p2, p3, p4, p5, ⟨b, hb, hc⟩, p7, p8, p9, p10, p11, p12⟩ := hP'
  obtain ⟨⟨r, τC⟩, eC, c1, c2, f, p, e, L, v, c3, c4⟩ := r_readName p1 (k := k) (.inr ⟨K, hK, hk⟩)
  obtain ⟨⟨x, τM⟩, eM, m1, m2, g, q, d, M, w, m3, m4⟩ := r_oneOf p2 p9 p8 (k := k) (by omega) (by omega)
  dsimp only at c1 c2 c3 c4 m1 m2 m3 m4
  rw [p3, p4, p5] at m3
  have u := XO_uniq hb hc c3 m3
  refine ⟨_, _, eC, eM, c2, m2, ?_⟩
  obtain ⟨rfl, rfl, u3⟩ := u
  rcases c4 with ⟨f0, r1, a2, a3⟩ | ⟨rfl, c, hcv, a5, a8, a6, a9, -, aK⟩
  · rcases m4 with ⟨-, b5, b6⟩ | ⟨z, -⟩
    · exact .inr ⟨r1, c1, m1, by show τM.1 0 5 ≠ 0; rw [b5]; exact f0, by show τM.1 0 5 = τC.1 46 2; rw [b5, a2], Int32.toInt_inj.mp (b6.trans a3.symm)⟩
    · exact absurd z f0
  · rcases m4 with ⟨z, -⟩ | ⟨-, m, hm, b21, b4⟩
    · exact absurd rfl z
    obtain ⟨a10, aK⟩ := aK K hK hk
    obtain ⟨rfl, rfl, rfl⟩ := u3 rfl
    have hN := XO_NR (jc_tape p1).2.1.1 c3 hcv hm
    have eN := NA_FN hk hD hN
    rw [eN] at b4
    rcases b4 with ⟨b7, b8, b9⟩ | ⟨b7, b8, b9⟩
    · rcases aK with ⟨-, r1, a2, a3⟩ | ⟨z, -⟩
      · rcases w9_pair hP c1 m1 c2 (by decide) m2 (by decide) (r := r) (f := 0) (p := p) (.inl ⟨r1, rfl, a5, a8, a2, a3⟩) b9 rfl (fun _ => rfl) (fun z => absurd rfl z) with ⟨h1, h2, h3⟩ | ⟨h1, h2, h3⟩
        · have hn := jc_many p1 hK
          have fb := fI_lo (fun i => decide (σC.1 (27 + K) i = c)) (σC.1 25 K).toInt.toNat (by omega)
          have fe : (FN σC K c).toInt ≠ -1 := fun w => b7 (q_of (-1) (w.trans (by decide)))
          refine .inl ⟨r1, h3, by rw [a10]; exact b8.symm, Int32.toInt_inj.mp (b21.trans a6.symm), ?_⟩
          show 0 ≤ x.toInt ∧ x.toInt < _
          rw [b8, ← hD.1]
          unfold FN at fe ⊢
          omega
        · exact absurd rfl h2
      · exact absurd z b7
    · rcases aK with ⟨z, -⟩ | ⟨-, r1, a2, a3⟩
      · exact absurd b7 z
      · exact .inr ⟨r1, c1, m1, by show τM.1 0 5 ≠ 0; rw [b8]; decide, by show τM.1 0 5 = τC.1 46 2; rw [b8, a2], Int32.toInt_inj.mp (b9.trans a3.symm)⟩
/-- the upper halves stay -/
noncomputable def upL : Nat → Nat
  | 14 => 60 | 15 => 6 | 16 => 12 | 17 => 12 | 18 => 12 | 19 => 24 | 20 => 20 | 21 => 40 | 22 => 60 | 23 => 60 | 24 => 120 | 25 => 60 | _ => 0
noncomputable def UP (σ τ : gS) : Prop := ∀ k i, 14 ≤ k → k ≤ 25 → upL k ≤ i → τ.1 k i = σ.1 k i ∧ τ.2 k i = σ.2 k i
theorem UP_r {σ : gS} : UP σ σ := fun _ _ _ _ _ => ⟨rfl, rfl⟩
theorem UP_t {σ τ ρ : gS} (h : UP σ τ) (g : UP τ ρ) : UP σ ρ := fun k i a b c => ⟨(g k i a b c).1.trans (h k i a b c).1, (g k i a b c).2.trans (h k i a b c).2⟩
theorem UP_f {L : List (Nat × Nat)} {σ τ ρ : gS} (h : UP σ τ) (g : Fr L τ ρ) (hL : ∀ q ∈ L, q.1 < 14 ∨ 25 < q.1) : UP σ ρ := UP_t h (fun k i a b _ => g k i (fun z => by have := hL _ z; omega) (fun z => by have := hL _ z; omega))
theorem UP_w {σ τ : gS} {k i : Nat} {x : Int32} (h : UP σ τ) (hi : i < upL k ∨ k < 14) : UP σ (gsI τ k i x) := UP_t h (fun a j h1 h2 h3 => ⟨by
  rw [gsI_1, if_neg (by rintro ⟨rfl, rfl⟩; omega)], rfl⟩)
theorem UP_l {σ τ : gS} {i : Nat} {x : Int64} (h : UP σ τ) (hi : i < 60) : UP σ (gsL τ 14 i x) := UP_t h (fun a j h1 h2 h3 => ⟨rfl, by
  rw [gsL_2, if_neg (by rintro ⟨rfl, rfl⟩; exact absurd h3 (by show ¬ 60 ≤ j; omega))]⟩)
theorem nn_bad {K : Nat} (hK : 0 < K) {s : gS} {k : Int32} (h0 : 0 ≤ k.toInt) (h2 : k.toInt ≤ 2) {v : Int64} (hb : s.1 0 5 ≠ 0) (a : Int32) (τ : gS) : lpc (S := Int32 × gS) K (fun rec s => bX10_newName_8 τ k v (fun a4 σ1 => rec (a4, σ1)) s.1 s.2) (a, s) = some (s.1 15 k.toNatClampNeg, s) := by
  rw [lpc_pos hK]
  have j47 : jX10_newName_47 s k v = some (s.1 15 k.toNatClampNeg, s) := by
    unfold jX10_newName_47
    exact (q_gd (gb_of (by omega) (by omega))).trans ((q_nm rfl).trans ((q_nm rfl).trans (if_neg hb)))
  show bX10_newName_8 τ k v _ a s = _
  unfold bX10_newName_8
  by_cases h : (3 : Int32) ≤ a
  · exact (if_pos h).trans j47
  · exact (if_neg h).trans ((if_neg hb).trans j47)
noncomputable def NWP (K : Nat) (σ : gS) (out : Int32 × gS) : Prop := UP σ out.2 ∧ ∃ f p e L v, XO (σ.1 1) (σ.1 0 3).toInt (σ.1 0 4).toInt (σ.1 0 2).toInt f p e L v ∧ ((f ≠ 0 ∧ out.2.1 0 5 = f ∧ (out.2.1 0 6).toInt = p) ∨ (f = 0 ∧ ∃ m : Int64, m.toInt = v ∧ ((NA σ 0 m = -1 ∧ NA σ 1 m = -1 ∧ NA σ 2 m = -1 ∧ out.1 = σ.1 15 K ∧ MO σ out.2 0 p e ∧ (∀ i, out.2.1 15 i = if i = K then σ.1 15 K + 1 else σ.1 15 i) ∧ ∀ i, out.2.2 14 i = if i = 20 * K + (σ.1 15 K).toInt.toNat then m else σ.2 14 i) ∨ (¬ (NA σ 0 m = -1 ∧ NA σ 1 m = -1 ∧ NA σ 2 m = -1) ∧ out.2.1 0 5 = 3 ∧ (out.2.1 0 6).toInt = p))))
theorem r_newName {σ : gS} (hI : JM σ) (hw : WM σ) (hb : σ.1 0 5 = 0) {k : Int32} {K : Nat} (hk : k.toInt = K) (hK : K ≤ 2) (hn : (σ.1 15 K).toInt ≤ 19) : Ok (fX10_newName σ k) (NWP K σ) := by
  have ek : k.toNatClampNeg = K := by rw [n_toInt]; omega
  have hn0 : 0 ≤ (σ.1 15 K).toInt := by
    have b0 := hI 15 0
    have b1 := hI 15 1
    have b2 := hI 15 2
    have hj : K = 0 ∨ K = 1 ∨ K = 2 := by omega
    rcases hj with rfl | rfl | rfl
    · exact b0.1
    · exact b1.1
    · exact b2.1
  unfold fX10_newName
  refine ok_bd2.mpr ((r_name hI hw hb).mono (fun o ho => ok_nm.mpr (ok_nm.mpr ?_)))
  obtain ⟨m, τ⟩ := o
  obtain ⟨kI, kF, f, p, e, L, v, kX, kM, kv⟩ := ho
  dsimp only at kI kF kM kv ⊢
  have kU : UP σ τ := UP_f UP_r kF (by decide)
  have t15 : τ.1 15 = σ.1 15 := Fr_row kF 15 (by decide)
  have t14 : τ.2 14 = σ.2 14 := Fr_row2 kF 14 (by decide)
  have eN : ∀ q, NA τ q m = NA σ q m := fun q => by unfold NA; rw [t15, t14]
  rcases kM with ⟨rfl, k5, k2, k4, k6⟩ | ⟨hf, k5, k6⟩
  · obtain ⟨kv1, kv2⟩ := kv rfl
    have bad : ∀ {J : Nat} (hJ : 0 < J) (a : Int32), ¬ (NA σ 0 m = -1 ∧ NA σ 1 m = -1 ∧ NA σ 2 m = -1) → Ok (bd (fX10_fail τ 3 (τ.1 0 21)) fun σ19 => nm (a + 1 : Int32) fun x20 => lpc (S := Int32 × gS) J (fun rec s => bX10_newName_8 τ k m (fun a4 σ1 => rec (a4, σ1)) s.1 s.2) (x20, σ19)) (NWP K σ) := by
      intro J hJ a hno
      rw [r_fail 3 _ k5]
      refine ok_bd.mpr (ok_some.mpr (ok_nm.mpr (ok_is (nn_bad hJ (by omega) (by omega) (show (fM τ 3 (τ.1 0 21)).1 0 5 ≠ 0 by show (3 : Int32) ≠ 0; decide) _ _) ?_)))
      exact ⟨UP_w (UP_w kU (.inr (by decide))) (.inr (by decide)), 0, p, e, L, v, kX, .inr ⟨rfl, m, kv1, .inr ⟨hno, rfl, kv2⟩⟩⟩
    have step : ∀ (J : Nat) (hJ : 1 < J) (a : Int32) (h0 : 0 ≤ a.toInt) (h2 : a.toInt ≤ 2), (NA σ a m = -1 → Ok (lpc (S := Int32 × gS) (J - 1) (fun rec s => bX10_newName_8 τ k m (fun a4 σ1 => rec (a4, σ1)) s.1 s.2) (a + 1, τ)) (NWP K σ)) → (NA σ a m ≠ -1 → ¬ (NA σ 0 m = -1 ∧ NA σ 1 m = -1 ∧ NA σ 2 m = -1)) → Ok (lpc (S := Int32 × gS) J (fun rec s => bX10_newName_8 τ k m (fun a4 σ1 => rec (a4, σ1)) s.1 s.2) (a, τ)) (NWP K σ) := by
      intro J hJ a h0 h2 hy hno
      rw [lpc_pos (by omega)]
      show Ok (bX10_newName_8 τ k m _ a τ) (NWP K σ)
      unfold bX10_newName_8
      refine ok_ite.mpr ⟨fun z => ?_, fun _ => ok_ite.mpr ⟨fun _ => ?_, fun z => absurd k5 z⟩⟩
      · have z' := Int32.le_iff_toInt_le.mp z
        have l3 : (3 : Int32).toInt = 3 := by decide
        omega
      · rw [q_bd (m_nameOf kI m h0 h2), eN]
        exact ok_ite.mpr ⟨fun z => ok_nm.mpr (hy z), fun z => bad (by omega) a (hno z)⟩
    have hK9 : K9 = 1048576 := rfl
    refine step K9 (by omega) 0 (by decide) (by decide) (fun y0 => ?_) (fun z y => z y.1)
    refine step (K9 - 1) (by omega) 1 (by decide) (by decide) (fun y1 => ?_) (fun z y => z y.2.1)
    refine step (K9 - 1 - 1) (by omega) 2 (by decide) (by decide) (fun y2 => ?_) (fun z y => z y.2.2)
    rw [lpc_pos (by omega)]
    show Ok (bX10_newName_8 τ k m _ (2 + 1) τ) (NWP K σ)
    unfold bX10_newName_8
    refine ok_ite.mpr ⟨fun _ => ?_, fun z => absurd (by decide) z⟩
    unfold jX10_newName_47
    rw [ek, t15]
    have l20 : (20 : Int32).toInt = 20 := by decide
    have f1 : (20 * k).toInt = 20 * k.toInt := imulc (by decide) (by omega) (by omega)
    have f2 : (20 * k + σ.1 15 K).toInt = 20 * K + (σ.1 15 K).toInt := by rw [iadd_toInt] <;> omega
    have f3 : (20 * k + σ.1 15 K).toNatClampNeg = 20 * K + (σ.1 15 K).toInt.toNat := by rw [n_toInt]; omega
    refine ok_gd.mpr ⟨gb_of (by omega) (by omega), ok_nm.mpr (ok_nm.mpr (ok_ite.mpr ⟨fun _ => ?_, fun z => absurd k5 z⟩))⟩
    refine ok_gd.mpr ⟨gb_of (by omega) (by omega), ok_nm.mpr (ok_gd.mpr ⟨gb_of (by omega) (by omega), ok_nm.mpr (ok_gd.mpr ⟨gb_of (by omega) (by omega), ok_nm.mpr (ok_some.mpr ?_)⟩)⟩)⟩
    rw [f3]
    have hup : K < upL 15 := by show K < 6; omega
    refine ⟨UP_w (UP_l kU (by omega)) (.inl hup), 0, p, e, L, v, kX, .inr ⟨rfl, m, kv1, .inl ⟨y0, y1, y2, rfl, .inl ⟨rfl, k5, k2, k4, k6⟩, fun i => ?_, fun i => ?_⟩⟩⟩
    · show (gsI (gsL τ 14 _ m) 15 K (τ.1 15 K + 1)).1 15 i = _
      rw [gsI_1]
      by_cases hi : i = K
      · rw [if_pos ⟨rfl, hi⟩, if_pos hi, t15]
      · rw [if_neg (fun z => hi z.2), if_neg hi]
        show τ.1 15 i = _
        rw [t15]
    · show (gsL τ 14 _ m).2 14 i = _
      rw [gsL_2]
      by_cases hi : i = 20 * K + (σ.1 15 K).toInt.toNat
      · rw [if_pos ⟨rfl, hi⟩, if_pos hi]
      · rw [if_neg (fun z => hi z.2), if_neg hi, t14]
  · refine ok_is (nn_bad K9_pos (by omega) (by omega) (by rw [k5]; exact hf) _ _) ⟨kU, f, p, e, L, v, kX, .inl ⟨hf, k5, k6⟩⟩
theorem p_new {σC σM : gS} (hP : PSt σC σM) {k : Int32} {K : Nat} (hk : k.toInt = K) (hK : K ≤ 2) (hn : (σM.1 15 K).toInt ≤ 19) (hpre : (K = 0 ∧ (σM.1 15 0).toInt ≤ 5) ∨ (K = 1 ∧ (σM.1 15 1).toInt ≤ 11) ∨ (K = 2 ∧ (σM.1 15 2).toInt ≤ 19)) (h0 : DN 0 σC σM) (h1 : DN 1 σC σM) (h2 : DN 2 σC σM) : Re (fX3_readName σC (-1)) (fX10_newName σM k) (fun a b => Fr fr_fX3_readName σC a.2 ∧ Fr fr_fX10_newName σM b.2 ∧ UP σM b.2 ∧ ((a.1 = 1 ∧ PSt a.2 b.2 ∧ b.1 = σM.1 15 K ∧ ∃ m, NR (a.2.1 46 9) m ∧ (∀ i, b.2.1 15 i = if i = K then σM.1 15 K + 1 else σM.1 15 i) ∧ ∀ i, b.2.2 14 i = if i = 20 * K + (σM.1 15 K).toInt.toNat then m else σM.2 14 i) ∨ (a.1 = 0 ∧ FSt a.2 b.2))) := by
  have pre0 : (k.toInt = 0 ∧ (σM.1 15 0).toInt ≤ 5) ∨ (k.toInt = 1 ∧ (σM.1 15 1).toInt ≤ 11) ∨ (k.toInt = 2 ∧ (σM.1 15 2).toInt ≤ 19) := by omega
  have k0 : 0 ≤ k.toInt ∧ k.toInt ≤ 2 := by omega
  have hP' := hP
  obtain ⟨p1, p2, p3, p4, p5, ⟨b, hb, hc⟩, p7, p8, p9, p10, p11, p12⟩ := hP'
  obtain ⟨⟨r, τC⟩, eC, c1, c2, f, p, e, L, v, c3, c4⟩ := r_readName p1 (k := -1) (.inl rfl)
  obtain ⟨⟨x, τM⟩, eM, ⟨m1, m2, -⟩, mU, g, q, d, M, w, m3, m4⟩ := (o_fX10_newName p2 (p1 := k) k0.1 k0.2 (fun _ => pre0)).and (r_newName p2 p9 p8 hk hK hn)
  dsimp only at c1 c2 c3 c4 m1 m2 m3 m4 mU
  rw [p3, p4, p5] at m3
  have u := XO_uniq hb hc c3 m3
  refine ⟨_, _, eC, eM, c2, m2, mU, ?_⟩
  obtain ⟨rfl, rfl, u3⟩ := u
  rcases c4 with ⟨f0, r1, a2, a3⟩ | ⟨rfl, c, hcv, a5, a8, a6, a9, aK, -⟩
  · rcases m4 with ⟨-, b5, b6⟩ | ⟨z, -⟩
    · exact .inr ⟨r1, c1, m1, by show τM.1 0 5 ≠ 0; rw [b5]; exact f0, by show τM.1 0 5 = τC.1 46 2; rw [b5, a2], Int32.toInt_inj.mp (b6.trans a3.symm)⟩
    · exact absurd z f0
  · rcases m4 with ⟨z, -⟩ | ⟨-, m, hm, b4⟩
    · exact absurd rfl z
    have aK := aK rfl
    obtain ⟨rfl, rfl, rfl⟩ := u3 rfl
    have hN := XO_NR (jc_tape p1).2.1.1 c3 hcv hm
    rw [NA_FN (K := 0) (by decide) h0 hN, NA_FN (K := 1) (by decide) h1 hN, NA_FN (K := 2) (by decide) h2 hN] at b4
    rcases b4 with ⟨n0, n1, n2, b8, b9, b10, b11⟩ | ⟨b7, b8, b9⟩
    · rcases aK with ⟨-, -, -, r1, a2, a3⟩ | ⟨z, -⟩
      · rcases w9_pair hP c1 m1 c2 (by decide) m2 (by decide) (r := r) (f := 0) (p := p) (.inl ⟨r1, rfl, a5, a8, a2, a3⟩) b9 rfl (fun _ => rfl) (fun z => absurd rfl z) with ⟨h1, h2, h3⟩ | ⟨h1, h2, h3⟩
        · exact .inl ⟨r1, h3, b8, m, by show NR (τC.1 46 9) m; rw [a9]; exact hN, b10, b11⟩
        · exact absurd rfl h2
      · exact absurd ⟨n0, n1, n2⟩ z
    · rcases aK with ⟨z0, z1, z2, -⟩ | ⟨-, r1, a2, a3⟩
      · exact absurd ⟨z0, z1, z2⟩ b7
      · exact .inr ⟨r1, c1, m1, by show τM.1 0 5 ≠ 0; rw [b8]; decide, by show τM.1 0 5 = τC.1 46 2; rw [b8, a2], Int32.toInt_inj.mp (b9.trans a3.symm)⟩
end PF
