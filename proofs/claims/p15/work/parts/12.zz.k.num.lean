/-! WHOLE, 4: the unknowns numbered, on both sides -/
section P12ZZK
def UT9 (s : gS) (k : Nat) : Prop := TH s (Int32.ofNat k) ∧ IU s (Int32.ofNat k) ≠ 0
noncomputable def ub9 (s : gS) (k : Nat) : Bool := @decide (UT9 s k) (Classical.propDecidable _)
theorem ub9_t {s : gS} {k : Nat} : ub9 s k = true ↔ UT9 s k := by
  unfold ub9
  exact @decide_eq_true_iff _ (Classical.propDecidable _)
def nU9 (c : Nat → Bool) : Nat → Nat
  | 0 => 0
  | k + 1 => nU9 c k + (if c k = true then 1 else 0)
theorem nU9_t {c : Nat → Bool} {k : Nat} (h : c k = true) : nU9 c (k + 1) = nU9 c k + 1 := by
  show nU9 c k + _ = _
  rw [if_pos h]
theorem nU9_f {c : Nat → Bool} {k : Nat} (h : ¬ c k = true) : nU9 c (k + 1) = nU9 c k := by
  show nU9 c k + _ = _
  rw [if_neg h]
  rfl
theorem nU9_le (c : Nat → Bool) : ∀ k, nU9 c k ≤ k
  | 0 => Nat.le_refl _
  | k + 1 => by
    have := nU9_le c k
    by_cases h : c k = true
    · rw [nU9_t h]; omega
    · rw [nU9_f h]; omega
theorem nU9_mono (c : Nat → Bool) {j : Nat} : ∀ {k}, j ≤ k → nU9 c j ≤ nU9 c k
  | 0, h => by rw [show j = 0 by omega]; exact Nat.le_refl _
  | k + 1, h => by
    by_cases z : j = k + 1
    · rw [z]; exact Nat.le_refl _
    · have := nU9_mono c (j := j) (k := k) (by omega)
      by_cases y : c k = true
      · rw [nU9_t y]; omega
      · rw [nU9_f y]; omega
theorem nU9_lt {c : Nat → Bool} {j k : Nat} (h : c j = true) (hk : j < k) : nU9 c j < nU9 c k := by
  have := nU9_mono c (j := j + 1) (k := k) (by omega)
  rw [nU9_t h] at this
  omega
theorem nU9_inj {c : Nat → Bool} {j k : Nat} (hj : c j = true) (hk : c k = true) (h : nU9 c j = nU9 c k) : j = k := by
  by_cases a : j < k
  · have := nU9_lt hj a
    omega
  · by_cases b : k < j
    · have := nU9_lt hk b
      omega
    · omega
theorem nU9_sur {c : Nat → Bool} : ∀ {k i : Nat}, i < nU9 c k → ∃ j, j < k ∧ c j = true ∧ nU9 c j = i
  | 0, i, h => absurd h (Nat.not_lt_zero _)
  | k + 1, i, h => by
    by_cases y : c k = true
    · by_cases z : i = nU9 c k
      · exact ⟨k, by omega, y, z.symm⟩
      · rw [nU9_t y] at h
        obtain ⟨j, h1, h2, h3⟩ := nU9_sur (c := c) (k := k) (i := i) (by omega)
        exact ⟨j, by omega, h2, h3⟩
    · rw [nU9_f y] at h
      obtain ⟨j, h1, h2, h3⟩ := nU9_sur (c := c) (k := k) (i := i) h
      exact ⟨j, by omega, h2, h3⟩
/-- what rows, centres mark, as far as they go -/
def MK9 (s : gS) (R P k : Nat) : Prop := (∃ r : Nat, r < R ∧ s.1 26 r = 0 ∧ ((s.1 22 (60 + r)).toInt.toNat = k ∨ (12 + (s.1 23 (60 + r)).toInt.toNat = k ∧ freeM s (s.1 23 (60 + r)).toInt.toNat))) ∨ ∃ p : Nat, p < P ∧ s.1 18 (12 + p) ≠ 0 ∧ (p = k ∨ 32 + (s.1 16 (12 + p)).toInt.toNat = k)
theorem eI_ne (c : Nat → Bool) (n : Nat) : eI c n 0 ≠ 0 ↔ ∃ j, j < n ∧ c j = true := by
  rcases eI_spec c n 0 with ⟨h, g⟩ | ⟨h, j, -, j1, j2⟩
  · refine ⟨fun z => absurd h z, fun ⟨j, j1, j2⟩ => ?_⟩
    rw [g j (by omega) (by omega)] at j2
    exact absurd j2 (by decide)
  · exact ⟨fun _ => ⟨j, by omega, j2⟩, fun _ => by rw [h]; decide⟩
theorem nar_ne {c : Nat → Bool} {n : Nat} : vp_nar .boolean (eI c n 0) ≠ 0 ↔ eI c n 0 ≠ 0 := by
  rcases eI_spec c n 0 with ⟨h, -⟩ | ⟨h, -⟩ <;> rw [h]
  · exact ⟨fun z => absurd nb0 z, fun z => absurd rfl z⟩
  · exact ⟨fun _ => by decide, fun _ => by rw [nb1]; decide⟩
theorem i_eq {x : Int32} {k : Nat} (hx : 0 ≤ x.toInt) (hk : k < 1000) : x = Int32.ofNat k ↔ x.toInt.toNat = k := by
  have e : (Int32.ofNat k).toInt = k := iofNat_toInt (by omega)
  exact ⟨fun h => by rw [h]; omega, fun h => Int32.toInt_inj.mp (by omega)⟩
theorem UT9_iff {s : gS} (w : WF s) {k : Nat} (hk : k < 38) : UT9 s k ↔ MK9 s (s.1 15 9).toInt.toNat (s.1 15 7).toInt.toNat k := by
  obtain ⟨⟨b9, b8, b7, b6⟩, wr, wp⟩ := w
  have e : (Int32.ofNat k).toInt = k := iofNat_toInt (by omega)
  have en : (Int32.ofNat k).toInt.toNat = k := by omega
  have l12 : (12 : Int32).toInt = 12 := by decide
  have l32 : (32 : Int32).toInt = 32 := by decide
  have z0' := z0
  have e12 : 12 ≤ k → Int32.ofNat k - 12 = Int32.ofNat (k - 12) := fun h => by
    have f : (Int32.ofNat (k - 12)).toInt = ((k - 12 : Nat) : Int) := iofNat_toInt (by omega)
    exact Int32.toInt_inj.mp (by rw [isub_toInt] <;> omega)
  have e32 : 32 ≤ k → Int32.ofNat k - 32 = Int32.ofNat (k - 32) := fun h => by
    have f : (Int32.ofNat (k - 32)).toInt = ((k - 32 : Nat) : Int) := iofNat_toInt (by omega)
    exact Int32.toInt_inj.mp (by rw [isub_toInt] <;> omega)
  have pos : ∀ p : Nat, (p : Int) < (s.1 15 7).toInt → (s.1 18 (12 + p) ≤ 0 ↔ s.1 18 (12 + p) = 0) := fun p hp => by
    have := (wp p hp).2.1
    exact ⟨fun h => Int32.toInt_inj.mp (by have := Int32.le_iff_toInt_le.mp h; omega), fun h => by rw [h]; decide⟩
  unfold UT9 TH
  rw [e]
  by_cases h32 : 32 ≤ k
  · have iu : IU s (Int32.ofNat k) ≠ 0 ↔ ∃ p, p < (s.1 15 7).toInt.toNat ∧ s.1 16 (12 + p) = Int32.ofNat (k - 32) ∧ ¬ s.1 18 (12 + p) ≤ 0 := by
      unfold IU
      rw [if_neg (fun z => by have := Int32.lt_iff_toInt_lt.mp z; omega), nar_ne, eI_ne, e32 h32]
      exact ⟨fun ⟨j, a, b⟩ => ⟨j, a, of_decide_eq_true b⟩, fun ⟨j, a, b⟩ => ⟨j, a, decide_eq_true b⟩⟩
    rw [iu]
    constructor
    · rintro ⟨-, p, p1, p2, p3⟩
      refine .inr ⟨p, p1, fun z => p3 ((pos p (by omega)).mpr z), .inr ?_⟩
      have := (i_eq (wp p (by omega)).1.1 (by omega)).mp p2
      omega
    · rintro (⟨r, r1, r2, r3⟩ | ⟨p, p1, p2, p3⟩)
      · have := wr r (by omega)
        omega
      · have q := wp p (by omega)
        have ek : 32 + (s.1 16 (12 + p)).toInt.toNat = k := by
          rcases p3 with p3 | p3
          · omega
          · exact p3
        exact ⟨⟨fun z => absurd z (by omega), fun _ z => absurd z (by omega), fun _ => by omega⟩, p, p1, (i_eq q.1.1 (by omega)).mpr (by omega), fun z => p2 ((pos p (by omega)).mp z)⟩
  · by_cases h12 : 12 ≤ k
    · have iu : IU s (Int32.ofNat k) ≠ 0 ↔ ∃ r, r < (s.1 15 9).toInt.toNat ∧ s.1 26 r = 0 ∧ s.1 23 (60 + r) = Int32.ofNat (k - 12) := by
        unfold IU
        rw [if_pos (Int32.lt_iff_toInt_lt.mpr (by omega)), if_pos (Int32.le_iff_toInt_le.mpr (by omega)), eI_ne, e12 h12]
        exact ⟨fun ⟨j, a, b⟩ => ⟨j, a, of_decide_eq_true b⟩, fun ⟨j, a, b⟩ => ⟨j, a, decide_eq_true b⟩⟩
      rw [iu, e12 h12]
      constructor
      · rintro ⟨⟨-, t2, -⟩, r, r1, r2, r3⟩
        have e4 := (i_eq (wr r (by omega)).2.1.1 (by omega)).mp r3
        refine .inl ⟨r, r1, r2, .inr ⟨by omega, ?_⟩⟩
        rw [e4]
        exact (t2 (by omega) (by omega)).2
      · rintro (⟨r, r1, r2, r3⟩ | ⟨p, p1, p2, p3⟩)
        · have q := wr r (by omega)
          rcases r3 with r3 | ⟨r3, r4⟩
          · omega
          · refine ⟨⟨fun z => absurd z (by omega), fun _ _ => ⟨by omega, ?_⟩, fun z => absurd z (by omega)⟩, r, r1, r2, (i_eq q.2.1.1 (by omega)).mpr (by omega)⟩
            rw [show k - 12 = (s.1 23 (60 + r)).toInt.toNat by omega]
            exact r4
        · have := wp p (by omega)
          omega
    · have iu : IU s (Int32.ofNat k) ≠ 0 ↔ (¬ s.1 18 (12 + k) ≤ 0 ∨ ∃ r, r < (s.1 15 9).toInt.toNat ∧ s.1 26 r = 0 ∧ s.1 22 (60 + r) = Int32.ofNat k) := by
        unfold IU
        rw [if_pos (Int32.lt_iff_toInt_lt.mpr (by omega)), if_neg (fun z => by have := Int32.le_iff_toInt_le.mp z; omega), en]
        by_cases y : s.1 18 (12 + k) ≤ 0
        · rw [if_pos y, eI_ne]
          exact ⟨fun ⟨j, a, b⟩ => .inr ⟨j, a, of_decide_eq_true b⟩, fun z => by
            rcases z with z | ⟨j, a, b⟩
            · exact absurd y z
            · exact ⟨j, a, decide_eq_true b⟩⟩
        · rw [if_neg y]
          exact ⟨fun _ => .inl y, fun _ => by decide⟩
      rw [iu]
      constructor
      · rintro ⟨⟨t1, -, -⟩, h | ⟨r, r1, r2, r3⟩⟩
        · have hp := t1 (by omega)
          exact .inr ⟨k, by omega, fun z => h ((pos k hp).mpr z), .inl rfl⟩
        · exact .inl ⟨r, r1, r2, .inl ((i_eq (wr r (by omega)).1.1 (by omega)).mp r3)⟩
      · rintro (⟨r, r1, r2, r3⟩ | ⟨p, p1, p2, p3⟩)
        · have q := wr r (by omega)
          rcases r3 with r3 | ⟨r3, -⟩
          · exact ⟨⟨fun _ => by omega, fun z => absurd z (by omega), fun z => absurd z (by omega)⟩, .inr ⟨r, r1, r2, (i_eq q.1.1 (by omega)).mpr r3⟩⟩
          · omega
        · rcases p3 with p3 | p3
          · subst p3
            exact ⟨⟨fun _ => by omega, fun z => absurd z (by omega), fun z => absurd z (by omega)⟩, .inl (fun z => p2 ((pos p (by omega)).mp z))⟩
          · omega
theorem MK9_r {s : gS} {R P k : Nat} : MK9 s (R + 1) P k ↔ MK9 s R P k ∨ (s.1 26 R = 0 ∧ ((s.1 22 (60 + R)).toInt.toNat = k ∨ (12 + (s.1 23 (60 + R)).toInt.toNat = k ∧ freeM s (s.1 23 (60 + R)).toInt.toNat))) := by
  constructor
  · rintro (⟨r, r1, r2, r3⟩ | h)
    · by_cases z : r = R
      · subst z
        exact .inr ⟨r2, r3⟩
      · exact .inl (.inl ⟨r, by omega, r2, r3⟩)
    · exact .inl (.inr h)
  · rintro ((⟨r, r1, r2, r3⟩ | h) | ⟨r2, r3⟩)
    · exact .inl ⟨r, by omega, r2, r3⟩
    · exact .inr h
    · exact .inl ⟨R, by omega, r2, r3⟩
theorem MK9_p {s : gS} {R P k : Nat} : MK9 s R (P + 1) k ↔ MK9 s R P k ∨ (s.1 18 (12 + P) ≠ 0 ∧ (P = k ∨ 32 + (s.1 16 (12 + P)).toInt.toNat = k)) := by
  constructor
  · rintro (h | ⟨r, r1, r2, r3⟩)
    · exact .inl (.inl h)
    · by_cases z : r = P
      · subst z
        exact .inr ⟨r2, r3⟩
      · exact .inl (.inr ⟨r, by omega, r2, r3⟩)
  · rintro ((h | ⟨r, r1, r2, r3⟩) | ⟨r2, r3⟩)
    · exact .inl h
    · exact .inr ⟨r, by omega, r2, r3⟩
    · exact .inr ⟨P, by omega, r2, r3⟩
theorem MK9_0 {s : gS} {k : Nat} : ¬ MK9 s 0 0 k := by
  rintro (⟨r, r1, -⟩ | ⟨r, r1, -⟩) <;> omega
end P12ZZK
