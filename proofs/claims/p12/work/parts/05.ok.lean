/-! THAT A FUNCTION COMES THROUGH: Ok o P, o is some x with P x; its rules, one for each piece that dec.py lays -/
section OK
noncomputable def Ok {β : Type} (o : Option β) (P : β → Prop) : Prop := ∃ x, o = some x ∧ P x
theorem ok_some {β : Type} {x : β} {P : β → Prop} : Ok (some x) P ↔ P x := by
  constructor
  · rintro ⟨y, h, hp⟩
    cases h
    exact hp
  · intro h
    exact ⟨x, rfl, h⟩
theorem ok_nm {β γ : Type} {v : γ} {E : γ → Option β} {P : β → Prop} : Ok (nm v E) P ↔ Ok (E v) P := Iff.rfl
theorem ok_gd {β : Type} {b : Bool} {E : Option β} {P : β → Prop} : Ok (gd b E) P ↔ b = true ∧ Ok E P := by
  cases b with
  | true => exact ⟨fun h => ⟨rfl, h⟩, fun h => h.2⟩
  | false => exact ⟨fun ⟨x, h, _⟩ => (by cases h), fun h => (by cases h.1)⟩
theorem ok_ite {β : Type} {c : Prop} {dc : Decidable c} {A B : Option β} {P : β → Prop} : Ok (@ite _ c dc A B) P ↔ (c → Ok A P) ∧ (¬ c → Ok B P) := by
  by_cases h : c
  · rw [if_pos h]; exact ⟨fun x => ⟨fun _ => x, fun z => absurd h z⟩, fun x => x.1 h⟩
  · rw [if_neg h]; exact ⟨fun x => ⟨fun z => absurd z h, fun _ => x⟩, fun x => x.2 h⟩
theorem ok_bd {β γ : Type} {o : Option γ} {E : γ → Option β} {P : β → Prop} : Ok (bd o E) P ↔ Ok o (fun x => Ok (E x) P) := by
  cases o with
  | none => exact ⟨fun ⟨x, h, _⟩ => (by cases h), fun ⟨x, h, _⟩ => (by cases h)⟩
  | some r => exact (ok_some (x := r) (P := fun x => Ok (E x) P)).symm
theorem ok_bd2 {β γ : Type} {o : Option (γ × gS)} {E : γ → gS → Option β} {P : β → Prop} : Ok (bd2 o E) P ↔ Ok o (fun x => Ok (E x.1 x.2) P) := by
  cases o with
  | none => exact ⟨fun ⟨x, h, _⟩ => (by cases h), fun ⟨x, h, _⟩ => (by cases h)⟩
  | some r => exact (ok_some (x := r) (P := fun x => Ok (E x.1 x.2) P)).symm
theorem Ok.mono {β : Type} {o : Option β} {P R : β → Prop} (h : Ok o P) (hm : ∀ x, P x → R x) : Ok o R := by
  obtain ⟨x, e, p⟩ := h
  exact ⟨x, e, hm x p⟩
theorem Ok.and {β : Type} {o : Option β} {P R : β → Prop} (h : Ok o P) (h2 : Ok o R) : Ok o (fun x => P x ∧ R x) := by
  obtain ⟨x, e, p⟩ := h
  obtain ⟨y, e2, q⟩ := h2
  rw [e] at e2
  cases e2
  exact ⟨x, e, p, q⟩
/-- a loop, by what holds at its head with at most n rounds left -/
theorem ok_lpc {S β : Type} {B : (S → Option β) → S → Option β} {P : β → Prop} {I : Nat → S → Prop} (step : ∀ (rec : S → Option β) (n : Nat) (s : S), I n s → (∀ (m : Nat) (s' : S), m < n → I m s' → Ok (rec s') P) → Ok (B rec s) P) : ∀ (K N : Nat) (s : S), I N s → N < K → Ok (lpc K B s) P
  | 0, _, _, _, h => absurd h (Nat.not_lt_zero _)
  | K + 1, N, s, hI, h => step (lpc K B) N s hI (fun m s' hm hs => ok_lpc step K m s' hs (by omega))
theorem gb_of {i : Int32} {n : Nat} (h0 : 0 ≤ i.toInt) (h1 : i.toInt < (n : Int)) : gb i n = true := by
  have h := vp_in_iff.mpr ⟨h0, h1⟩
  unfold gb
  exact decide_eq_true h
theorem gb_iff {i : Int32} {n : Nat} : gb i n = true ↔ 0 ≤ i.toInt ∧ i.toInt < (n : Int) := ⟨fun h => vp_in_iff.mp (gb_in h), fun h => gb_of h.1 h.2⟩
theorem iadd_toInt {x y : Int32} (h0 : -2147483648 ≤ x.toInt + y.toInt) (h1 : x.toInt + y.toInt < 2147483648) : (x + y).toInt = x.toInt + y.toInt := by
  rw [Int32.toInt_add, Int.bmod_eq_of_le] <;> simp <;> omega
theorem isub_toInt {x y : Int32} (h0 : -2147483648 ≤ x.toInt - y.toInt) (h1 : x.toInt - y.toInt < 2147483648) : (x - y).toInt = x.toInt - y.toInt := by
  rw [Int32.toInt_sub, Int.bmod_eq_of_le] <;> simp <;> omega
theorem imul_toInt {x y : Int32} (h0 : -2147483648 ≤ x.toInt * y.toInt) (h1 : x.toInt * y.toInt < 2147483648) : (x * y).toInt = x.toInt * y.toInt := by
  rw [Int32.toInt_mul, Int.bmod_eq_of_le] <;> simp <;> omega
end OK
