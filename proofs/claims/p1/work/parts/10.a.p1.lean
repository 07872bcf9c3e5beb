/-! ONE CALL ON FRESH OBJECTS: both sides come through and answer alike (part p1) -/
section P1
theorem q_bd {β γ : Type} {o : Option γ} {E : γ → Option β} {x : γ} (h : o = some x) : bd o E = E x := by rw [h]; rfl
theorem q_bd2 {β γ : Type} {o : Option (γ × gS)} {E : γ → gS → Option β} {x : γ × gS} (h : o = some x) : bd2 o E = E x.1 x.2 := by rw [h]; rfl
theorem q_gd {β : Type} {b : Bool} {E : Option β} (h : b = true) : gd b E = E := by rw [h]; rfl
theorem q_nm {β γ : Type} {v w : β} {E : β → γ} (h : v = w) : nm v E = E w := by rw [h]; rfl
theorem q_lpc {S α : Type} {K K' : Nat} {B : (S → Option α) → S → Option α} {s : S} (h : K = K' + 1) : lpc K B s = B (lpc K' B) s := by subst h; rfl
theorem q_ex {α β : Type} {o : Option α} {f : α → β} {b : β} (h : o.map f = some b) : ∃ a, o = some a ∧ f a = b := by
  cases o with
  | none => cases h
  | some a => exact ⟨a, rfl, Option.some.inj h⟩
theorem q_of {x : Int32} (c : Int32) (h : x.toInt = c.toInt) : x = c := Int32.toInt_inj.mp h
/-- both answered by numbers that the kernel counts -/
theorem q_two {oc om : Option (Int32 × gS)} {v : Int32} (h1 : oc.map (fun x => x.1) = some v) (h2 : om.map (fun x => x.1) = some v) : ∃ (a : Int32 × gS) (b : Int32 × gS), oc = some a ∧ om = some b ∧ a.1 = b.1 ∧ True := by
  obtain ⟨a, ha, ha'⟩ := q_ex h1
  obtain ⟨b, hb, hb'⟩ := q_ex h2
  exact ⟨a, b, ha, hb, ha'.trans hb'.symm, trivial⟩
theorem q_cm {oc : Option (Int32 × gS)} {om : Option Int32} {v : Int32} (h1 : oc.map (fun x => x.1) = some v) (h2 : om = some v) : ∃ (a : Int32 × gS) (b : Int32), oc = some a ∧ om = some b ∧ a.1 = b ∧ True := by
  obtain ⟨a, ha, ha'⟩ := q_ex h1
  exact ⟨a, v, ha, h2, ha', trivial⟩
theorem q_oo {β : Type} {oc om : Option β} {v : β} (h1 : oc = some v) (h2 : om = some v) : ∃ (a : β) (b : β), oc = some a ∧ om = some b ∧ a = b ∧ True := ⟨v, v, h1, h2, rfl, trivial⟩
theorem q_pp {oc om : Option (Int32 × gS)} {v : Int32} {s t : gS} (h1 : oc = some (v, s)) (h2 : om = some (v, t)) : ∃ (a : Int32 × gS) (b : Int32 × gS), oc = some a ∧ om = some b ∧ a.1 = b.1 ∧ True := ⟨(v, s), (v, t), h1, h2, rfl, trivial⟩
theorem q_po {oc : Option (Int32 × gS)} {om : Option Int32} {v : Int32} {s : gS} (h1 : oc = some (v, s)) (h2 : om = some v) : ∃ (a : Int32 × gS) (b : Int32), oc = some a ∧ om = some b ∧ a.1 = b ∧ True := ⟨(v, s), v, h1, h2, rfl, trivial⟩
end P1
