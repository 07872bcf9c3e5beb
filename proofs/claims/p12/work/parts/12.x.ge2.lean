/-! THE GEOMETRY: what IV and GE give -/
section P12X
theorem wf_ge {σ s : gS} (h : IV σ s) (g : GE σ s) : WF s := by
  obtain ⟨b9, b8, b7, b6⟩ := JM_n h.2.1
  have T := h.2.2.2.2.2.2.2
  refine ⟨⟨b9, b8, b7, b6⟩, fun r hr => ?_, fun p hp => ?_⟩
  · have R := T.2.2.2.2 r hr
    exact ⟨⟨(h.2.1 22 _).1, R.2.2.1⟩, ⟨(h.2.1 23 _).1, R.2.2.2.1⟩, R.2.2.2.2.2.1⟩
  · have Q := T.2.2.1 p hp
    exact ⟨⟨(h.2.1 16 _).1, Q.2.2.2.1⟩, Q.2.2.2.2.2.1, (g.2.2.1 p hp).2⟩
theorem tn_ge {σ s : gS} (g : GE σ s) : TN σ s := ⟨fun p hp => (g.2.2.1 p hp).1, g.2.2.2.2.2.2.2⟩
theorem pb_ge {σ s : gS} (g : GE σ s) {a : Int32} (a0 : 0 ≤ a.toInt) (a1 : a.toInt ≤ 1) : PB σ s a := ⟨fun p hp => g.2.2.2.1 _ p (by omega) hp, fun q hq => g.2.2.2.2.1 _ q (by omega) hq, fun t ht => g.2.2.2.2.2.1 _ t (by omega) ht, fun r hr => (g.2.2.2.2.2.2.1 r hr).1⟩
end P12X
