/-! WHOLE, 11: what stands by control in use stands where it is told: kept by the reference's calls -/
section P12ZZR
def Pa9 {β : Type} (o : Option β) (P : β → Prop) : Prop := ∀ x, o = some x → P x
theorem pa_some {β : Type} {x : β} {P : β → Prop} (h : P x) : Pa9 (some x) P := fun y e => by cases e; exact h
theorem pa_nm {β γ : Type} {v : γ} {E : γ → Option β} {P : β → Prop} (h : Pa9 (E v) P) : Pa9 (nm v E) P := h
theorem pa_gd {β : Type} {b : Bool} {E : Option β} {P : β → Prop} (h : Pa9 E P) : Pa9 (gd b E) P := fun y e => h y (gd_some e).2
theorem pa_ite {β : Type} {c : Prop} {dc : Decidable c} {A B : Option β} {P : β → Prop} (h : c → Pa9 A P) (k : ¬ c → Pa9 B P) : Pa9 (@ite _ c dc A B) P := by
  by_cases z : c
  · rw [if_pos z]; exact h z
  · rw [if_neg z]; exact k z
theorem pa_bd {β γ : Type} {o : Option γ} {E : γ → Option β} {P : β → Prop} (h : ∀ r, o = some r → Pa9 (E r) P) : Pa9 (bd o E) P := fun y e => by
  obtain ⟨r, e1, e2⟩ := bd_some e
  exact h r e1 y e2
theorem pa_bd2 {β γ : Type} {o : Option (γ × gS)} {E : γ → gS → Option β} {P : β → Prop} (h : ∀ r s, o = some (r, s) → Pa9 (E r s) P) : Pa9 (bd2 o E) P := fun y e => by
  obtain ⟨r, s, e1, e2⟩ := bd2_ex e
  exact h r s e1 y e2
theorem pa_lpc {S β : Type} {B : (S → Option β) → S → Option β} {P : β → Prop} (I : S → Prop) (step : ∀ (rec : S → Option β) (s : S), I s → (∀ s', I s' → Pa9 (rec s') P) → Pa9 (B rec s) P) (K : Nat) (s : S) (h : I s) : Pa9 (lpc K B s) P := fun o e => lpc_part (I := I) (fun rec s hs hrec o ho => step rec s hs (fun s' h' x hx => hrec s' x h' hx) o ho) K s o h e
/-- fixed places, and what they hang on, as they were -/
def KQ9 (s t : gS) : Prop := t.1 15 = s.1 15 ∧ t.1 20 = s.1 20 ∧ t.1 21 = s.1 21 ∧ t.1 0 36 = s.1 0 36 ∧ ∀ q : Nat, (q : Int) < (s.1 15 8).toInt → ¬ freeM s q → t.1 28 (12 + q) = s.1 28 (12 + q) ∧ t.1 28 (50 + q) = s.1 28 (50 + q)
theorem fr_eq9 {s t : gS} (h20 : t.1 20 = s.1 20) (h36 : t.1 0 36 = s.1 0 36) (q : Nat) : freeM t q ↔ freeM s q := by
  unfold freeM
  rw [isC_eq h20 h36]
theorem KQ9_r {s : gS} : KQ9 s s := ⟨rfl, rfl, rfl, rfl, fun _ _ _ => ⟨rfl, rfl⟩⟩
theorem KQ9_t {s t u : gS} (h : KQ9 s t) (k : KQ9 t u) : KQ9 s u := by
  refine ⟨k.1.trans h.1, k.2.1.trans h.2.1, k.2.2.1.trans h.2.2.1, k.2.2.2.1.trans h.2.2.2.1, fun q hq hf => ?_⟩
  have a := h.2.2.2.2 q hq hf
  have b := k.2.2.2.2 q (by rw [h.1]; exact hq) (fun z => hf ((fr_eq9 h.2.1 h.2.2.2.1 q).mp z))
  exact ⟨b.1.trans a.1, b.2.trans a.2⟩
theorem KQ9_co {s t : gS} (h : KQ9 s t) (c : CO9 s) : CO9 t := fun q hq hf => by
  rw [h.1] at hq
  have hf' : ¬ freeM s q := fun z => hf ((fr_eq9 h.2.1 h.2.2.2.1 q).mpr z)
  obtain ⟨a, b⟩ := h.2.2.2.2 q hq hf'
  rw [a, b, h.2.2.1]
  exact c q hq hf'
theorem KQ9_row {s t u : gS} (h : KQ9 s t) (m : ∀ k, k = 15 ∨ k = 20 ∨ k = 21 ∨ k = 28 → u.1 k = t.1 k) (m36 : u.1 0 36 = t.1 0 36) : KQ9 s u := KQ9_t h ⟨m 15 (by omega), m 20 (by omega), m 21 (by omega), m36, fun q _ _ => by rw [m 28 (by omega)]; exact ⟨rfl, rfl⟩⟩
theorem KQ9_fr {L : List (Nat × Nat)} {s t : gS} (F : Fr L s t) (hL : ∀ q ∈ L, q ≠ (0, 0) ∧ q ≠ (0, 37) ∧ q.1 ∉ [15, 20, 21, 28]) : KQ9 s t := KQ9_row KQ9_r (fun k hk => Fr_row F k (fun q hq z => (hL q hq).2.2 (by rw [z]; simp; omega))) (F 0 36 (fun z => (hL _ z).1 rfl) (fun z => (hL _ z).2.1 rfl)).1
theorem SG_kq {s t : gS} {f g : Int32} {D : Nat → Prop} {F : Nat → Int} (h : SG s f D F t g) (b8 : (s.1 15 8).toInt ≤ 20) (hD : ∀ q : Nat, q < 20 → ¬ freeM s q → ¬ D (12 + q) ∧ ¬ D (50 + q)) : KQ9 s t := by
  obtain ⟨h1, h2, -, -, h5, -⟩ := h
  exact ⟨h1 15 (by decide) (by decide), h1 20 (by decide) (by decide), h1 21 (by decide) (by decide), h2 36 (by decide), fun q hq hf => ⟨h5 _ (hD q (by omega) hf).1, h5 _ (hD q (by omega) hf).2⟩⟩
theorem round_kq {s : gS} (w : WF s) : Pa9 (fX10_isRound s) (fun o => KQ9 s o.2 ∧ WF o.2) := fun o e => by
  obtain ⟨o', e', s1, g1, s2, g2, h1, h2, h3⟩ := m_round w
  rw [e] at e'
  cases e'
  obtain ⟨b9, b8, b7, b6⟩ := w.1
  have e1 := h1.1 15 (by decide) (by decide)
  have e2 := h2.1 15 (by decide) (by decide)
  have k1 : KQ9 s s1 := SG_kq h1 b8.2 (fun q hq hf => ⟨by
    rintro ⟨q', a', x1, x2, x3, x4, x5⟩
    have : q' = q := by omega
    rw [this] at x3
    exact hf x3, by
    rintro ⟨q', a', x1, x2, x3, x4, x5⟩
    have : q' = q := by omega
    rw [this] at x3
    exact hf x3⟩)
  have k2 : KQ9 s1 s2 := SG_kq h2 (by rw [e1]; exact b8.2) (fun q hq _ => ⟨by
    rintro ⟨q', a', x1, x2, x3, x4, x5⟩
    rw [e1] at x2
    omega, by
    rintro ⟨q', a', x1, x2, x3, x4, x5⟩
    rw [e1] at x2
    omega⟩)
  have k3 : KQ9 s2 o.2 := SG_kq h3 (by rw [e2, e1]; exact b8.2) (fun q hq _ => ⟨by
    rintro ⟨q', a', x1, x2, x3, x4, x5⟩
    rw [e2, e1] at x2
    omega, by
    rintro ⟨q', a', x1, x2, x3, x4, x5⟩
    rw [e2, e1] at x2
    omega⟩)
  exact ⟨KQ9_t (KQ9_t k1 k2) k3, SG_wf (SG_wf (SG_wf w h1) h2) h3⟩
theorem rests_kq {s : gS} (w : WF s) (n : Int32) : Pa9 (fX10_rests s n) (fun o => KQ9 s o.2 ∧ WF o.2) := by
  unfold fX10_rests
  refine pa_nm (pa_lpc (fun u : Int32 × gS => KQ9 s u.2 ∧ WF u.2) (fun rec u hs hrec => ?_) K9 _ ⟨KQ9_r, w⟩)
  obtain ⟨a, u⟩ := u
  unfold bX10_rests_2
  refine pa_ite (fun _ => pa_some hs) (fun _ => pa_bd2 (fun r v e => ?_))
  have k := round_kq hs.2 _ e
  have kv : KQ9 s v ∧ WF v := ⟨KQ9_t hs.1 k.1, k.2⟩
  exact pa_ite (fun _ => pa_some kv) (fun _ => pa_nm (hrec _ kv))
/-- controls placed: at last -/
theorem stand_co {s : gS} (b : 0 ≤ (s.1 15 8).toInt ∧ (s.1 15 8).toInt ≤ 20) : Pa9 (fX10_standControls s) (fun t => CO9 t) := fun t e => by
  obtain ⟨t', e', h1, h2, h5, h3⟩ := m_standControls b.1 b.2
  rw [e] at e'
  cases e'
  intro q hq hf
  rw [h1 15 (by decide)] at hq
  have := (h3 q hq).1 (fun z => hf ((fr_eq9 (h1 20 (by decide)) (by rw [h1 0 (by decide)]) q).mpr z))
  rw [h1 21 (by decide)]
  exact this
theorem stand_15 (s : gS) : Pa9 (fX10_standControls s) (fun t => t.1 15 = s.1 15) := by
  unfold fX10_standControls
  refine pa_nm (pa_lpc (fun u : Int32 × gS => u.2.1 15 = s.1 15) (fun rec u hs hrec => ?_) K9 _ rfl)
  obtain ⟨a, u⟩ := u
  unfold bX10_standControls_2
  refine pa_bd (fun r _ => pa_ite (fun _ => pa_some hs) (fun _ => pa_nm ?_))
  refine pa_lpc (fun v : Int32 × gS => v.2.1 15 = s.1 15) (fun rec2 v hv hrec2 => ?_) K9 _ hs
  obtain ⟨b, v⟩ := v
  unfold bX10_standControls_12
  exact pa_ite (fun _ => pa_nm (hrec _ hv)) (fun _ => pa_bd (fun r2 _ => pa_ite (fun _ => pa_nm (hrec2 _ hv)) (fun _ => pa_gd (pa_nm (pa_gd (pa_nm (pa_nm (hrec2 _ (show (gsI v 28 _ _).1 15 = s.1 15 by rw [gsI_row (by decide)]; exact hv)))))))))
theorem starts_last (s : gS) : Pa9 (fX10_starts s) (fun o => ∃ t, fX10_standControls t = some o.2) := by
  have L133 : ∀ (s1 s2 : gS) (a b : Int32), Pa9 (lpc (S := Int32 × gS) K9 (fun rec s' => bX10_starts_133 s1 a (fun a2 σ1 => rec (a2, σ1)) s'.1 s'.2) (b, s2)) (fun o => ∃ t, fX10_standControls t = some o.2) := fun s1 s2 a b => by
    refine pa_lpc (fun _ => True) (fun rec u _ hrec => ?_) K9 _ trivial
    have H : ∀ (x : Int32) (v : gS), Pa9 (lpc (S := Int32 × gS) K9 (fun rec1 s' => bX10_starts_161 u.2 a u.1 x (fun a2 σ1 => rec (a2, σ1)) (fun a4 σ1 => rec1 (a4, σ1)) s'.1 s'.2) (0, v)) (fun o => ∃ t, fX10_standControls t = some o.2) := fun x v => by
      refine pa_lpc (fun _ => True) (fun rec1 w _ hrec1 => ?_) K9 _ trivial
      unfold bX10_starts_161
      exact pa_ite (fun _ => pa_nm (hrec _ trivial)) (fun _ => pa_ite (fun _ => pa_gd (pa_nm (pa_nm (hrec1 _ trivial)))) (fun _ => pa_bd (fun r _ => pa_gd (pa_nm (pa_nm (hrec1 _ trivial))))))
    unfold bX10_starts_133
    refine pa_bd (fun r _ => pa_ite (fun _ => pa_bd (fun t e => pa_some ⟨_, e⟩)) (fun _ => pa_bd (fun r2 _ => pa_ite (fun _ => pa_nm (pa_nm (H _ _))) (fun _ => pa_bd (fun r3 _ => pa_nm (pa_nm (H _ _)))))))
  have L89 : ∀ (s1 s2 : gS) (a : Int32), Pa9 (lpc (S := Int32 × gS) K9 (fun rec s' => bX10_starts_89 s1 (fun a1 σ1 => rec (a1, σ1)) s'.1 s'.2) (a, s2)) (fun o => ∃ t, fX10_standControls t = some o.2) := fun s1 s2 a => by
    refine pa_lpc (fun _ => True) (fun rec u _ hrec => ?_) K9 _ trivial
    unfold bX10_starts_89
    exact pa_bd (fun r _ => pa_ite (fun _ => pa_nm (L133 _ _ _ _)) (fun _ => pa_bd (fun r2 _ => pa_nm (pa_ite (fun _ => pa_bd (fun r3 _ => pa_gd (pa_nm (pa_nm (hrec _ trivial))))) (fun _ => pa_bd (fun t _ => hrec _ trivial))))))
  unfold fX10_starts
  refine pa_nm (pa_lpc (fun _ => True) (fun rec u _ hrec => ?_) K9 _ trivial)
  unfold bX10_starts_2
  refine pa_ite (fun _ => pa_nm ?_) (fun _ => pa_gd (pa_nm (pa_nm (hrec _ trivial))))
  refine pa_lpc (fun _ => True) (fun rec v _ hrec => ?_) K9 _ trivial
  have J : ∀ (w : gS) (a z0 z1 : Int32), Pa9 (jX10_starts_54 w (fun a1 σ1 => rec (a1, σ1)) a z0 z1) (fun o => ∃ t, fX10_standControls t = some o.2) := fun w a z0 z1 => by
    unfold jX10_starts_54
    exact pa_gd (pa_nm (pa_ite (fun _ => pa_gd (pa_nm (pa_nm (hrec _ trivial)))) (fun _ => pa_gd (pa_nm (pa_nm (hrec _ trivial))))))
  unfold bX10_starts_23
  exact pa_ite (fun _ => pa_bd (fun r _ => pa_ite (fun _ => pa_nm (L89 _ _ _)) (fun _ => pa_nm (L89 _ _ _)))) (fun _ => pa_gd (pa_nm (pa_nm (pa_ite (fun _ => J _ _ _ _) (fun _ => J _ _ _ _)))))
theorem starts_co {s : gS} (hJ : JM s) : Pa9 (fX10_starts s) (fun o => CO9 o.2) := fun o e => by
  obtain ⟨t, ht⟩ := starts_last s o e
  obtain ⟨o', e', jo, -⟩ := o_fX10_starts hJ
  rw [e] at e'
  cases e'
  have e15 := stand_15 t _ ht
  have b8 := (JM_n jo).2.1
  rw [e15] at b8
  exact stand_co b8 _ ht
theorem WF_rows9 {s t : gS} (h : WF s) (m : ∀ k, k ∈ [15, 16, 18, 22, 23, 25, 27] → t.1 k = s.1 k) : WF t := by
  unfold WF
  rw [m 15 (by decide), m 22 (by decide), m 23 (by decide), m 25 (by decide), m 16 (by decide), m 18 (by decide), m 27 (by decide)]
  exact h
def KW9 (s t : gS) : Prop := JM t ∧ WF t ∧ KQ9 s t
theorem KW9_fr {L : List (Nat × Nat)} {s t u : gS} (h : KW9 s t) (j : JM u) (F : Fr L t u) (hL : ∀ q ∈ L, q ≠ (0, 0) ∧ q ≠ (0, 37) ∧ q.1 ∉ [15, 20, 21, 28, 16, 18, 22, 23, 25, 27]) : KW9 s u := ⟨j, WF_rows9 h.2.1 (fun k hk => Fr_row F k (fun q hq z => (hL q hq).2.2 (by rw [z]; simp at hk ⊢; omega))), KQ9_t h.2.2 (KQ9_fr F (fun q hq => ⟨(hL q hq).1, (hL q hq).2.1, fun z => (hL q hq).2.2 (by simp at z ⊢; omega)⟩))⟩
theorem KW9_26 {s t : gS} (h : KW9 s t) (r : Nat) (x : Int32) : KW9 s (gsI t 26 r (vp_nar .boolean x)) := ⟨JM_w h.1 (Int32.le_toInt _) (Int32.toInt_le _), WF_rows9 h.2.1 (fun k hk => gsI_row (by simp at hk; omega)), KQ9_row h.2.2 (fun k hk => gsI_row (by omega)) rfl⟩
theorem KW9_rests {s t u : gS} {r n : Int32} (h : KW9 s t) (n0 : 1 ≤ n.toInt) (n1 : n.toInt ≤ 500) (e : fX10_rests t n = some (r, u)) : KW9 s u := by
  obtain ⟨o, e', j, -⟩ := o_fX10_rests h.1 n0 n1
  rw [e] at e'
  cases e'
  have k := rests_kq h.2.1 n _ e
  exact ⟨j, k.2, KQ9_t h.2.2 k.1⟩
theorem clean_kq {s : gS} (hJ : JM s) (w : WF s) (L : Int64) : Pa9 (fX10_clean s L) (fun o => KQ9 s o.2) := by
  unfold fX10_clean
  refine pa_ite (fun _ => pa_nm ?_) (fun _ => pa_some KQ9_r)
  have L115 : ∀ (s1 u : gS) (k : Int32), KW9 s u → Pa9 (lpc (S := Int32 × Int32 × gS) K9 (fun rec s' => bX10_clean_115 s1 L k (fun a5 a6 σ1 => rec (a5, a6, σ1)) s'.1 s'.2.1 s'.2.2) (0, 0, u)) (fun o => KQ9 s o.2) := fun s1 u k hu => by
    refine pa_lpc (fun v : Int32 × Int32 × gS => KW9 s v.2.2) (fun rec v hv hrec => ?_) K9 _ hu
    obtain ⟨a, b, v⟩ := v
    unfold bX10_clean_115
    refine pa_bd (fun r _ => pa_ite (fun _ => pa_ite (fun _ => pa_nm (pa_some hv.2.2)) (fun _ => pa_bd2 (fun r2 v2 e => pa_nm (pa_some (KW9_rests hv (by decide) (by decide) e).2.2)))) (fun _ => pa_gd (pa_nm (pa_ite (fun _ => pa_nm (hrec _ hv)) (fun _ => pa_gd (pa_nm (pa_ite (fun _ => pa_bd (fun r3 _ => pa_ite (fun _ => pa_gd (pa_nm (pa_nm (pa_nm (hrec _ (KW9_26 hv _ _)))))) (fun _ => pa_nm (hrec _ hv)))) (fun _ => pa_nm (hrec _ hv)))))))))
  have L41 : ∀ (s1 u : gS), KW9 s u → Pa9 (lpc (S := Int32 × Int32 × gS) K9 (fun rec s' => bX10_clean_41 s1 L (fun a3 a4 σ1 => rec (a3, a4, σ1)) s'.1 s'.2.1 s'.2.2) (0, 1, u)) (fun o => KQ9 s o.2) := fun s1 u hu => by
    refine pa_lpc (fun v : Int32 × Int32 × gS => KW9 s v.2.2) (fun rec v hv hrec => ?_) K9 _ hu
    obtain ⟨a, b, v⟩ := v
    have J : ∀ (x : gS) (a6 z : Int32), KW9 s x → Pa9 (jX10_clean_88 x L (fun a3 a4 σ1 => rec (a3, a4, σ1)) a a6 z) (fun o => KQ9 s o.2) := fun x a6 z hx => by
      unfold jX10_clean_88
      exact pa_nm (pa_ite (fun _ => hrec _ hx) (fun _ => pa_gd (pa_nm (pa_nm (hrec _ (KW9_26 hx _ _))))))
    unfold bX10_clean_41
    refine pa_ite (fun _ => pa_nm (pa_nm (L115 _ _ _ hv))) (fun _ => pa_bd2 (fun r v2 e => pa_nm ?_))
    have h2 := KW9_rests hv (by decide) (by decide) e
    refine pa_bd2 (fun r2 v3 e2 => pa_nm ?_)
    obtain ⟨o, e', j, F, -⟩ := o_fX10_worstNow h2.1
    rw [e2] at e'
    cases e'
    have h3 : KW9 s v3 := ⟨j, WF_rows9 h2.2.1 (fun k hk => Fr_row F k (fun q hq z => by simp [fr_fX10_worstNow] at hq; rcases hq with rfl | rfl <;> (dsimp only at z; rw [← z] at hk; exact absurd hk (by decide)))), KQ9_t h2.2.2 (KQ9_fr F (by decide))⟩
    exact pa_ite (fun _ => J _ _ _ h3) (fun _ => pa_bd (fun r4 _ => pa_ite (fun _ => J _ _ _ h3) (fun _ => pa_ite (fun _ => J _ _ _ h3) (fun _ => J _ _ _ h3))))
  refine pa_lpc (fun v : Int32 × gS => KW9 s v.2) (fun rec v hv hrec => ?_) K9 _ ⟨hJ, w, KQ9_r⟩
  obtain ⟨a, v⟩ := v
  unfold bX10_clean_10
  refine pa_bd (fun r _ => pa_ite (fun _ => pa_nm (pa_nm (L41 _ _ hv))) (fun _ => pa_gd (pa_nm (pa_gd (pa_nm (pa_nm (hrec _ ?_)))))))
  exact ⟨JM_w hv.1 (Int32.le_toInt _) (Int32.toInt_le _), WF_rows9 hv.2.1 (fun k hk => gsI_row (by simp at hk; omega)), KQ9_row hv.2.2 (fun k hk => gsI_row (by omega)) rfl⟩
theorem place_kq {s : gS} (hJ : JM s) {v p a : Int32} (p0 : 0 ≤ p.toInt) (p1 : p.toInt ≤ 11) (a0 : 0 ≤ a.toInt) (a1 : a.toInt ≤ 1) : Pa9 (fX10_placeBy s v p a) (fun o => JM o.2 ∧ KQ9 s o.2) := fun o eo => by
  obtain ⟨o', eo', jo, -⟩ := o_fX10_placeBy hJ (p1 := v) (p2 := p) (p3 := a) p0 p1 a0 a1
  rw [eo] at eo'
  cases eo'
  refine ⟨jo, ?_⟩
  obtain ⟨t2, e2, u1, u2, u3, u4, u5, u6⟩ := m_puts s
  obtain ⟨t2', e2', j2, -⟩ := o_fX10_putsAside hJ
  rw [e2] at e2'
  cases e2'
  unfold fX10_placeBy at eo
  rw [q_bd e2, nm_eq] at eo
  obtain ⟨s3, hs3⟩ : ∃ s3, s3 = gsI t2 0 36 v := ⟨_, rfl⟩
  rw [← hs3] at eo
  have j3 : JM s3 := by rw [hs3]; exact JM_w j2 (Int32.le_toInt _) (Int32.toInt_le _)
  obtain ⟨m1, dm1, j4, H1⟩ := o_fX10_starts j3
  rw [q_bd2 dm1, nm_eq] at eo
  obtain ⟨m2, dm2, j5, H2, -⟩ := o_fX10_rests j4 (p1 := 200) (by decide) (by decide)
  rw [q_bd2 dm2, nm_eq] at eo
  obtain ⟨-, eo⟩ := gd_some eo
  rw [nm_eq, nm_eq] at eo
  obtain ⟨t5, e5, w1, w2, w3, w4, w5, w6⟩ := m_takes m2.2
  rw [q_bd e5] at eo
  cases eo
  have r : ∀ k, k ≠ 0 → k ≠ 27 → k ≠ 28 → k ≠ 29 → k ≠ 37 → k ≠ 38 → t5.1 k = s.1 k := fun k k0 k1 k2 k3 k4 k5 => by
    rw [w1 k k0 k1 k2, Fr_row H2 k (fun q hq z => by simp [fr_fX10_rests] at hq; rcases hq with rfl | rfl | rfl <;> dsimp only at z <;> omega), Fr_row H1 k (fun q hq z => by simp [fr_fX10_starts] at hq; rcases hq with rfl | rfl | rfl <;> dsimp only at z <;> omega), hs3, gsI_row k0, u1 k k0 k4 k5]
  have q37 : m2.2.1 37 = t2.1 37 := by rw [Fr_row H2 37 (by decide), Fr_row H1 37 (by decide), hs3, gsI_row (by decide)]
  have q52 : m2.2.1 0 52 = t2.1 0 52 := by rw [(H2 0 52 (by decide) (by decide)).1, (H1 0 52 (by decide) (by decide)).1, hs3, gsI_at, if_neg (by decide)]
  have b8 := (JM_n hJ).2.1
  refine ⟨r 15 (by decide) (by decide) (by decide) (by decide) (by decide) (by decide), r 20 (by decide) (by decide) (by decide) (by decide) (by decide) (by decide), r 21 (by decide) (by decide) (by decide) (by decide) (by decide) (by decide), ?_, fun q hq _ => ⟨?_, ?_⟩⟩
  · show t5.1 0 36 = _
    rw [w6, q52, u6]
  · show t5.1 28 (12 + q) = _
    rw [w4 _ (by omega), q37, u4 _ (by omega)]
  · show t5.1 28 (50 + q) = _
    rw [w4 _ (by omega), q37, u4 _ (by omega)]
theorem differ_kq {s : gS} (hJ : JM s) (x1 x2 : Int32) : Pa9 (fX10_differ s x1 x2) (fun o => KQ9 s o.2) := by
  have b7 := (JM_n hJ).2.2.1
  unfold fX10_differ
  rcases m_isPic b7 x1 with ⟨b, p0, p1⟩ | ⟨b, -⟩
  · rw [q_bd b, if_neg one_ne]
    rcases m_axis2 s x2 with ⟨d, hb⟩ | ⟨d, hb⟩
    · have a0 : 0 ≤ x2.toInt := by rcases hb with rfl | rfl <;> decide
      have a1 : x2.toInt ≤ 1 := by rcases hb with rfl | rfl <;> decide
      rw [q_bd d, if_neg one_ne]
      refine pa_bd2 (fun r u e => pa_bd2 (fun r2 v e2 => pa_some ?_))
      have k := place_kq hJ p0 (by omega) a0 a1 _ e
      have k2 := place_kq k.1 p0 (by omega) a0 a1 _ e2
      exact KQ9_t k.2 k2.2
    · rw [q_bd d, if_pos rfl]
      exact pa_some KQ9_r
  · rw [q_bd b, if_pos rfl]
    exact pa_some KQ9_r
theorem alters_kq {s : gS} (hJ : JM s) (x1 x2 x3 x4 : Int32) : Pa9 (fX10_alters s x1 x2 x3 x4) (fun o => KQ9 s o.2) := fun o eo => by
  obtain ⟨b9, b8, b7, b6⟩ := JM_n hJ
  obtain ⟨o', eo', jo, Fo⟩ := o_fX10_alters hJ (p1 := x1) (p2 := x2) (p3 := x3) (p4 := x4)
  rw [eo] at eo'
  cases eo'
  have eM' := eo
  unfold fX10_alters at eM'
  rcases m_can hJ x1 x2 x3 with ⟨b, b1⟩ | ⟨b, b1⟩
  · have p0 := b1.1.1
    have p1 : x1.toInt ≤ 59 := by have := b1.1.2; omega
    rw [q_bd b, if_neg one_ne] at eM'
    by_cases c : 0 ≤ x4
    · rw [if_pos c] at eM'
      have l120 : (120 : Int32).toInt = 120 := by decide
      have l1 : (1 : Int32).toInt = 1 := by decide
      have m2 : (2 * x1).toInt = 2 * x1.toInt := imulc (by decide) (by omega) (by omega)
      have m120 : (120 + 2 * x1).toInt = 120 + 2 * x1.toInt := by rw [iadd_toInt] <;> omega
      have m121 : (120 + 2 * x1 + 1).toInt = 121 + 2 * x1.toInt := by rw [iadd_toInt] <;> omega
      have y1 : (120 + 2 * x1).toNatClampNeg = 120 + 2 * x1.toInt.toNat := by rw [n_toInt]; omega
      have y2 : (120 + 2 * x1 + 1).toNatClampNeg = 120 + (2 * x1.toInt.toNat + 1) := by rw [n_toInt]; omega
      obtain ⟨t2, e2, u1, u2, u3, u4, u5, u6⟩ := m_puts s
      obtain ⟨t2', e2', jt2, -⟩ := o_fX10_putsAside hJ
      rw [e2] at e2'
      cases e2'
      obtain ⟨q, eq, jq, Fq, -⟩ := o_fX10_rests jt2 (p1 := 200) (by decide) (by decide)
      have qk : ∀ k, k ≠ 0 → k ≠ 28 → q.2.1 k = t2.1 k := fun k h0 h1 => Fr_row Fq k (fun y hy => by simp [fr_fX10_rests] at hy; rcases hy with rfl | rfl | rfl <;> dsimp only <;> omega)
      rw [q_gd (gb_of (by omega) (by omega)), nm_eq, nm_eq, y1, q_gd (gb_of (by omega) (by omega)), nm_eq, nm_eq, y2, q_bd e2, q_bd2 eq, nm_eq, nm_eq] at eM'
      have fa := m_alt (s := s) (t3 := q.2) p0 p1 rfl rfl jq (fun k k0 k1 k2 k3 => (qk k k0 k1).trans (u1 k k0 k2 k3)) (fun i hi => by rw [qk 37 (by decide) (by decide)]; exact u4 i hi) (fun i hi => by rw [qk 38 (by decide) (by decide)]; exact u5 i hi) (by rw [(Fq 0 52 (by decide) (by decide)).1]; exact u6) eM'
      obtain ⟨fa1, fa2, fa3, fa4, fa5, fa6⟩ := fa
      exact ⟨fa1, Fr_row Fo 20 (by decide), Fr_row Fo 21 (by decide), fa3, fun i hi _ => ⟨fa5 _ (by omega), fa5 _ (by omega)⟩⟩
    · rw [if_neg c] at eM'
      cases eM'
      exact KQ9_r
  · rw [q_bd b, if_pos rfl] at eM'
    cases eM'
    exact KQ9_r
theorem on_co {s : gS} (hJ : JM s) (co : CO9 s) : Pa9 (fX10_on s) (fun o => CO9 o.2) := fun o eM => by
  have z0' := z0
  have l1 : (1 : Int32).toInt = 1 := by decide
  unfold fX10_on at eM
  rw [nm_eq, nm_eq] at eM
  obtain ⟨sM, hsM⟩ : ∃ u, u = gsI s 0 1 0 := ⟨_, rfl⟩
  rw [← hsM] at eM
  have jM : JM sM := by rw [hsM]; exact JM_w hJ (show (0 : Int) ≤ (0 : Int32).toInt by decide) (show (0 : Int32).toInt ≤ (1600 : Int) by decide)
  have mr : ∀ k, k ≠ 0 → sM.1 k = s.1 k := fun k hk => by rw [hsM, gsI_row hk]
  have m36 : sM.1 0 36 = s.1 0 36 := by rw [hsM, gsI_at, if_neg (by decide)]
  have t0 : 0 ≤ (s.1 0 1).toInt ∧ (s.1 0 1).toInt ≤ 1600 := hJ 0 1
  obtain ⟨b9, b8, b7, b6⟩ := JM_n jM
  have cck : ∃ ck, (s.1 0 1).toInt = due sM → fX10_checked sM 1 (s.1 0 1 - 1) = some ck := by
    by_cases z : (s.1 0 1).toInt = due sM
    · have z' := z
      unfold due at z'
      have em : (s.1 0 1 - 1).toInt = (s.1 0 1).toInt - 1 := by rw [isub_toInt] <;> omega
      obtain ⟨ck, e, -⟩ := o_fX10_checked jM (p0 := 1) (p1 := s.1 0 1 - 1) (by decide) (by decide) (by omega) (by omega) (.inl ⟨rfl, by omega⟩)
      exact ⟨ck, fun _ => e⟩
    · exact ⟨0, fun w => absurd w z⟩
  obtain ⟨ck, hck⟩ := cck
  rcases r_isTold jM (n := s.1 0 1) t0.1 hck with ⟨a, a1⟩ | ⟨a, -⟩
  · rw [q_bd a, if_neg one_ne, q_gd (by decide), nm_eq, nm_eq, nm_eq, nm_eq, show (Int32.toNatClampNeg 0) = 0 from rfl] at eM
    obtain ⟨u, hu⟩ : ∃ u, u = gsI sM 0 36 (sM.1 1 0) := ⟨_, rfl⟩
    rw [← hu] at eM
    have sr : ∀ k, k ≠ 0 → u.1 k = sM.1 k := fun k hk => by rw [hu, gsI_row hk]
    have s36 : u.1 0 36 = sM.1 1 0 := by rw [hu, gsI_at, if_pos rfl]
    obtain ⟨om', eM', hO⟩ := m_onTells (s := u) (by rw [sr 15 (by decide)]; exact ⟨b9, b8, b7, b6⟩)
    rw [eM'] at eM
    cases eM
    obtain ⟨hF, hA, hB, hD, hW⟩ := hO
    rw [sr 1 (by decide), sr 15 (by decide)] at hB
    obtain ⟨w1, w2, w3, w4, w5, w6, w7⟩ := a1
    have o15 : o.2.1 15 = sM.1 15 := by rw [hF.1 15 (by decide) (by decide) (by decide), sr 15 (by decide)]
    have o20 : o.2.1 20 = sM.1 20 := by rw [hF.1 20 (by decide) (by decide) (by decide), sr 20 (by decide)]
    have o21 : o.2.1 21 = sM.1 21 := by rw [hF.1 21 (by decide) (by decide) (by decide), sr 21 (by decide)]
    have o0 : o.2.1 0 36 = sM.1 1 0 := by rw [hF.1 0 (by decide) (by decide) (by decide)]; exact s36
    intro q hq hf
    rw [o15] at hq
    have hm : MUST (sM.1 1) sM q := by
      have e : (Int32.ofNat q).toInt = q := iofNat_toInt (by omega)
      have l20 : (20 : Int32).toInt = 20 := by decide
      have e2 : (20 + Int32.ofNat q).toInt = 20 + q := by rw [iadd_toInt] <;> omega
      have n2 : (20 + Int32.ofNat q).toNatClampNeg = 20 + q := by rw [n_toInt]; omega
      unfold freeM fX10_isControl at hf
      rw [q_gd (gb_of (by omega) (by omega)), nm_eq, nm_eq, n2, o20, o0] at hf
      refine ⟨fun z => hf (if_pos z), Classical.byContradiction (fun z => hf ?_)⟩
      by_cases y : sM.1 20 (20 + q) = 0
      · exact if_pos y
      · rw [if_neg y, if_neg z]
    obtain ⟨p1, p2⟩ := (w5 q hq).1 hm
    have hb := hB q (by omega)
    rw [show 38 + (12 + q) = 50 + q by omega] at hb
    rw [o21]
    exact ⟨hb.1.trans p1, hb.2.trans p2⟩
  · rw [q_bd a, if_pos rfl] at eM
    cases eM
    exact KQ9_co ⟨mr 15 (by decide), mr 20 (by decide), mr 21 (by decide), m36, fun q _ _ => by rw [mr 28 (by decide)]; exact ⟨rfl, rfl⟩⟩ co
theorem sets_co {s : gS} (hJ : JM s) (co : CO9 s) (x : Int32) : Pa9 (fX10_sets s x) (fun o => CO9 o.2) := by
  unfold fX10_sets
  exact pa_bd (fun r _ => pa_ite (fun _ => pa_some co) (fun _ => pa_nm (pa_bd (fun t e => pa_bd (fun r2 _ => pa_some (stand_co (s := gsI s 0 36 x) (by rw [gsI_row (show 15 ≠ 0 by decide)]; exact (JM_n hJ).2.1) _ e))))))
end P12ZZR
