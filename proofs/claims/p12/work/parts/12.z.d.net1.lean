/-! WHAT HANGS TOGETHER, 1: labels that are joined -/
section P12ZD
noncomputable def mg (P : Nat → Int32) (a b k : Nat) : Int32 := if P k = P b then P a else P k
theorem mg_eq {P Q : Nat → Int32} {a b : Nat} (h : ∀ k, k < 32 → P k = Q k) (ha : a < 32) (hb : b < 32) : ∀ k, k < 32 → mg P a b k = mg Q a b k := fun k hk => by
  unfold mg
  rw [h a ha, h b hb, h k hk]
theorem mg_id {P : Nat → Int32} {a b : Nat} (h : P a = P b) (k : Nat) : mg P a b k = P k := by
  unfold mg
  by_cases z : P k = P b
  · rw [if_pos z, z, h]
  · rw [if_neg z]
/-- two rows of labels that part alike -/
noncomputable def EQ (P Q : Nat → Int32) : Prop := ∀ k l, k < 32 → l < 32 → (P k = P l ↔ Q k = Q l)
theorem mg_iff {P : Nat → Int32} {a b k l : Nat} : (mg P a b k = mg P a b l) ↔ (P k = P l ∨ ((P k = P a ∨ P k = P b) ∧ (P l = P a ∨ P l = P b))) := by
  unfold mg
  by_cases z : P k = P b <;> by_cases y : P l = P b
  · rw [if_pos z, if_pos y]
    exact ⟨fun _ => .inl (z.trans y.symm), fun _ => rfl⟩
  · rw [if_pos z, if_neg y]
    constructor
    · intro e
      exact .inr ⟨.inr z, .inl e.symm⟩
    · rintro (e | ⟨-, e | e⟩)
      · exact absurd (e.symm.trans z) y
      · exact e.symm
      · exact absurd e y
  · rw [if_neg z, if_pos y]
    constructor
    · intro e
      exact .inr ⟨.inl e, .inr y⟩
    · rintro (e | ⟨e | e, -⟩)
      · exact absurd (e.trans y) z
      · exact e
      · exact absurd e z
  · rw [if_neg z, if_neg y]
    constructor
    · exact fun e => .inl e
    · rintro (e | ⟨e | e, f | f⟩)
      · exact e
      · exact e.trans f.symm
      · exact absurd f y
      · exact absurd e z
      · exact absurd e z
theorem EQ_mg {P Q : Nat → Int32} {a b : Nat} (h : EQ P Q) (ha : a < 32) (hb : b < 32) : EQ (mg P a b) (mg Q b a) := fun k l hk hl => by
  rw [mg_iff, mg_iff, h k l hk hl, h k a hk ha, h k b hk hb, h l a hl ha, h l b hl hb]
  constructor
  · rintro (e | ⟨e, f⟩)
    · exact .inl e
    · exact .inr ⟨e.symm, f.symm⟩
  · rintro (e | ⟨e, f⟩)
    · exact .inl e
    · exact .inr ⟨e.symm, f.symm⟩
/-- rows join -/
noncomputable def rP (u : Nat → Bool) (p q : Nat → Nat) : Nat → Nat → Int32
  | 0, k => Int32.ofNat k
  | r + 1, k => if u r = true then mg (rP u p q r) (p r) (12 + q r) k else rP u p q r k
/-- centres join: the class's way, the reference's way -/
noncomputable def cC (cen : Nat → Bool) (fc : Nat → Nat) (P : Nat → Int32) : Nat → Nat → Int32
  | 0, k => P k
  | p + 1, k => if cen p = true then mg (cC cen fc P p) (fc p) p k else cC cen fc P p k
noncomputable def iM (c : Nat → Bool) (p : Nat) (P : Nat → Int32) : Nat → Nat → Int32
  | 0, k => P k
  | o + 1, k => if c o = true then mg (iM c p P o) p o k else iM c p P o k
noncomputable def cM (cen : Nat → Bool) (st : Nat → Int32) (P : Nat → Int32) : Nat → Nat → Int32
  | 0, k => P k
  | p + 1, k => if cen p = true then iM (fun o => cen o && decide (st p = st o)) p (cM cen st P p) p k else cM cen st P p k
/-- centres of a strip, ahead of p, hang together -/
noncomputable def TG (cen : Nat → Bool) (st : Nat → Int32) (p : Nat) (Q : Nat → Int32) : Prop := ∀ o i, o < p → i < p → cen o = true → cen i = true → st o = st i → Q o = Q i
theorem iM_no {c : Nat → Bool} {p : Nat} {Q : Nat → Int32} : ∀ n, (∀ o, o < n → ¬ c o = true) → ∀ k, iM c p Q n k = Q k
  | 0, _, _ => rfl
  | n + 1, h, k => by
    show (if c n = true then _ else iM c p Q n k) = _
    rw [if_neg (h n (by omega))]
    exact iM_no n (fun o ho => h o (by omega)) k
theorem iM_yes {c : Nat → Bool} {p f : Nat} {Q : Nat → Int32} (hf : c f = true) (h0 : ∀ o, o < f → ¬ c o = true) (ht : ∀ o, c o = true → o < p → Q o = Q f) : ∀ n, f < n → n ≤ p → ∀ k, iM c p Q n k = mg Q p f k
  | 0, h, _, _ => absurd h (Nat.not_lt_zero _)
  | n + 1, h, hn, k => by
    show (if c n = true then mg (iM c p Q n) p n k else iM c p Q n k) = _
    by_cases z : n = f
    · subst z
      rw [if_pos hf]
      have e : iM c p Q n = Q := funext fun k => iM_no n h0 k
      rw [e]
    · have e : iM c p Q n = mg Q p f := funext fun k => iM_yes hf h0 ht n (by omega) (by omega) k
      rw [e]
      by_cases y : c n = true
      · rw [if_pos y]
        refine mg_id ?_ k
        unfold mg
        rw [if_pos (ht n y (by omega))]
        by_cases x : Q p = Q f
        · rw [if_pos x]
        · rw [if_neg x]
      · rw [if_neg y]
theorem cen_eq {cen : Nat → Bool} {st : Nat → Int32} {fc : Nat → Nat} {P : Nat → Int32} (N : Nat) (hN : N ≤ 12) (hf : ∀ p, p < N → cen p = true → fc p ≤ p ∧ cen (fc p) = true ∧ st (fc p) = st p ∧ ∀ o, o < fc p → cen o = true → ¬ st o = st p) : ∀ n, n ≤ N → EQ (cC cen fc P n) (cM cen st P n) ∧ TG cen st n (cM cen st P n)
  | 0, _ => ⟨fun _ _ _ _ => Iff.rfl, fun o i ho => absurd ho (Nat.not_lt_zero _)⟩
  | n + 1, hn => by
    obtain ⟨ih, tg⟩ := cen_eq N hN hf n (by omega)
    by_cases z : cen n = true
    · obtain ⟨f1, f2, f3, f4⟩ := hf n (by omega) z
      have eC : cC cen fc P (n + 1) = mg (cC cen fc P n) (fc n) n := funext fun k => if_pos z
      have eM : cM cen st P (n + 1) = iM (fun o => cen o && decide (st n = st o)) n (cM cen st P n) n := funext fun k => if_pos z
      have cc : ∀ o, ((cen o && decide (st n = st o)) = true) ↔ (cen o = true ∧ st n = st o) := fun o => by simp
      rw [eC, eM]
      by_cases y : fc n = n
      · have eI : iM (fun o => cen o && decide (st n = st o)) n (cM cen st P n) n = cM cen st P n := funext fun k => iM_no n (fun o ho c => by
          have c' := (cc o).mp c
          exact f4 o (by omega) c'.1 c'.2.symm) k
        have eC2 : mg (cC cen fc P n) (fc n) n = cC cen fc P n := funext fun k => mg_id (by rw [y]) k
        rw [eI, eC2]
        refine ⟨ih, fun o i ho hi co ci e => ?_⟩
        by_cases x : o = n <;> by_cases w : i = n
        · rw [x, w]
        · exact absurd (by rw [← e, x]) (f4 i (by omega) ci)
        · exact absurd (by rw [e, w]) (f4 o (by omega) co)
        · exact tg o i (by omega) (by omega) co ci e
      · have eI : iM (fun o => cen o && decide (st n = st o)) n (cM cen st P n) n = mg (cM cen st P n) n (fc n) := funext fun k => iM_yes ((cc _).mpr ⟨f2, f3.symm⟩) (fun o ho c => by
          have c' := (cc o).mp c
          exact f4 o ho c'.1 c'.2.symm) (fun o co ho => by
          have c' := (cc o).mp co
          exact tg o (fc n) ho (by omega) c'.1 f2 (c'.2.symm.trans f3.symm)) n (by omega) (Nat.le_refl _) k
        rw [eI]
        refine ⟨EQ_mg ih (by omega) (by omega), fun o i ho hi co ci e => ?_⟩
        refine mg_iff.mpr ?_
        by_cases x : o = n <;> by_cases w : i = n
        · rw [x, w]; exact .inl rfl
        · refine .inr ⟨.inl (by rw [x]), .inr ?_⟩
          exact tg i (fc n) (by omega) (by omega) ci f2 (by rw [← e, x, f3])
        · refine .inr ⟨.inr ?_, .inl (by rw [w])⟩
          exact tg o (fc n) (by omega) (by omega) co f2 (by rw [e, w, f3])
        · exact .inl (tg o i (by omega) (by omega) co ci e)
    · have eC : cC cen fc P (n + 1) = cC cen fc P n := funext fun k => if_neg z
      have eM : cM cen st P (n + 1) = cM cen st P n := funext fun k => if_neg z
      rw [eC, eM]
      refine ⟨ih, fun o i ho hi co ci e => ?_⟩
      have x : ¬ o = n := fun y => z (by rw [← y]; exact co)
      have w : ¬ i = n := fun y => z (by rw [← y]; exact ci)
      exact tg o i (by omega) (by omega) co ci e
/-- labels stay labels -/
noncomputable def LB (P : Nat → Int32) : Prop := ∀ k, k < 32 → 0 ≤ (P k).toInt ∧ (P k).toInt ≤ 31
theorem LB_mg {P : Nat → Int32} {a b : Nat} (h : LB P) (ha : a < 32) : LB (mg P a b) := fun k hk => by
  unfold mg
  by_cases z : P k = P b
  · rw [if_pos z]; exact h a ha
  · rw [if_neg z]; exact h k hk
/-! joins, on both sides -/
theorem k_join {σ : gS} {a b : Int32} (a0 : 0 ≤ a.toInt) (a1 : a.toInt ≤ 31) (b0 : 0 ≤ b.toInt) (b1 : b.toInt ≤ 31) : Ok (fX2_join σ a b) (fun τ => (∀ j, j ≠ 138 → τ.1 j = σ.1 j) ∧ τ.2 = σ.2 ∧ ∀ k, k < 32 → τ.1 138 k = mg (σ.1 138) a.toInt.toNat b.toInt.toNat k) := by
  have z0' := z0
  have lm : (-1 : Int32).toInt = -1 := by decide
  have l32 : (32 : Int32).toInt = 32 := by decide
  have ga := gb_of (i := a) (n := 32) a0 (by omega)
  have gb' := gb_of (i := b) (n := 32) b0 (by omega)
  have hne : ¬ a = -1 := fun z => by rw [z] at a0; omega
  unfold fX2_join
  rw [if_neg hne, q_gd ga, nm_eq, q_gd gb', nm_eq, n_toInt, n_toInt]
  by_cases e : σ.1 138 a.toInt.toNat = σ.1 138 b.toInt.toNat
  · rw [if_pos e]
    exact ok_some.mpr ⟨fun _ _ => rfl, rfl, fun k _ => (mg_id e k).symm⟩
  rw [if_neg e, q_gd gb', nm_eq, nm_eq, nm_eq]
  refine ok_lpc (I := fun (m : Nat) (t : Int32 × gS) => m = (32 - t.1.toInt).toNat ∧ 0 ≤ t.1.toInt ∧ t.1.toInt ≤ 32 ∧ (∀ j, j ≠ 138 → t.2.1 j = σ.1 j) ∧ t.2.2 = σ.2 ∧ (∀ k : Nat, (k : Int) < t.1.toInt → t.2.1 138 k = mg (σ.1 138) a.toInt.toNat b.toInt.toNat k) ∧ ∀ k : Nat, t.1.toInt ≤ (k : Int) → t.2.1 138 k = σ.1 138 k) (fun rec m t hs hrec => ?_) K9 32 (0, σ) ⟨by dsimp only; omega, by dsimp only; omega, by dsimp only; omega, fun _ _ => rfl, rfl, fun k hk => absurd hk (by dsimp only; omega), fun _ _ => rfl⟩ (by unfold K9; omega)
  obtain ⟨i, τ⟩ := t
  obtain ⟨hm, i0, i1, h1, h2, h3, h4⟩ := hs
  dsimp only at hm i0 i1 h1 h2 h3 h4 ⊢
  unfold bX2_join_31
  refine ok_ite.mpr ⟨fun hk => ok_some.mpr ⟨h1, h2, fun k hk2 => h3 k (by have := Int32.le_iff_toInt_le.mp hk; omega)⟩, fun hk => ?_⟩
  have hlt := q_gt hk
  have ei := i_inc (a := i) (c := 60) (by omega) (by omega) (by decide)
  have gi := gb_of (i := i) (n := 32) i0 (by omega)
  have ea : τ.1 138 a.toInt.toNat = σ.1 138 a.toInt.toNat := by
    by_cases z : a.toInt < i.toInt
    · rw [h3 _ (by omega)]
      unfold mg
      rw [if_neg e]
    · exact h4 _ (by omega)
  rw [q_gd gi, nm_eq, n_toInt, h4 i.toInt.toNat (by omega)]
  by_cases z : σ.1 138 i.toInt.toNat = σ.1 138 b.toInt.toNat
  · rw [if_pos z, q_gd ga, nm_eq, q_gd gi, nm_eq, nm_eq, n_toInt, ea]
    refine hrec (32 - (i + 1).toInt).toNat _ (by omega) ⟨rfl, by dsimp only; omega, by dsimp only; omega, fun j hj => (gsI_row hj).trans (h1 j hj), h2, fun k hk => ?_, fun k hk => ?_⟩
    · dsimp only at hk ⊢
      rw [gsI_at]
      by_cases y : k = i.toInt.toNat
      · rw [if_pos y, y]
        exact (if_pos z).symm
      · rw [if_neg y]
        exact h3 k (by omega)
    · dsimp only at hk ⊢
      rw [gsI_at, if_neg (by omega)]
      exact h4 k (by omega)
  · rw [if_neg z, nm_eq]
    refine hrec (32 - (i + 1).toInt).toNat _ (by omega) ⟨rfl, by dsimp only; omega, by dsimp only; omega, h1, h2, fun k hk => ?_, fun k hk => h4 k (by dsimp only at hk; omega)⟩
    dsimp only at hk ⊢
    by_cases y : k = i.toInt.toNat
    · rw [h4 k (by omega), y]
      exact (if_neg z).symm
    · exact h3 k (by omega)
theorem m_joins {s : gS} {a b : Int32} (a0 : 0 ≤ a.toInt) (a1 : a.toInt ≤ 31) (b0 : 0 ≤ b.toInt) (b1 : b.toInt ≤ 31) : Ok (fX10_joins s a b) (fun o => (∀ j, j ≠ 32 → o.2.1 j = s.1 j) ∧ o.2.2 = s.2 ∧ ∀ k, k < 32 → o.2.1 32 k = mg (s.1 32) a.toInt.toNat b.toInt.toNat k) := by
  have z0' := z0
  have l32 : (32 : Int32).toInt = 32 := by decide
  have ga := gb_of (i := a) (n := 32) a0 (by omega)
  have gb' := gb_of (i := b) (n := 32) b0 (by omega)
  unfold fX10_joins
  rw [q_gd ga, nm_eq, nm_eq, q_gd gb', nm_eq, nm_eq, n_toInt, n_toInt]
  by_cases e : s.1 32 a.toInt.toNat = s.1 32 b.toInt.toNat
  · rw [if_pos e]
    exact ok_some.mpr ⟨fun _ _ => rfl, rfl, fun k _ => (mg_id e k).symm⟩
  rw [if_neg e, nm_eq]
  refine ok_lpc (I := fun (m : Nat) (t : Int32 × gS) => m = (32 - t.1.toInt).toNat ∧ 0 ≤ t.1.toInt ∧ t.1.toInt ≤ 32 ∧ (∀ j, j ≠ 32 → t.2.1 j = s.1 j) ∧ t.2.2 = s.2 ∧ (∀ k : Nat, (k : Int) < t.1.toInt → t.2.1 32 k = mg (s.1 32) a.toInt.toNat b.toInt.toNat k) ∧ ∀ k : Nat, t.1.toInt ≤ (k : Int) → t.2.1 32 k = s.1 32 k) (fun rec m t hs hrec => ?_) K9 32 (0, s) ⟨by dsimp only; omega, by dsimp only; omega, by dsimp only; omega, fun _ _ => rfl, rfl, fun k hk => absurd hk (by dsimp only; omega), fun _ _ => rfl⟩ (by unfold K9; omega)
  obtain ⟨i, τ⟩ := t
  obtain ⟨hm, i0, i1, h1, h2, h3, h4⟩ := hs
  dsimp only at hm i0 i1 h1 h2 h3 h4 ⊢
  unfold bX10_joins_26
  refine ok_ite.mpr ⟨fun hk => ok_some.mpr ⟨h1, h2, fun k hk2 => h3 k (by have := Int32.le_iff_toInt_le.mp hk; omega)⟩, fun hk => ?_⟩
  have hlt := q_gt hk
  have ei := i_inc (a := i) (c := 60) (by omega) (by omega) (by decide)
  have gi := gb_of (i := i) (n := 32) i0 (by omega)
  rw [q_gd gi, nm_eq, n_toInt, h4 i.toInt.toNat (by omega)]
  by_cases z : s.1 32 i.toInt.toNat = s.1 32 b.toInt.toNat
  · rw [if_pos z, q_gd gi, nm_eq, nm_eq]
    refine hrec (32 - (i + 1).toInt).toNat _ (by omega) ⟨rfl, by dsimp only; omega, by dsimp only; omega, fun j hj => (gsI_row hj).trans (h1 j hj), h2, fun k hk => ?_, fun k hk => ?_⟩
    · dsimp only at hk ⊢
      rw [gsI_at]
      by_cases y : k = i.toInt.toNat
      · rw [if_pos y, y]
        exact (if_pos z).symm
      · rw [if_neg y]
        exact h3 k (by omega)
    · dsimp only at hk ⊢
      rw [gsI_at, if_neg (by omega)]
      exact h4 k (by omega)
  · rw [if_neg z, nm_eq]
    refine hrec (32 - (i + 1).toInt).toNat _ (by omega) ⟨rfl, by dsimp only; omega, by dsimp only; omega, h1, h2, fun k hk => ?_, fun k hk => h4 k (by dsimp only at hk; omega)⟩
    dsimp only at hk ⊢
    by_cases y : k = i.toInt.toNat
    · rw [h4 k (by omega), y]
      exact (if_neg z).symm
    · exact h3 k (by omega)
end P12ZD
