/-! the least cost to be home -/
def mnc (cap : Nat) (f : Nat → Nat) : Nat → Nat
  | 0 => cap
  | k + 1 => min (mnc cap f k) (f k)
theorem mnc_le (cap : Nat) (f : Nat → Nat) : ∀ n, mnc cap f n ≤ cap
  | 0 => Nat.le_refl _
  | n + 1 => Nat.le_trans (Nat.min_le_left _ _) (mnc_le cap f n)
theorem mnc_at {cap : Nat} {f : Nat → Nat} : ∀ {n j : Nat}, j < n → mnc cap f n ≤ f j
  | 0, j, h => absurd h (Nat.not_lt_zero j)
  | n + 1, j, h => by
    rw [mnc]
    rcases Nat.lt_or_ge j n with q | q
    · exact Nat.le_trans (Nat.min_le_left _ _) (mnc_at q)
    · have : j = n := by omega
      subst this
      exact Nat.min_le_right _ _
theorem mnc_ge {cap : Nat} {f : Nat → Nat} {x : Nat} : ∀ {n : Nat}, x ≤ cap → (∀ j, j < n → x ≤ f j) → x ≤ mnc cap f n
  | 0, h, _ => h
  | n + 1, h, g => by
    rw [mnc]
    exact Nat.le_min.mpr ⟨mnc_ge h (fun j hj => g j (by omega)), g n (by omega)⟩
theorem mnc_hit {cap : Nat} {f : Nat → Nat} : ∀ {n : Nat}, mnc cap f n < cap → ∃ j, j < n ∧ f j = mnc cap f n
  | 0, h => absurd h (Nat.lt_irrefl _)
  | n + 1, h => by
    rw [mnc] at h ⊢
    rcases Nat.le_total (mnc cap f n) (f n) with q | q
    · rw [Nat.min_eq_left q] at h ⊢
      obtain ⟨j, hj, e⟩ := mnc_hit h
      exact ⟨j, by omega, e⟩
    · rw [Nat.min_eq_right q]
      exact ⟨n, by omega, rfl⟩
theorem mnc_cong {cap : Nat} {f g : Nat → Nat} : ∀ {n : Nat}, (∀ j, j < n → f j = g j) → mnc cap f n = mnc cap g n
  | 0, _ => rfl
  | n + 1, h => by rw [mnc, mnc, mnc_cong (fun j hj => h j (by omega)), h n (by omega)]
/-- what is done by number j: 0 no tap, else the tap j less 1 -/
def tJ (j : Nat) : Int32 := if j = 0 then -1 else nI (j - 1)
theorem tJ_T {T j : Nat} (h : j < T + 1) : isT T (tJ j) := by
  unfold tJ
  split
  · exact Or.inl rfl
  · exact Or.inr ⟨j - 1, by omega, rfl⟩
theorem tJ_1 (j : Nat) : tJ j + 1 = nI j := by
  unfold tJ
  split
  · rename_i c; subst c; rfl
  · rename_i c
    rw [nI_1]
    congr 1
    omega
theorem tJ_s (j : Nat) : tJ (j + 1) = nI j := rfl
theorem tJ_i {j : Nat} (h : j < 100000) : (tJ j).toInt = (j : Int) - 1 := by
  unfold tJ
  split
  · rename_i c; subst c; rfl
  · rename_i c
    rw [nI_toInt (by omega)]; omega
def wJ (bt : Bool) (j : Nat) : Nat := if bt = true ∧ j = 0 then 0 else 1
theorem wJ_le (bt : Bool) (j : Nat) : wJ bt j ≤ 1 := by
  unfold wJ
  split <;> decide
def cJ (M : VT) (bt : Bool) (D : H4 → Nat) (s : H4) (j : Nat) : Nat :=
  if (nxt M (tJ j) s).2.2.2 = 2 then wJ bt j else if (nxt M (tJ j) s).2.2.2 = 1 then 9999 else wJ bt j + D (nxt M (tJ j) s)
def DD (M : VT) (T : Nat) (bt : Bool) : Nat → H4 → Nat
  | 0, _ => 9999
  | n + 1, s => mnc 9999 (cJ M bt (DD M T bt n) s) (T + 1)
theorem DD_le (M : VT) (T : Nat) (bt : Bool) : ∀ (n : Nat) (s : H4), DD M T bt n s ≤ 9999
  | 0, _ => Nat.le_refl _
  | _ + 1, _ => mnc_le _ _ _
theorem DD_fuel {M : VT} {Y T : Nat} {bt : Bool} (hY : Y ≤ 24) (h0 : M 5 0 = nI Y) (fv : FV Y T (M 5)) : ∀ (n : Nat) (s : H4), sv Y s → (Y : Int) - s.1.toInt ≤ n → DD M T bt (n + 1) s = DD M T bt n s := by
  intro n
  induction n with
  | zero =>
    intro s hs h
    have := hs.2.1.2
    omega
  | succ n ih =>
    intro s hs h
    rw [DD, DD]
    refine mnc_cong (fun j hj => ?_)
    unfold cJ
    have hr := nxt_rng (t := tJ j) hY h0 fv hs
    split
    · rfl
    · split
      · rfl
      · rename_i c1 c2
        have e0 : (nxt M (tJ j) s).2.2.2 = 0 := by
          rcases hr.1 with e | e | e
          · exact e
          · exact absurd e c2
          · exact absurd e c1
        have := hr.2.1 e0
        rw [ih _ (nxt_sv hY h0 fv hs e0) (by omega)]
theorem DD_24 {M : VT} {Y T : Nat} {bt : Bool} (hY : Y ≤ 24) (h0 : M 5 0 = nI Y) (fv : FV Y T (M 5)) {s : H4} (hs : sv Y s) : DD M T bt 24 s = mnc 9999 (cJ M bt (DD M T bt 24) s) (T + 1) := by
  rw [← DD_fuel hY h0 fv 24 s hs (by have := hs.2.1.1; omega)]
  rfl
/-- what is not out of reach costs less than the yards that are left, and 1 -/
theorem DD_bd {M : VT} {Y T : Nat} {bt : Bool} (hY : Y ≤ 24) (h0 : M 5 0 = nI Y) (fv : FV Y T (M 5)) : ∀ (n : Nat) (s : H4), sv Y s → DD M T bt n s < 9999 → (DD M T bt n s : Int) ≤ Y - s.1.toInt := by
  intro n
  induction n with
  | zero => intro s hs h; exact absurd h (Nat.lt_irrefl 9999)
  | succ n ih =>
    intro s hs h
    rw [DD] at h ⊢
    obtain ⟨j, hj, e⟩ := mnc_hit h
    rw [← e] at h ⊢
    have hr := nxt_rng (t := tJ j) hY h0 fv hs
    have hw := wJ_le bt j
    have hy := hs.2.1.2
    unfold cJ at h ⊢
    by_cases c2 : (nxt M (tJ j) s).2.2.2 = 2
    · rw [if_pos c2] at h ⊢; omega
    · rw [if_neg c2] at h ⊢
      by_cases c1 : (nxt M (tJ j) s).2.2.2 = 1
      · rw [if_pos c1] at h; exact absurd h (by decide)
      · rw [if_neg c1] at h ⊢
        have e0 : (nxt M (tJ j) s).2.2.2 = 0 := by
          rcases hr.1 with e | e | e
          · exact e
          · exact absurd e c1
          · exact absurd e c2
        have := hr.2.1 e0
        have := ih _ (nxt_sv hY h0 fv hs e0) (by omega)
        omega
theorem least_ex {P : Nat → Prop} : ∀ (n : Nat), P n → ∃ m, m ≤ n ∧ P m ∧ ∀ j, j < m → ¬ P j := by
  intro n
  induction n using Nat.strongRecOn with
  | _ n ih =>
    intro h
    by_cases c : ∃ j, j < n ∧ P j
    · obtain ⟨j, hj, hp⟩ := c
      obtain ⟨m, h1, h2, h3⟩ := ih j hj hp
      exact ⟨m, by omega, h2, h3⟩
    · exact ⟨n, Nat.le_refl _, h, fun j hj hp => c ⟨j, hj, hp⟩⟩
/-- with what is done first as the lesser part -/
def EE (M : VT) (T : Nat) (bt : Bool) (s : H4) : Nat := mnc 8000000 (fun j => if cJ M bt (DD M T bt 24) s j < 9999 then 8 * cJ M bt (DD M T bt 24) s j + j else 8000000) (T + 1)
theorem EE_le (M : VT) (T : Nat) (bt : Bool) (s : H4) : EE M T bt s ≤ 8000000 := mnc_le _ _ _
theorem EE_at {M : VT} {T : Nat} {bt : Bool} {s : H4} {j : Nat} (hj : j < T + 1) (h : cJ M bt (DD M T bt 24) s j < 9999) : EE M T bt s ≤ 8 * cJ M bt (DD M T bt 24) s j + j := by
  have := mnc_at (cap := 8000000) (f := fun j => if cJ M bt (DD M T bt 24) s j < 9999 then 8 * cJ M bt (DD M T bt 24) s j + j else 8000000) hj
  rw [EE]
  rw [if_pos h] at this
  exact this
theorem EE_hit {M : VT} {T : Nat} {bt : Bool} {s : H4} (h : EE M T bt s < 8000000) : ∃ j, j < T + 1 ∧ cJ M bt (DD M T bt 24) s j < 9999 ∧ 8 * cJ M bt (DD M T bt 24) s j + j = EE M T bt s := by
  obtain ⟨j, hj, e⟩ := mnc_hit h
  have e' : (if cJ M bt (DD M T bt 24) s j < 9999 then 8 * cJ M bt (DD M T bt 24) s j + j else 8000000) = EE M T bt s := e
  by_cases c : cJ M bt (DD M T bt 24) s j < 9999
  · rw [if_pos c] at e'
    exact ⟨j, hj, c, e'⟩
  · rw [if_neg c] at e'
    omega
theorem EE_inf {M : VT} {Y T : Nat} {bt : Bool} {s : H4} (hY : Y ≤ 24) (h0 : M 5 0 = nI Y) (fv : FV Y T (M 5)) (hs : sv Y s) (h : ¬ DD M T bt 24 s < 9999) : EE M T bt s = 8000000 := by
  apply Classical.byContradiction
  intro c
  have := EE_le M T bt s
  obtain ⟨j, hj, c1, -⟩ := EE_hit (bt := bt) (M := M) (T := T) (s := s) (by omega)
  rw [DD_24 hY h0 fv hs] at h
  have := mnc_at (cap := 9999) (f := cJ M bt (DD M T bt 24) s) hj
  omega
theorem EE_val {M : VT} {Y T : Nat} {bt : Bool} {s : H4} (hY : Y ≤ 24) (hT : T ≤ 5) (h0 : M 5 0 = nI Y) (fv : FV Y T (M 5)) (hs : sv Y s) (h : DD M T bt 24 s < 9999) : ∃ j, j < T + 1 ∧ cJ M bt (DD M T bt 24) s j = DD M T bt 24 s ∧ (∀ i, i < j → ¬ cJ M bt (DD M T bt 24) s i = DD M T bt 24 s) ∧ EE M T bt s = 8 * DD M T bt 24 s + j := by
  have e24 := DD_24 (bt := bt) (T := T) hY h0 fv hs
  have h' := h
  rw [e24] at h'
  obtain ⟨j0, hj0, e0⟩ := mnc_hit h'
  rw [← e24] at e0
  obtain ⟨j, g1, g2, g3⟩ := least_ex (P := fun i => cJ M bt (DD M T bt 24) s i = DD M T bt 24 s) j0 e0
  refine ⟨j, by omega, g2, g3, ?_⟩
  have up := EE_at (M := M) (T := T) (bt := bt) (s := s) (j := j) (by omega) (by rw [g2]; exact h)
  rw [g2] at up
  refine Nat.le_antisymm up (mnc_ge (by omega) (fun i hi => ?_))
  have lo : DD M T bt 24 s ≤ cJ M bt (DD M T bt 24) s i := by
    have := mnc_at (cap := 9999) (f := cJ M bt (DD M T bt 24) s) hi
    rw [← e24] at this
    exact this
  show _ ≤ if cJ M bt (DD M T bt 24) s i < 9999 then 8 * cJ M bt (DD M T bt 24) s i + i else 8000000
  split
  · rcases Nat.lt_or_ge i j with q | q
    · have := g3 i q
      omega
    · omega
  · omega
