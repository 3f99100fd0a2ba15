/-! the worlds as the constructors leave them, by number -/
def adX (h0 q1 q2 q9 : Nat) (bl br bt ba hj bp bk : Nat → Nat) (rj ij : Nat → Nat → Nat) (k : Nat) : Nat := if k < 26 then ([h0, q1, q2, bt 0, bt 1, ba 0, ba 1, ba 2, ba 3, ba 4, bp 0, bp 1, bp 2, bk 0, bk 1, q9, bl 0, bl 1, bl 2, bl 3, bl 4, br 0, br 1, br 2, br 3, br 4] : List Nat).getD k 0 else if k < 36 then ij ((k - 26) / 5) ((k - 26) % 5) else if k < 52 then rj ((k - 36) / 2) ((k - 36) % 2) else hj (k - 52)
def V0X : VT := fun a b => if a = 10 ∧ b = 3 then 8000000 else if 36 ≤ a ∧ a < 52 ∧ a % 2 = 0 ∧ b = 1 then -1 else 0
def pX (k : Nat) : Nat := ([0, 1, 2, 13, 14, 15, 16, 17, 18, 19, 44, 45, 46, 47, 48, 49, 3, 4, 5, 6, 7, 8, 9, 10, 11, 12, 66, 67, 68, 69, 70, 71, 72, 73, 74, 75, 50, 51, 52, 53, 54, 55, 56, 57, 58, 59, 60, 61, 62, 63, 64, 65, 20, 21, 22, 23, 24, 25, 26, 27, 28, 29, 30, 31, 32, 33, 34, 35, 36, 37, 38, 39, 40, 41, 42, 43] : List Nat).getD k 0
theorem pX_inj : ∀ i, i < 76 → ∀ j, j < 76 → pX i = pX j → i = j := by decide +kernel
section FIN
variable {g : GP} {h0 q1 q2 q9 : Nat} {bl br bt ba hj bp bk : Nat → Nat} {rj ij : Nat → Nat → Nat}
theorem adX_h (h : Nat) : adX h0 q1 q2 q9 bl br bt ba hj bp bk rj ij (52 + h) = hj h := by
  unfold adX
  rw [if_neg (by omega), if_neg (by omega), if_neg (by omega), show 52 + h - 52 = h by omega]
theorem adX_r {h : Nat} (hh : h < 8) : adX h0 q1 q2 q9 bl br bt ba hj bp bk rj ij (36 + 2 * h) = rj h 0 := by
  unfold adX
  rw [if_neg (by omega), if_neg (by omega), if_pos (by omega), show (36 + 2 * h - 36) / 2 = h by omega, show (36 + 2 * h - 36) % 2 = 0 by omega]
theorem adX_i {h : Nat} (hh : h < 2) : adX h0 q1 q2 q9 bl br bt ba hj bp bk rj ij (26 + 5 * h) = ij h 0 := by
  unfold adX
  rw [if_neg (by omega), if_pos (by omega), show (26 + 5 * h - 26) / 5 = h by omega, show (26 + 5 * h - 26) % 5 = 0 by omega]
set_option maxRecDepth 20000 in
theorem X_at : ∀ k, k < 76 → ∃ en : va_E, (L7 g h0 q1 q2 q9 bl br bt ba hj bp bk rj ij)[pX k]? = some (adX h0 q1 q2 q9 bl br bt ba hj bp bk rj ij k, en) ∧ ∀ H : Heap, va_at g.1 vwCl (adX h0 q1 q2 q9 bl br bt ba hj bp bk rj ij k, en) H → va_at g.1 vwCl (adX h0 q1 q2 q9 bl br bt ba hj bp bk rj ij k, cX g (adX h0 q1 q2 q9 bl br bt ba hj bp bk rj ij) V0X k) H
  | 0, _ => ⟨_, rfl, fun _ h => h⟩
  | 1, _ => ⟨rA g.2.1.2.2.2.2 8 (fun h => some (rj h 0)), rfl, fun _ h => rA_at (f' := fun h => some (adX h0 q1 q2 q9 bl br bt ba hj bp bk rj ij (36 + 2 * h))) (fun j hj0 => by rw [adX_r hj0]) h⟩
  | 2, _ => ⟨rA g.2.1.2.2.2.1 2 (fun h => some (ij h 0)), rfl, fun _ h => rA_at (f' := fun h => some (adX h0 q1 q2 q9 bl br bt ba hj bp bk rj ij (26 + 5 * h))) (fun j hj0 => by rw [adX_i hj0]) h⟩
  | 3, _ => ⟨_, rfl, fun _ h => h⟩
  | 4, _ => ⟨_, rfl, fun _ h => h⟩
  | 5, _ => ⟨_, rfl, fun _ h => h⟩
  | 6, _ => ⟨rA g.2.1.2.2.1 24 (fun h => some (hj h)), rfl, fun _ h => rA_at (f' := fun h => some (adX h0 q1 q2 q9 bl br bt ba hj bp bk rj ij (52 + h))) (fun j _ => by rw [adX_h]) h⟩
  | 7, _ => ⟨_, rfl, fun _ h => h⟩
  | 8, _ => ⟨_, rfl, fun _ h => h⟩
  | 9, _ => ⟨_, rfl, fun _ h => h⟩
  | 10, _ => ⟨_, rfl, fun _ h => h⟩
  | 11, _ => ⟨_, rfl, fun _ h => h⟩
  | 12, _ => ⟨_, rfl, fun _ h => h⟩
  | 13, _ => ⟨_, rfl, fun _ h => h⟩
  | 14, _ => ⟨_, rfl, fun _ h => h⟩
  | 15, _ => ⟨_, rfl, fun _ h => h⟩
  | 16, _ => ⟨_, rfl, fun _ h => h⟩
  | 17, _ => ⟨_, rfl, fun _ h => h⟩
  | 18, _ => ⟨_, rfl, fun _ h => h⟩
  | 19, _ => ⟨_, rfl, fun _ h => h⟩
  | 20, _ => ⟨_, rfl, fun _ h => h⟩
  | 21, _ => ⟨_, rfl, fun _ h => h⟩
  | 22, _ => ⟨_, rfl, fun _ h => h⟩
  | 23, _ => ⟨_, rfl, fun _ h => h⟩
  | 24, _ => ⟨_, rfl, fun _ h => h⟩
  | 25, _ => ⟨_, rfl, fun _ h => h⟩
  | 26, _ => ⟨_, rfl, fun _ h => h⟩
  | 27, _ => ⟨_, rfl, fun _ h => h⟩
  | 28, _ => ⟨_, rfl, fun _ h => h⟩
  | 29, _ => ⟨_, rfl, fun _ h => h⟩
  | 30, _ => ⟨_, rfl, fun _ h => h⟩
  | 31, _ => ⟨_, rfl, fun _ h => h⟩
  | 32, _ => ⟨_, rfl, fun _ h => h⟩
  | 33, _ => ⟨_, rfl, fun _ h => h⟩
  | 34, _ => ⟨_, rfl, fun _ h => h⟩
  | 35, _ => ⟨_, rfl, fun _ h => h⟩
  | 36, _ => ⟨_, rfl, fun _ h => h⟩
  | 37, _ => ⟨_, rfl, fun _ h => h⟩
  | 38, _ => ⟨_, rfl, fun _ h => h⟩
  | 39, _ => ⟨_, rfl, fun _ h => h⟩
  | 40, _ => ⟨_, rfl, fun _ h => h⟩
  | 41, _ => ⟨_, rfl, fun _ h => h⟩
  | 42, _ => ⟨_, rfl, fun _ h => h⟩
  | 43, _ => ⟨_, rfl, fun _ h => h⟩
  | 44, _ => ⟨_, rfl, fun _ h => h⟩
  | 45, _ => ⟨_, rfl, fun _ h => h⟩
  | 46, _ => ⟨_, rfl, fun _ h => h⟩
  | 47, _ => ⟨_, rfl, fun _ h => h⟩
  | 48, _ => ⟨_, rfl, fun _ h => h⟩
  | 49, _ => ⟨_, rfl, fun _ h => h⟩
  | 50, _ => ⟨_, rfl, fun _ h => h⟩
  | 51, _ => ⟨_, rfl, fun _ h => h⟩
  | 52, _ => ⟨_, rfl, fun _ h => h⟩
  | 53, _ => ⟨_, rfl, fun _ h => h⟩
  | 54, _ => ⟨_, rfl, fun _ h => h⟩
  | 55, _ => ⟨_, rfl, fun _ h => h⟩
  | 56, _ => ⟨_, rfl, fun _ h => h⟩
  | 57, _ => ⟨_, rfl, fun _ h => h⟩
  | 58, _ => ⟨_, rfl, fun _ h => h⟩
  | 59, _ => ⟨_, rfl, fun _ h => h⟩
  | 60, _ => ⟨_, rfl, fun _ h => h⟩
  | 61, _ => ⟨_, rfl, fun _ h => h⟩
  | 62, _ => ⟨_, rfl, fun _ h => h⟩
  | 63, _ => ⟨_, rfl, fun _ h => h⟩
  | 64, _ => ⟨_, rfl, fun _ h => h⟩
  | 65, _ => ⟨_, rfl, fun _ h => h⟩
  | 66, _ => ⟨_, rfl, fun _ h => h⟩
  | 67, _ => ⟨_, rfl, fun _ h => h⟩
  | 68, _ => ⟨_, rfl, fun _ h => h⟩
  | 69, _ => ⟨_, rfl, fun _ h => h⟩
  | 70, _ => ⟨_, rfl, fun _ h => h⟩
  | 71, _ => ⟨_, rfl, fun _ h => h⟩
  | 72, _ => ⟨_, rfl, fun _ h => h⟩
  | 73, _ => ⟨_, rfl, fun _ h => h⟩
  | 74, _ => ⟨_, rfl, fun _ h => h⟩
  | 75, _ => ⟨_, rfl, fun _ h => h⟩
  | k + 76, h => absurd h (by omega)
theorem X_P {H : Heap} (hP : va_P g.1 vwCl (L7 g h0 q1 q2 q9 bl br bt ba hj bp bk rj ij) H) : va_P g.1 vwCl (wW 76 (cX g (adX h0 q1 q2 q9 bl br bt ba hj bp bk rj ij)) (adX h0 q1 q2 q9 bl br bt ba hj bp bk rj ij) V0X) H := fun k q hk => by
  obtain ⟨h1, rfl⟩ := wW_at hk
  obtain ⟨en, h2, h3⟩ := X_at (g := g) (h0 := h0) (q1 := q1) (q2 := q2) (q9 := q9) (bl := bl) (br := br) (bt := bt) (ba := ba) (hj := hj) (bp := bp) (bk := bk) (rj := rj) (ij := ij) k h1
  exact h3 H (hP _ _ h2)
theorem X_D {A : Nat → Prop} (hD : va_D A (L7 g h0 q1 q2 q9 bl br bt ba hj bp bk rj ij)) : va_D A (wW 76 (cX g (adX h0 q1 q2 q9 bl br bt ba hj bp bk rj ij)) (adX h0 q1 q2 q9 bl br bt ba hj bp bk rj ij) V0X) := by
  have xa := @X_at g h0 q1 q2 q9 bl br bt ba hj bp bk rj ij
  refine ⟨fun i j p q hi hjj he => ?_, fun k q hk => ?_⟩
  · obtain ⟨h1, rfl⟩ := wW_at hi
    obtain ⟨h2, rfl⟩ := wW_at hjj
    obtain ⟨e1, a1, -⟩ := xa i h1
    obtain ⟨e2, a2, -⟩ := xa j h2
    exact pX_inj i h1 j h2 (hD.1 _ _ _ _ a1 a2 he)
  · obtain ⟨h1, rfl⟩ := wW_at hk
    obtain ⟨e1, a1, -⟩ := xa k h1
    have h5 := hD.2 _ _ a1
    exact h5
end FIN
def V0M (f : Nat → Int32) : VT := fun a j => if a = 1 then f j else 0
theorem M_at {g : GP} {b : Nat → Nat} {f : Nat → Int32} : ∀ k, k < 13 → ∃ en : va_E, (L8 g b f)[k]? = some (b k, en) ∧ ∀ H : Heap, va_at g.1 vwCl (b k, en) H → va_at g.1 vwCl (b k, cM g b (V0M f) k) H
  | 0, _ => ⟨_, rfl, fun _ h => h⟩
  | 1, _ => ⟨_, rfl, fun _ h => h⟩
  | 2, _ => ⟨_, rfl, fun _ h => h⟩
  | 3, _ => ⟨_, rfl, fun _ h => h⟩
  | 4, _ => ⟨_, rfl, fun _ h => h⟩
  | 5, _ => ⟨_, rfl, fun _ h => h⟩
  | 6, _ => ⟨_, rfl, fun _ h => h⟩
  | 7, _ => ⟨_, rfl, fun _ h => h⟩
  | 8, _ => ⟨_, rfl, fun _ h => h⟩
  | 9, _ => ⟨_, rfl, fun _ h => h⟩
  | 10, _ => ⟨_, rfl, fun _ h => h⟩
  | 11, _ => ⟨_, rfl, fun _ h => h⟩
  | 12, _ => ⟨_, rfl, fun _ h => h⟩
  | k + 13, h => absurd h (by omega)
theorem M_P {g : GP} {b : Nat → Nat} {f : Nat → Int32} {H : Heap} (hP : va_P g.1 vwCl (L8 g b f) H) : va_P g.1 vwCl (wW 13 (cM g b) b (V0M f)) H := fun k q hk => by
  obtain ⟨h1, rfl⟩ := wW_at hk
  obtain ⟨en, h2, h3⟩ := M_at (g := g) (b := b) (f := f) k h1
  exact h3 H (hP _ _ h2)
theorem M_D {g : GP} {b : Nat → Nat} {f : Nat → Int32} {A : Nat → Prop} (hD : va_D A (L8 g b f)) : va_D A (wW 13 (cM g b) b (V0M f)) := by
  have xa := @M_at g b f
  refine ⟨fun i j p q hi hjj he => ?_, fun k q hk => ?_⟩
  · obtain ⟨h1, rfl⟩ := wW_at hi
    obtain ⟨h2, rfl⟩ := wW_at hjj
    obtain ⟨e1, a1, -⟩ := xa i h1
    obtain ⟨e2, a2, -⟩ := xa j h2
    exact hD.1 _ _ _ _ a1 a2 he
  · obtain ⟨h1, rfl⟩ := wW_at hk
    obtain ⟨e1, a1, -⟩ := xa k h1
    have h5 := hD.2 _ _ a1
    exact h5
theorem V0X_0 {a b : Nat} (h : a < 36) (h10 : a ≠ 10) : V0X a b = 0 := by
  unfold V0X
  rw [if_neg (by omega), if_neg (by omega)]
theorem V0X_r {r : Nat} (h : r < 8) : V0X (36 + 2 * r) 1 = -1 := by
  unfold V0X
  rw [if_neg (by omega), if_pos (by omega)]
theorem V0M_0 {f : Nat → Int32} {a j : Nat} (h : a ≠ 1) : V0M f a j = 0 := if_neg h
theorem V0M_1 {f : Nat → Int32} {j : Nat} : V0M f 1 j = f j := if_pos rfl
theorem LR_0 {f : Nat → Int32} {k : Nat} {ff hh : Nat → Int32} (hk : k + 5 ≤ 36) (hk2 : 11 ≤ k) (e1 : ∀ i, ff i = 0) (e2 : ∀ i, hh i = 0) : LR V0X k ff hh 0 0 := by
  unfold LR
  rw [V0X_0 (by omega) (by omega), V0X_0 (by omega) (by omega), V0X_0 (by omega) (by omega), V0X_0 (by omega) (by omega), V0X_0 (by omega) (by omega), e1, e1, e1, e1, e2]
  exact ⟨⟨by decide, by decide, fun _ => rfl⟩, ⟨rfl, rfl⟩, ⟨rfl, rfl⟩, rfl, rfl, rfl, fun i hi => absurd hi (Nat.not_lt_zero i), fun i hi => absurd hi (Nat.not_lt_zero i), fun i _ => by rw [V0X_0 (by omega) (by omega), e2], fun z => absurd z (Nat.lt_irrefl 0)⟩
/-- a new object on both sides -/
theorem RR_0 {f : Nat → Int32} (hf : ∀ j, j < 8 → f j = -1) : RR V0X (V0M f) := by
  refine ⟨rfl, 0, 0, fun r hr => ?_, ⟨0, by decide, rfl, rfl, fun i hi => absurd hi (Nat.not_lt_zero i)⟩, ⟨LR_0 (f := f) (by decide) (by decide) (fun _ => V0M_0 (by decide)) (fun _ => V0M_0 (by decide)), rfl⟩, ⟨0, 0, by decide, by decide, rfl, rfl, rfl, fun _ => rfl, fun j hj => absurd hj (Nat.not_lt_zero j)⟩, fun k hk => ⟨0, 0, LR_0 (f := f) (by omega) (by omega) (fun _ => V0M_0 (by decide)) (fun _ => V0M_0 (by decide)), V0M_0 (by decide), fun z => absurd z (Nat.lt_irrefl 0)⟩, ⟨0, by decide, rfl, rfl, fun i hi => absurd hi (Nat.not_lt_zero i)⟩, rfl⟩
  rw [V0X_r hr, V0M_1, hf r hr]
  exact ⟨rfl, Or.inl rfl, fun z => absurd rfl z⟩
