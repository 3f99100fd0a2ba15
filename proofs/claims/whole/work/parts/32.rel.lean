/-! what the class's world and the reference's have in common -/
theorem isOut_in {V : VT} {a b c : Int32} {K : Int32 → VT → Prop} (h1 : ¬ a < b) (h2 : a ≤ c) (h : K 0 V) : wp_X7_isOut V a b c K := isOut_c (by rw [if_neg h1, if_pos h2]; exact h)
theorem isOut_out {V : VT} {a b c : Int32} {K : Int32 → VT → Prop} (h1 : a < b ∨ ¬ a ≤ c) (h : K 1 V) : wp_X7_isOut V a b c K := isOut_c (by
  by_cases q : a < b
  · rw [if_pos q]; exact h
  · rw [if_neg q, if_neg (h1.resolve_left q)]; exact h)
theorem w_lt (a b : Int32) : a.toInt64 < b.toInt64 ↔ a < b := by rw [Int64.lt_iff_toInt_lt, Int32.toInt_toInt64, Int32.toInt_toInt64, Int32.lt_iff_toInt_lt]
theorem lg_lt0 (x y : Int64) : lg_cmp x y < 0 ↔ x < y := by
  unfold lg_cmp
  have h1 := @Int64.lt_iff_toInt_lt x y
  have h2 := @Int64.lt_iff_toInt_lt y x
  have h3 := @Int64.toInt_inj x y
  split
  · rename_i q
    exact ⟨fun c => absurd c (by decide), fun c => by exfalso; have := h1.mp c; have := h2.mp q; omega⟩
  · rename_i q
    split
    · rename_i q2; subst q2
      exact ⟨fun c => absurd c (by decide), fun c => absurd c q⟩
    · rename_i q2
      refine ⟨fun _ => h1.mpr ?_, fun _ => by decide⟩
      have e1 : ¬ y.toInt < x.toInt := fun c => q (h2.mpr c)
      have e2 : ¬ x.toInt = y.toInt := fun c => q2 (h3.mp c)
      omega
theorem lg_gt0 (x y : Int64) : 0 < lg_cmp x y ↔ y < x := by
  unfold lg_cmp
  split
  · rename_i q
    exact ⟨fun _ => q, fun _ => by decide⟩
  · rename_i q
    split
    · exact ⟨fun c => absurd c (by decide), fun c => absurd c q⟩
    · exact ⟨fun c => absurd c (by decide), fun c => absurd c q⟩
theorem m_in {V : VT} {x lo hi : Int32} {L H : Int64} {K : Int32 → VT → Prop} (hL : L = lo.toInt64) (hH : H = hi.toInt64) (h : K (if x < lo then 0 else if x ≤ hi then 1 else 0) V) : wp_X8_in V x.toInt64 L H K := by
  subst hL; subst hH
  unfold wp_X8_in
  rw [lg_lt0, lg_gt0, w_lt, w_lt]
  refine ⟨fun c => ?_, fun c => ⟨fun d => ?_, fun d => ?_⟩⟩
  · rw [if_pos c] at h; exact h
  · rw [if_neg c, if_neg (Int32.not_le.mpr d)] at h; exact h
  · rw [if_neg c, if_pos (Int32.not_lt.mp d)] at h; exact h
theorem in_in {V : VT} {x lo hi : Int32} {L H : Int64} {K : Int32 → VT → Prop} (hL : L = lo.toInt64) (hH : H = hi.toInt64) (h1 : ¬ x < lo) (h2 : x ≤ hi) (h : K 1 V) : wp_X8_in V x.toInt64 L H K := m_in hL hH (by rw [if_neg h1, if_pos h2]; exact h)
theorem in_out {V : VT} {x lo hi : Int32} {L H : Int64} {K : Int32 → VT → Prop} (hL : L = lo.toInt64) (hH : H = hi.toInt64) (h1 : x < lo ∨ ¬ x ≤ hi) (h : K 0 V) : wp_X8_in V x.toInt64 L H K := m_in hL hH (by
  by_cases q : x < lo
  · rw [if_pos q]; exact h
  · rw [if_neg q, if_neg (h1.resolve_left q)]; exact h)
theorem isRow_in {V : VT} {x : Int32} {K : Int32 → VT → Prop} (h1 : ¬ x < 0) (h2 : x ≤ 7) (h : K 1 V) : wp_X8_isRow V x K := in_in (lo := 0) (hi := 7) rfl rfl h1 h2 ⟨Or.inr rfl, h⟩
theorem isRow_out {V : VT} {x : Int32} {K : Int32 → VT → Prop} (h1 : x < 0 ∨ ¬ x ≤ 7) (h : K 0 V) : wp_X8_isRow V x K := in_out (lo := 0) (hi := 7) rfl rfl h1 ⟨Or.inl rfl, h⟩
theorem in_or (x lo hi : Int32) : (¬ x < lo ∧ x ≤ hi) ∨ (x < lo ∨ ¬ x ≤ hi) := by
  by_cases h1 : x < lo
  · exact Or.inr (Or.inl h1)
  · by_cases h2 : x ≤ hi
    · exact Or.inl ⟨h1, h2⟩
    · exact Or.inr (Or.inr h2)
/-- a number from 0 on, as a Nat -/
theorem nI_in_of {x hi : Int32} {n : Nat} (hn : hi.toInt = n) (h1 : ¬ x < 0) (h2 : x ≤ hi) : ∃ j : Nat, j ≤ n ∧ x = nI j := nI_of2 hn h1 h2
theorem nI_c {n : Nat} (h : n < 2 ^ 31) : (nI n).toNatClampNeg = n := nI_clamp h
-- scratch, and what is not
def Xs (X X' : VT) : Prop := (∀ a, a ∉ [3, 10, 11, 12, 15, 21, 22, 23, 24, 25] → X' a = X a) ∧ X' 3 1 = X 3 1
def Ms (M M' : VT) : Prop := (∀ a, a ∉ [0, 4, 6, 9, 10] → M' a = M a) ∧ ∀ b, b ∈ [4, 8, 12, 15, 16, 17, 18, 19, 20, 22, 32] → M' 0 b = M 0 b
def HV (Y : Nat) (h : Nat → Int32) : Prop := (h 3 = 0 ∨ h 3 = 1 ∨ h 3 = 2) ∧ (h 3 = 0 → 0 ≤ (h 0).toInt ∧ (h 0).toInt < Y ∧ 1 ≤ (h 1).toInt ∧ (h 1).toInt ≤ 9 ∧ -5 ≤ (h 2).toInt ∧ (h 2).toInt ≤ 5) ∧ 0 ≤ (h 4).toInt ∧ (h 4).toInt ≤ 999 ∧ 0 ≤ (h 0).toInt ∧ (h 0).toInt ≤ 24
def FV (Y T : Nat) (f : Nat → Int32) : Prop := 1 ≤ (f 2).toInt ∧ (f 2).toInt ≤ 5 ∧ 0 ≤ (f 3).toInt ∧ (f 3).toInt ≤ 3 ∧ (∀ i, i < Y → 0 ≤ (f (4 + i)).toInt ∧ (f (4 + i)).toInt ≤ 5) ∧ ∀ i, i < T → (1 ≤ (f (28 + 2 * i)).toInt ∧ (f (28 + 2 * i)).toInt ≤ 5) ∧ 1 ≤ (f (29 + 2 * i)).toInt ∧ (f (29 + 2 * i)).toInt ≤ 5
def LR (X : VT) (k : Nat) (f h : Nat → Int32) (Y T : Nat) : Prop :=
  (Y ≤ 24 ∧ T ≤ 5 ∧ (Y = 0 → T = 0)) ∧ (X k 4 = nI Y ∧ f 0 = nI Y) ∧ (X k 5 = nI T ∧ f 1 = nI T) ∧ X k 6 = f 2 ∧ X k 7 = f 3 ∧ X k 8 = h 4 ∧ (∀ i, i < Y → X (k + 1) i = f (4 + i)) ∧ (∀ i, i < T → X (k + 2) i = f (28 + 2 * i) ∧ X (k + 3) i = f (29 + 2 * i)) ∧ (∀ i, i < 4 → X (k + 4) i = h i) ∧ (0 < Y → FV Y T f ∧ HV Y h)
def Rrow (X M : VT) : Prop := ∀ r, r < 8 → X (36 + 2 * r) 1 = M 1 r ∧ (M 1 r = -1 ∨ M 1 r = 0 ∨ M 1 r = 1 ∨ M 1 r = 2) ∧ (M 1 r ≠ -1 → X (36 + 2 * r) 2 = M 2 r ∧ (∃ n : Nat, n ≤ 40 ∧ M 2 r = nI n) ∧ ∀ i, i < 40 → X (37 + 2 * r) i = M 3 (40 * r + i))
def Rtape (X M : VT) : Prop := ∃ t : Nat, t ≤ 100 ∧ X 3 1 = nI t ∧ M 0 8 = nI t ∧ ∀ i, i < t → X 4 i = M 7 i
def Rlane (X M : VT) (Y T : Nat) : Prop := LR X 16 (M 5) (fun i => M 0 (16 + i)) Y T ∧ M 0 15 = if 0 < Y then 1 else 0
def actP (nx c j : Nat) : Nat := (nx + 24 - c + j) % 24
def gAft (M : VT) (c j i : Nat) : Int32 := if j < c then M 8 (29 * j + 5 + i) else M 5 (4 + i)
def Ract1 (X M : VT) (Y nx c j : Nat) : Prop :=
  (∀ i, i < 4 → X (52 + actP nx c j) i = M 8 (29 * j + i)) ∧ X 7 (actP nx c j) = M 8 (29 * j + 4) ∧ HV Y (fun i => M 8 (29 * j + i)) ∧ (∃ y : Nat, y < Y ∧ X 8 (actP nx c j) = nI y ∧ ∀ i, i < Y → (M 8 (29 * j + 5 + i) = if i = y then X 9 (actP nx c j) else gAft M c (j + 1) i)) ∧ ∀ i, i < Y → 0 ≤ (M 8 (29 * j + 5 + i)).toInt ∧ (M 8 (29 * j + 5 + i)).toInt ≤ 5
def Ract (X M : VT) (Y : Nat) : Prop := ∃ nx c : Nat, c ≤ 24 ∧ nx < 24 ∧ X 5 4 = nI nx ∧ X 5 5 = nI c ∧ M 0 22 = nI c ∧ (Y = 0 → c = 0) ∧ ∀ j, j < c → Ract1 X M Y nx c j
def Rimg (X M : VT) : Prop := ∀ k, k < 2 → ∃ Y T : Nat, LR X (26 + 5 * k) (fun i => M 11 (44 * k + 6 + i)) (fun i => M 11 (44 * k + 1 + i)) Y T ∧ (M 11 (44 * k) = if 0 < Y then 1 else 0) ∧ (0 < Y → M 0 15 = 1)
def Rask (X M : VT) : Prop := ∃ b : Nat, b ≤ 16 ∧ X 13 1 = nI b ∧ M 0 32 = nI b ∧ ∀ i, i < b → X 14 i = M 12 i
def R0 (X M : VT) (Y T : Nat) : Prop := Rrow X M ∧ Rtape X M ∧ Rlane X M Y T ∧ Ract X M Y ∧ Rimg X M ∧ Rask X M ∧ X 0 9 = M 0 12
def RR (X M : VT) : Prop := X 0 10 = M 0 4 ∧ ∃ Y T : Nat, R0 X M Y T
theorem LR.cg {X X' : VT} {k : Nat} {f f' h h' : Nat → Int32} {Y T : Nat} (H : LR X k f h Y T) (h0 : X' k = X k) (h1 : X' (k + 1) = X (k + 1)) (h2 : X' (k + 2) = X (k + 2)) (h3 : X' (k + 3) = X (k + 3)) (h4 : X' (k + 4) = X (k + 4)) (hf : f' = f) (hh : ∀ i, i < 5 → h' i = h i) : LR X' k f' h' Y T := by
  subst hf
  obtain ⟨a, b, c, d, e, g, i1, i2, i3, i4⟩ := H
  rw [LR, h0, h1, h2, h3, h4, hh 4 (by decide)]
  refine ⟨a, b, c, d, e, g, i1, i2, fun i hi => (i3 i hi).trans (hh i (by omega)).symm, fun q => ⟨(i4 q).1, ?_⟩⟩
  obtain ⟨z1, z2, z3, z4⟩ := (i4 q).2
  rw [HV, hh 0 (by decide), hh 1 (by decide), hh 2 (by decide), hh 3 (by decide), hh 4 (by decide)]
  exact ⟨z1, z2, z3, z4⟩
theorem Rrow.cg {X X' M M' : VT} (H : Rrow X M) (h : ∀ a, 36 ≤ a → a < 52 → X' a = X a) (h1 : M' 1 = M 1) (h2 : M' 2 = M 2) (h3 : M' 3 = M 3) : Rrow X' M' := by
  intro r hr
  rw [h _ (by omega) (by omega), h (37 + 2 * r) (by omega) (by omega), h1, h2, h3]
  exact H r hr
theorem Rtape.cg {X X' M M' : VT} (H : Rtape X M) (h : X' 3 1 = X 3 1) (h4 : X' 4 = X 4) (h8 : M' 0 8 = M 0 8) (h7 : M' 7 = M 7) : Rtape X' M' := by
  rw [Rtape, h, h4, h8, h7]; exact H
theorem Rlane.cg {X X' M M' : VT} {Y T : Nat} (H : Rlane X M Y T) (h : ∀ a, 16 ≤ a → a < 21 → X' a = X a) (h5 : M' 5 = M 5) (h0 : ∀ b, 15 ≤ b → b ≤ 20 → M' 0 b = M 0 b) : Rlane X' M' Y T :=
  ⟨H.1.cg (h _ (by decide) (by decide)) (h _ (by decide) (by decide)) (h _ (by decide) (by decide)) (h _ (by decide) (by decide)) (h _ (by decide) (by decide)) h5 (fun i hi => h0 _ (by omega) (by omega)), (h0 15 (by decide) (by decide)).trans H.2⟩
theorem Ract.cg {X X' M M' : VT} {Y : Nat} (H : Ract X M Y) (h5 : X' 5 = X 5) (h7 : X' 7 = X 7) (h8 : X' 8 = X 8) (h9 : X' 9 = X 9) (h52 : ∀ a, 52 ≤ a → a < 76 → X' a = X a) (m8 : M' 8 = M 8) (m5 : M' 5 = M 5) (m0 : M' 0 22 = M 0 22) : Ract X' M' Y := by
  obtain ⟨nx, c, a1, a2, a3, a4, a5, a7, a6⟩ := H
  refine ⟨nx, c, a1, a2, by rw [h5]; exact a3, by rw [h5]; exact a4, m0.trans a5, a7, fun j hj => ?_⟩
  have hp : actP nx c j < 24 := Nat.mod_lt _ (by decide)
  have := a6 j hj
  rw [Ract1, h52 _ (by omega) (by omega), h7, h8, h9, m8]
  unfold gAft
  rw [m8, m5]
  exact this
theorem Rimg.cg {X X' M M' : VT} (H : Rimg X M) (h : ∀ a, 26 ≤ a → a < 36 → X' a = X a) (m : M' 11 = M 11) (m0 : M' 0 15 = M 0 15) : Rimg X' M' := by
  intro k hk
  obtain ⟨Y, T, H1, H2⟩ := H k hk
  refine ⟨Y, T, H1.cg (h _ (by omega) (by omega)) (h _ (by omega) (by omega)) (h _ (by omega) (by omega)) (h _ (by omega) (by omega)) (h _ (by omega) (by omega)) (by rw [m]) (fun i _ => by rw [m]), by rw [m]; exact H2.1, by rw [m0]; exact H2.2⟩
theorem Rask.cg {X X' M M' : VT} (H : Rask X M) (h : X' 13 1 = X 13 1) (h4 : X' 14 = X 14) (m : M' 0 32 = M 0 32) (m2 : M' 12 = M 12) : Rask X' M' := by
  rw [Rask, h, h4, m, m2]; exact H
theorem Xs.rf {X : VT} : Xs X X := ⟨fun _ _ => rfl, rfl⟩
theorem Ms.rf {X : VT} : Ms X X := ⟨fun _ _ => rfl, fun _ _ => rfl⟩
theorem Xs.tr {A B C : VT} (h : Xs A B) (h2 : Xs B C) : Xs A C := ⟨fun a ha => (h2.1 a ha).trans (h.1 a ha), h2.2.trans h.2⟩
theorem Ms.tr {A B C : VT} (h : Ms A B) (h2 : Ms B C) : Ms A C := ⟨fun a ha => (h2.1 a ha).trans (h.1 a ha), fun b hb => (h2.2 b hb).trans (h.2 b hb)⟩
theorem R0.cg {X X' M M' : VT} {Y T : Nat} (H : R0 X M Y T) (hx : Xs X X') (hm : Ms M M') : R0 X' M' Y T := by
  obtain ⟨h1, h2, h3, h4, h5, h6, h7⟩ := H
  have hx1 : ∀ a, a ∉ [3, 10, 11, 12, 15, 21, 22, 23, 24, 25] → X' a = X a := hx.1
  have big : ∀ a : Nat, 26 ≤ a → X' a = X a := fun a ha => hx1 a (by simp only [List.mem_cons, List.not_mem_nil, or_false]; omega)
  refine ⟨h1.cg (fun a _ _ => big a (by omega)) (hm.1 1 (by decide)) (hm.1 2 (by decide)) (hm.1 3 (by decide)), h2.cg hx.2 (hx1 4 (by decide)) (hm.2 8 (by decide)) (hm.1 7 (by decide)), h3.cg (fun a _ _ => hx1 a (by simp only [List.mem_cons, List.not_mem_nil, or_false]; omega)) (hm.1 5 (by decide)) (fun b _ _ => hm.2 b (by simp only [List.mem_cons, List.not_mem_nil, or_false]; omega)), h4.cg (hx1 5 (by decide)) (hx1 7 (by decide)) (hx1 8 (by decide)) (hx1 9 (by decide)) (fun a _ _ => big a (by omega)) (hm.1 8 (by decide)) (hm.1 5 (by decide)) (hm.2 22 (by decide)), h5.cg (fun a _ _ => big a (by omega)) (hm.1 11 (by decide)) (hm.2 15 (by decide)), h6.cg (congrFun (hx1 13 (by decide)) 1) (hx1 14 (by decide)) (hm.2 32 (by decide)) (hm.1 12 (by decide)), ?_⟩
  rw [hx1 0 (by decide), hm.2 12 (by decide)]
  exact h7
theorem RR.cg {X X' M M' : VT} (H : RR X M) (hx : Xs X X') (hm : Ms M M') : RR X' M' := by
  obtain ⟨h1, Y, T, h2⟩ := H
  exact ⟨by rw [hx.1 0 (by decide), hm.2 4 (by decide)]; exact h1, Y, T, h2.cg hx hm⟩
/-- the status alone is told anew -/
theorem R0.st {X M : VT} {Y T : Nat} {u v : Int32} (H : R0 X M Y T) : R0 (up2 X 0 10 u) (up2 M 0 4 v) Y T := by
  obtain ⟨h1, h2, h3, h4, h5, h6, h7⟩ := H
  have nx : ∀ a : Nat, a ≠ 0 → up2 X 0 10 u a = X a := fun a ha => up2_ne ha
  have nm : ∀ a : Nat, a ≠ 0 → up2 M 0 4 v a = M a := fun a ha => up2_ne ha
  have n0 : ∀ b : Nat, b ≠ 4 → up2 M 0 4 v 0 b = M 0 b := fun b hb => up2_selfn hb
  refine ⟨h1.cg (fun a _ _ => nx a (by omega)) (nm 1 (by decide)) (nm 2 (by decide)) (nm 3 (by decide)), h2.cg (congrFun (nx 3 (by decide)) 1) (nx 4 (by decide)) (n0 8 (by decide)) (nm 7 (by decide)), h3.cg (fun a _ _ => nx a (by omega)) (nm 5 (by decide)) (fun b _ _ => n0 b (by omega)), h4.cg (nx 5 (by decide)) (nx 7 (by decide)) (nx 8 (by decide)) (nx 9 (by decide)) (fun a _ _ => nx a (by omega)) (nm 8 (by decide)) (nm 5 (by decide)) (n0 22 (by decide)), h5.cg (fun a _ _ => nx a (by omega)) (nm 11 (by decide)) (n0 15 (by decide)), h6.cg (congrFun (nx 13 (by decide)) 1) (nx 14 (by decide)) (n0 32 (by decide)) (nm 12 (by decide)), ?_⟩
  rw [up2_selfn (by decide), up2_selfn (by decide)]
  exact h7
theorem RR.st {X M : VT} {u : Int32} (H : RR X M) : RR (up2 X 0 10 u) (up2 M 0 4 u) := by
  obtain ⟨-, Y, T, h⟩ := H
  exact ⟨by rw [up2_self, up2_self], Y, T, h.st⟩
def Eqi (M : VT) (W : VT → (Int32 → VT → Prop) → Prop) : Int32 → VT → Prop := fun r X' => W M (fun r' M' => r = r' ∧ RR X' M')
