/-! rows -/
theorem nI_ix {c r i : Nat} : nI c * nI r + nI i = nI (c * r + i) := by rw [pk_mul, nI_add]
theorem vpn {n N : Nat} (h : n < N) (hN : N < 2 ^ 31) : vp_in (nI n) N := vp_in_nI h hN
theorem s_fill_L {k : Nat} {x : Int32} {K : VT → Prop} (hn : nX k < 2 ^ 31) : ∀ (m i : Nat) (V : VT), i + m = nX k →
    (∀ V' : VT, fr V V' k → (∀ j, i ≤ j → j < nX k → V' k j = x) → (∀ j, j < i ∨ nX k ≤ j → V' k j = V k j) → K V') → wp_J7_fill_53178_L5 K (m + 1) V k x (nI i) (nI (nX k)) := by
  intro m
  induction m with
  | zero =>
    intro i V hi h
    refine ⟨fun _ => h V fr_rf (fun j h1 h2 => by omega) (fun _ _ => rfl), fun c => absurd (nI_le (by omega) (by omega)) c⟩
  | succ m ih =>
    intro i V hi h
    refine ⟨fun c => absurd c (nI_ge (by omega) hn), fun _ => ⟨vpn (by omega) hn, ?_⟩⟩
    intro V3 e3
    rw [nI_c (by omega)] at e3
    rw [nI_1]
    refine ih (i + 1) V3 (by omega) (fun V' f1 f2 f3 => h V' (by rw [e3] at f1; exact fr_up.tr f1) (fun j h1 h2 => ?_) (fun j hj => ?_))
    · rcases Nat.lt_or_ge i j with q | q
      · exact f2 j (by omega) h2
      · have : j = i := by omega
        subst this
        rw [f3 j (by omega), e3, up2_self]
    · rw [f3 j (by omega), e3, up2_selfn (by omega)]
theorem s_fill {k : Nat} {x : Int32} {K : VT → Prop} {V : VT} (hn : nX k < 2 ^ 31) (h : ∀ V' : VT, fr V V' k → (∀ j, j < nX k → V' k j = x) → K V') : wp_J7_fill_53178 V k x K :=
  ⟨nX k + 1, s_fill_L hn (nX k) 0 V (by omega) (fun V' f1 f2 _ => h V' f1 (fun j hj => f2 j (Nat.zero_le _) hj))⟩
theorem s_become {k : Nat} {w n : Int32} {K : VT → Prop} {V : VT} (hk : nX (k + 1) = 40) (h : ∀ V' : VT, (∀ a, a ≠ k → a ≠ k + 1 → V' a = V a) → V' k 1 = w → V' k 2 = n → (∀ j, j < 40 → V' (k + 1) j = 0) → K V') : wp_X5_become V k w n K := by
  intro V1 e1 V2 e2
  refine s_fill (by rw [hk]; decide) (fun V' f1 f2 => h V' (fun a h1 h2 => ?_) ?_ ?_ (fun j hj => f2 j (by omega)))
  · rw [f1 a h2, e2, up2_ne h1, e1, up2_ne h1]
  · rw [f1 k (by omega), e2, up2_selfn (by decide), e1, up2_self]
  · rw [f1 k (by omega), e2, up2_self]
theorem nX_row {r : Nat} (h : r < 8) : nX (36 + 2 * r + 1) = 40 := (by decide : ∀ r, r < 8 → nX (36 + 2 * r + 1) = 40) r h
theorem R0.rows {X X' M M' : VT} {Y T : Nat} (H : R0 X M Y T) (hx : ∀ a, a ≠ 0 → (a < 36 ∨ 52 ≤ a) → X' a = X a) (hx9 : X' 0 9 = X 0 9) (hm : ∀ a, a ∉ [0, 1, 2, 3, 4] → M' a = M a) (hm0 : ∀ b, b ≠ 4 → M' 0 b = M 0 b) (hr : Rrow X' M') : R0 X' M' Y T := by
  obtain ⟨h1, h2, h3, h4, h5, h6, h7⟩ := H
  refine ⟨hr, h2.cg (congrFun (hx 3 (by decide) (by decide)) 1) (hx 4 (by decide) (by decide)) (hm0 8 (by decide)) (hm 7 (by decide)), h3.cg (fun a _ _ => hx a (by omega) (by omega)) (hm 5 (by decide)) (fun b _ _ => hm0 b (by omega)), h4.cg (hx 5 (by decide) (by decide)) (hx 7 (by decide) (by decide)) (hx 8 (by decide) (by decide)) (hx 9 (by decide) (by decide)) (fun a _ _ => hx a (by omega) (by omega)) (hm 8 (by decide)) (hm 5 (by decide)) (hm0 22 (by decide)), h5.cg (fun a _ _ => hx a (by omega) (by omega)) (hm 11 (by decide)) (hm0 15 (by decide)), h6.cg (congrFun (hx 13 (by decide) (by decide)) 1) (hx 14 (by decide) (by decide)) (hm0 32 (by decide)) (hm 12 (by decide)), ?_⟩
  rw [hx9, hm0 12 (by decide)]
  exact h7
theorem Rrow.one {X X' M M' : VT} {r : Nat} (H : Rrow X M) (hr : r < 8) (hx : ∀ a, 36 ≤ a → a < 52 → a ≠ 36 + 2 * r → a ≠ 37 + 2 * r → X' a = X a) (h1 : ∀ q, q ≠ r → M' 1 q = M 1 q) (h2 : ∀ q, q ≠ r → M' 2 q = M 2 q) (h3 : ∀ i, (i < 40 * r ∨ 40 * r + 40 ≤ i) → M' 3 i = M 3 i)
    (hn : X' (36 + 2 * r) 1 = M' 1 r ∧ (M' 1 r = -1 ∨ M' 1 r = 0 ∨ M' 1 r = 1 ∨ M' 1 r = 2) ∧ (M' 1 r ≠ -1 → X' (36 + 2 * r) 2 = M' 2 r ∧ (∃ n : Nat, n ≤ 40 ∧ M' 2 r = nI n) ∧ ∀ i, i < 40 → X' (37 + 2 * r) i = M' 3 (40 * r + i))) : Rrow X' M' := by
  intro q hq
  by_cases e : q = r
  · subst e; exact hn
  · rw [hx (36 + 2 * q) (by omega) (by omega) (by omega) (by omega), hx (37 + 2 * q) (by omega) (by omega) (by omega) (by omega), h1 q e, h2 q e]
    obtain ⟨a, b, c⟩ := H q hq
    refine ⟨a, b, fun z => ?_⟩
    obtain ⟨c1, c2, c3⟩ := c z
    refine ⟨c1, c2, fun i hi => ?_⟩
    rw [h3 _ (by omega)]
    exact c3 i hi
theorem m_row_L {r : Nat} {x3 : Int32} {K : Int32 → VT → Prop} (hr : r < 8) : ∀ (m i : Nat) (V : VT), i + m = 40 →
    (∀ V' : VT, fr V V' 3 → (∀ j, i ≤ j → j < 40 → V' 3 (40 * r + j) = 0) → (∀ q, (q < 40 * r + i ∨ 40 * r + 40 ≤ q) → V' 3 q = V 3 q) → K x3 (up2 V' 0 4 0)) → wp_X8_row_L55 K (m + 1) V (nI r) x3 (nI i) := by
  intro m
  induction m with
  | zero =>
    intro i V hi h
    refine ⟨fun _ => fun V1 e1 => by subst e1; exact h V fr_rf (fun j h1 h2 => by omega) (fun _ _ => rfl), fun c => absurd (nI_le (a := 40) (b := i) (by omega) (by omega)) c⟩
  | succ m ih =>
    intro i V hi h
    refine ⟨fun c => absurd c (nI_ge (a := i) (b := 40) (by omega) (by decide)), fun _ => ?_⟩
    rw [show (40 : Int32) = nI 40 from rfl, nI_ix]
    refine ⟨vpn (by omega) (by decide), ?_⟩
    intro V3 e3
    rw [nI_c (by omega)] at e3
    rw [nI_1]
    refine ih (i + 1) V3 (by omega) (fun V' f1 f2 f3 => h V' (by rw [e3] at f1; exact fr_up.tr f1) (fun j h1 h2 => ?_) (fun q hq => ?_))
    · rcases Nat.lt_or_ge i j with q | q
      · exact f2 j (by omega) h2
      · have : j = i := by omega
        subst this
        rw [f3 _ (by omega), e3, up2_self]
    · rw [f3 q (by omega), e3, up2_selfn (by omega)]
theorem q_row {X M : VT} (H : RR X M) (a b c : Int32) : wp_X7_row X a b c (Eqi M (fun M => wp_X8_row M a b c)) := by
  obtain ⟨hs, Y, T, h0⟩ := id H
  unfold wp_X7_row Eqi wp_X8_row
  rcases in_or a 0 7 with ⟨a1, a2⟩ | ha
  · refine isOut_in a1 a2 ⟨fun c => absurd rfl c, fun _ => ?_⟩
    rcases in_or b 0 2 with ⟨b1, b2⟩ | hb
    · refine isOut_in b1 b2 ⟨fun c => absurd rfl c, fun _ => ⟨fun c1 => ⟨fun c2 => ?_, fun c2 => ?_⟩, fun c1 => ?_⟩⟩
      · obtain ⟨r, hr, rfl⟩ := nI_in_of (n := 7) rfl a1 a2
        refine ⟨vpn (by omega) (by decide), ?_⟩
        rw [nI_c (by omega)]
        refine s_become (nX_row (by omega)) (fun X1 f1 g1 g2 g3 X2 e2 => ?_)
        refine isRow_in a1 a2 ⟨fun c => absurd c (by decide), fun _ => in_in (lo := 0) (hi := 2) rfl rfl b1 b2 ⟨fun c => absurd c (by decide), fun _ => ⟨fun _ => ⟨fun _ => ⟨vpn (by omega) (by decide), ?_⟩, fun c => absurd c2 c⟩, fun c => absurd c1 c⟩⟩⟩
        intro M1 m1
        refine ⟨vpn (by omega) (by decide), ?_⟩
        intro M2 m2
        refine ⟨41, m_row_L (r := r) (by omega) 40 0 M2 rfl (fun M3 k1 k2 k3 => ⟨rfl, ?_⟩)⟩
        obtain ⟨n, hn, rfl⟩ := nI_in_of (n := 40) rfl (Int32.not_lt.mpr c2) c1
        have z1 : ∀ q, up2 M3 0 4 0 1 q = up2 M 1 r b 1 q := fun q => by rw [up2_ne (by decide), k1 1 (by decide), m2, up2_ne (by decide), m1]
        have z2 : ∀ q, up2 M3 0 4 0 2 q = up2 M 2 r (nI n) 2 q := fun q => by rw [up2_ne (by decide), k1 2 (by decide), m2, m1]; simp [up2]
        have z3 : ∀ q, up2 M3 0 4 0 3 q = M3 3 q := fun q => by rw [up2_ne (by decide)]
        refine ⟨by rw [e2, up2_self, up2_self], Y, T, h0.rows (fun a h1 h2 => ?_) ?_ (fun a ha => ?_) (fun b hb => ?_) ?_⟩
        · rw [e2, up2_ne h1, f1 a (by omega) (by omega)]
        · rw [e2, up2_selfn (by decide), f1 0 (by omega) (by omega)]
        · simp only [List.mem_cons, List.not_mem_nil, or_false, not_or] at ha
          rw [up2_ne ha.1, k1 a ha.2.2.2.1, m2, up2_ne ha.2.2.1, m1, up2_ne ha.2.1]
        · rw [up2_selfn hb, k1 0 (by decide), m2, up2_ne (by decide), m1, up2_ne (by decide)]
        · refine h0.1.one (by omega : r < 8) (fun a h1 h2 h3 h4 => ?_) (fun q hq => ?_) (fun q hq => ?_) (fun i hi => ?_) ⟨?_, ?_, fun _ => ⟨?_, ⟨n, hn, ?_⟩, fun i hi => ?_⟩⟩
          · rw [e2, up2_ne (by omega), f1 a (by omega) (by omega)]
          · rw [z1, up2_selfn hq]
          · rw [z2, up2_selfn hq]
          · rw [z3, k3 i (by omega), m2, up2_ne (by decide), m1, up2_ne (by decide)]
          · rw [e2, up2_ne (by omega), g1, z1, up2_self]
          · rw [z1, up2_self]
            obtain ⟨j, hj, rfl⟩ := nI_in_of (n := 2) rfl b1 b2
            right
            rcases (show j = 0 ∨ j = 1 ∨ j = 2 by omega) with rfl | rfl | rfl
            · exact Or.inl rfl
            · exact Or.inr (Or.inl rfl)
            · exact Or.inr (Or.inr rfl)
          · rw [e2, up2_ne (by omega), g2, z2, up2_self]
          · rw [z2, up2_self]
          · rw [e2, up2_ne (by omega), show 37 + 2 * r = 36 + 2 * r + 1 by omega, g3 i hi, z3, k2 i (by omega) hi]
      · intro X1 e1
        refine isRow_in a1 a2 ⟨fun c => absurd c (by decide), fun _ => in_in (lo := 0) (hi := 2) rfl rfl b1 b2 ⟨fun c => absurd c (by decide), fun _ => ⟨fun _ => ⟨fun c => absurd c c2, fun _ => ?_⟩, fun c => absurd c1 c⟩⟩⟩
        intro M1 m1
        subst e1; subst m1
        exact ⟨rfl, H.st⟩
      · exact isRow_in a1 a2 ⟨fun c => absurd c (by decide), fun _ => in_in (lo := 0) (hi := 2) rfl rfl b1 b2 ⟨fun c => absurd c (by decide), fun _ => ⟨fun c => absurd c c1, fun _ => ⟨rfl, H⟩⟩⟩⟩
    · exact isOut_out hb ⟨fun _ => isRow_in a1 a2 ⟨fun c => absurd c (by decide), fun _ => in_out (lo := 0) (hi := 2) rfl rfl hb ⟨fun _ => ⟨rfl, H⟩, fun c => absurd rfl c⟩⟩, fun c => absurd c (by decide)⟩
  · exact isOut_out ha ⟨fun _ => isRow_out ha ⟨fun _ => ⟨rfl, H⟩, fun c => absurd rfl c⟩, fun c => absurd c (by decide)⟩
/-- what is found where n items from i on are asked for -/
def FA (M : VT) (r : Nat) (i n : Int32) : Int32 := if M 1 r = -1 then 1 else if i < 0 then 2 else if n < 0 then 2 else if i ≤ M 2 r - n then 0 else 2
theorem x_missing {X : VT} {k : Nat} {K : Int32 → VT → Prop} (h : K (if X k 1 = -1 then 1 else 0) X) : wp_X5_isMissing X k K := by
  unfold wp_X5_isMissing
  refine ⟨fun c => ?_, fun c => ?_⟩
  · rw [if_neg c] at h; exact h
  · rw [if_pos c] at h; exact h
theorem x_find {X M : VT} {r : Nat} {i n : Int32} {K : Int32 → VT → Prop} (H : Rrow X M) (hr : r < 8) (h : K (FA M r i n) X) : wp_X5_findingAt X (36 + 2 * r) i n K := by
  obtain ⟨a, b, c⟩ := H r hr
  unfold wp_X5_findingAt wp_X5_findingAt_b27
  refine x_missing ?_
  rw [a]
  unfold FA at h
  by_cases q : M 1 r = -1
  · rw [if_pos q] at h ⊢
    exact ⟨fun c => absurd c (by decide), fun _ => h⟩
  · rw [if_neg q] at h ⊢
    rw [(c q).1]
    refine ⟨fun _ => ⟨fun d => ?_, fun d => ⟨fun e => ?_, fun e => ⟨fun f => ?_, fun f => ?_⟩⟩⟩, fun c => absurd rfl c⟩
    · rw [if_pos d] at h; exact h
    · rw [if_neg d, if_pos e] at h; exact h
    · rw [if_neg d, if_neg e, if_pos f] at h; exact h
    · rw [if_neg d, if_neg e, if_neg f] at h; exact h
theorem lane_neg {v : Int32} (h : v = -1 ∨ v = 0 ∨ v = 1 ∨ v = 2) : 0 ≤ v ↔ ¬ v = -1 := by
  rcases h with rfl | rfl | rfl | rfl <;> decide
theorem i64_add {a b : Int32} (ha : 0 ≤ a.toInt) (hb : 0 ≤ b.toInt) : (a.toInt64 + b.toInt64).toInt = a.toInt + b.toInt := by
  have h1 := a.toInt_lt
  have h2 := b.toInt_lt
  rw [Int64.toInt_add, Int32.toInt_toInt64, Int32.toInt_toInt64]
  apply Int.bmod_eq_of_le <;> omega
theorem m_isPart {M : VT} {r n0 : Nat} {i n : Int32} {K : Int32 → VT → Prop} (hr : r < 8) (hn : n0 ≤ 40) (hs : M 2 r = nI n0) (h : K (if i < 0 then 0 else if n < 0 then 0 else if i ≤ M 2 r - n then 1 else 0) M) : wp_X8_isPart M (nI r) i n K := by
  unfold wp_X8_isPart
  refine ⟨fun d => ?_, fun d => ⟨fun e => ?_, fun e => ⟨vpn hr (by decide), ?_⟩⟩⟩
  · rw [if_pos d] at h; exact h
  · rw [if_neg d, if_pos e] at h; exact h
  · rw [if_neg d, if_neg e] at h
    rw [nI_c (by omega), lg_gt0, Int64.lt_iff_toInt_lt, Int32.toInt_toInt64]
    rw [i_lt, t0] at d e
    rw [i64_add (by omega) (by omega), hs, nI_toInt (by omega)]
    have key : i ≤ M 2 r - n ↔ i.toInt + n.toInt ≤ n0 := by
      rw [hs, i_le, i_sub (by rw [nI_toInt (by omega)]; have := n.toInt_lt; omega), nI_toInt (by omega)]
      omega
    refine ⟨fun f => ?_, fun f => ?_⟩
    · rw [if_neg (fun c => by have := key.mp c; omega)] at h; exact h
    · rw [if_pos (key.mpr (by omega))] at h; exact h
theorem m_partOf {X M : VT} {r : Nat} {i n : Int32} {K : Int32 → VT → Prop} (H : Rrow X M) (hr : r < 8) (h : K (FA M r i n) M) : wp_X8_partOf M (nI r) i n K := by
  obtain ⟨a, b, c⟩ := H r hr
  unfold wp_X8_partOf
  refine ⟨vpn hr (by decide), ?_⟩
  rw [nI_c (by omega), lane_neg b]
  unfold FA at h
  refine ⟨fun q => ?_, fun q => ?_⟩
  · rw [if_neg q] at h
    obtain ⟨c1, ⟨n0, c2, c3⟩, c4⟩ := c q
    refine m_isPart hr c2 c3 ?_
    by_cases d : i < 0
    · rw [if_pos d] at h ⊢; exact ⟨fun _ => h, fun c => absurd rfl c⟩
    · rw [if_neg d] at h ⊢
      by_cases e : n < 0
      · rw [if_pos e] at h ⊢; exact ⟨fun _ => h, fun c => absurd rfl c⟩
      · rw [if_neg e] at h ⊢
        by_cases f : i ≤ M 2 r - n
        · rw [if_pos f] at h ⊢; exact ⟨fun c => absurd c (by decide), fun _ => h⟩
        · rw [if_neg f] at h ⊢; exact ⟨fun _ => h, fun c => absurd rfl c⟩
  · rw [if_pos (Classical.not_not.mp q)] at h; exact h
theorem FA_or (M : VT) (r : Nat) (i n : Int32) : FA M r i n = 0 ∨ FA M r i n = 1 ∨ FA M r i n = 2 := by
  unfold FA
  split
  · exact Or.inr (Or.inl rfl)
  · split
    · exact Or.inr (Or.inr rfl)
    · split
      · exact Or.inr (Or.inr rfl)
      · split
        · exact Or.inl rfl
        · exact Or.inr (Or.inr rfl)
/-- nothing is found: the items are there -/
theorem FA_0 {X M : VT} {r : Nat} {i n : Int32} (H : Rrow X M) (hr : r < 8) (h : FA M r i n = 0) : ∃ (i0 n0 s0 : Nat), i = nI i0 ∧ n = nI n0 ∧ M 2 r = nI s0 ∧ i0 + n0 ≤ s0 ∧ s0 ≤ 40 ∧ M 1 r ≠ -1 := by
  obtain ⟨a, b, c⟩ := H r hr
  unfold FA at h
  by_cases q : M 1 r = -1
  · rw [if_pos q] at h; exact absurd h (by decide)
  · rw [if_neg q] at h
    obtain ⟨c1, ⟨s0, c2, c3⟩, c4⟩ := c q
    by_cases d : i < 0
    · rw [if_pos d] at h; exact absurd h (by decide)
    · rw [if_neg d] at h
      by_cases e : n < 0
      · rw [if_pos e] at h; exact absurd h (by decide)
      · rw [if_neg e] at h
        by_cases f : i ≤ M 2 r - n
        · obtain ⟨i0, hi, rfl⟩ := nI_of d
          obtain ⟨n0, hn, rfl⟩ := nI_of e
          refine ⟨i0, n0, s0, rfl, rfl, c3, ?_, c2, q⟩
          rw [c3, i_le, i_sub (by rw [nI_toInt (by omega), nI_toInt (by omega)]; omega), nI_toInt (by omega), nI_toInt (by omega), nI_toInt (by omega)] at f
          omega
        · rw [if_neg f] at h; exact absurd h (by decide)
