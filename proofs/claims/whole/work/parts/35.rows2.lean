/-! set, copy, drop, count -/
theorem q_found {X M : VT} (H : RR X M) (v : Int32) {K : Int32 → VT → Prop} (hK : ∀ X', RR X' (up2 M 0 4 v) → K (-1000010 - v) X') : wp_X7_found X v K := by
  intro X1 e1; subst e1
  exact hK _ H.st
def narF (w v : Int32) : Int32 := if w = 0 then v.toInt8.toInt32 else if w = 1 then v.toInt16.toInt32 else v
theorem x_put2 {X : VT} {k : Nat} {i : Nat} {v : Int32} {K : Int32 → VT → Prop} (hk : nX (k + 1) = 40) (hi : i < 40) (h : ∀ X', X' = up2 X (k + 1) i (narF (X k 1) v) → K (narF (X k 1) v) X') : wp_X5_put X k (nI i) v K := by
  have b31 : ∀ z : Int32, z = narF (X k 1) v → wp_X5_put_b31 K X k (nI i) (k + 1) (nI i) z := by
    intro z hz
    refine ⟨by rw [hk]; exact vpn hi (by decide), ?_⟩
    intro V4 e4
    rw [nI_c (by omega)] at e4
    refine ⟨vpn hi (by decide), ?_⟩
    rw [nI_c (by omega), e4, up2_self, hz]
    exact h _ rfl
  unfold wp_X5_put
  refine ⟨fun c => ⟨fun d => b31 _ (by rw [narF, if_neg c, if_neg d]), fun d => b31 _ (by rw [narF, if_neg c, if_pos d])⟩, fun c => b31 _ (by rw [narF, if_pos c])⟩
theorem q_set {X M : VT} (H : RR X M) (a b c : Int32) : wp_X7_set X a b c (fun r X' => wp_X8_set M a b c (EQ r X')) := by
  obtain ⟨hs, Y, T, h0⟩ := id H
  unfold wp_X7_set wp_X8_set
  rcases in_or a 0 7 with ⟨a1, a2⟩ | ha
  · refine isOut_in a1 a2 ⟨fun _ => ?_, fun c => absurd rfl c⟩
    obtain ⟨r, hr, rfl⟩ := nI_in_of (n := 7) rfl a1 a2
    refine ⟨vpn (by omega) (by decide), ?_⟩
    rw [nI_c (by omega)]
    refine x_find h0.1 (by omega) ⟨fun f => ?_, fun f => ?_⟩
    · obtain ⟨i0, n0, s0, rfl, e2, e3, e4, e5, e6⟩ := FA_0 h0.1 (by omega) f
      have n1 : n0 < 2000000 := by omega
      have : n0 = 1 := by
        have := congrArg Int32.toInt e2
        rw [t1, nI_toInt (by omega)] at this
        omega
      subst this
      intro X1 e1
      refine ⟨vpn (by omega) (by decide), x_put2 (nX_row (by omega)) (by omega) (fun X2 x2 => ?_)⟩
      have hw : X1 (36 + 2 * r) 1 = M 1 r := by rw [e1, up2_ne (by omega)]; exact (h0.1 r (by omega)).1
      rw [hw] at x2 ⊢
      refine isRow_in a1 a2 ⟨fun _ => ⟨vpn (by omega) (by decide), fun _ => ⟨vpn (by omega) (by decide), ?_⟩, fun q => absurd ((lane_neg (h0.1 r (by omega)).2.1).mpr e6) q⟩, fun q => absurd q (by decide)⟩
      obtain ⟨l1, l2⟩ := nI_in_lt' (j := i0) (Y := s0) (by omega) (by omega)
      refine in_in (lo := 0) (hi := M 2 r - 1) rfl rfl l1 (by rw [e3]; exact l2) ⟨fun _ => ⟨vpn (by omega) (by decide), ?_⟩, fun q => absurd q (by decide)⟩
      have b89 : ∀ z : Int32, z = narF (M 1 r) c → wp_X8_set_b89 (EQ (narF (M 1 r) c) X2) M (nI r) (nI i0) ((40 : Int32) * nI r + nI i0) z := by
        intro z hz
        unfold wp_X8_set_b89
        rw [show (40 : Int32) = nI 40 from rfl, nI_ix]
        refine ⟨vpn (by omega) (by decide), ?_⟩
        intro M1 m1
        refine ⟨vpn (by omega) (by decide), ?_⟩
        rw [nI_c (by omega)] at m1 ⊢
        intro M2 m2
        refine ⟨by rw [m1, up2_self, hz], ?_⟩
        have ex : ∀ q : Nat, q ≠ 0 → q ≠ 36 + 2 * r + 1 → X2 q = X q := fun q q1 q2 => by rw [x2, up2_ne q2, e1, up2_ne q1]
        have x0 : X2 0 = up2 X 0 10 0 0 := by rw [x2, up2_ne (by omega), e1]
        have em : ∀ q : Nat, q ≠ 0 → q ≠ 3 → M2 q = M q := fun q q1 q2 => by rw [m2, up2_ne q1, m1, up2_ne q2]
        have m0 : ∀ b : Nat, b ≠ 4 → M2 0 b = M 0 b := fun b hb => by rw [m2, up2_selfn hb, m1, up2_ne (by decide)]
        have m3 : M2 3 = up2 M 3 (40 * r + i0) z 3 := by rw [m2, up2_ne (by decide), m1]
        refine ⟨by rw [x0, m2, up2_self, up2_self], Y, T, h0.rows (fun q h1 h2 => ex q h1 (by omega)) (by rw [x0, up2_selfn (by decide)]) (fun q hq => ?_) m0 ?_⟩
        · simp only [List.mem_cons, List.not_mem_nil, or_false, not_or] at hq
          exact em q hq.1 hq.2.2.2.1
        · refine h0.1.one (by omega : r < 8) (fun q h1 h2 h3 h4 => ex q (by omega) (by omega)) (fun q hq => by rw [em 1 (by decide) (by decide)]) (fun q hq => by rw [em 2 (by decide) (by decide)]) (fun i hi => ?_) ?_
          · rw [m3, up2_selfn (by omega)]
          · rw [em 1 (by decide) (by decide), em 2 (by decide) (by decide), ex (36 + 2 * r) (by omega) (by omega)]
            obtain ⟨o1, o2, o3⟩ := h0.1 r (by omega)
            refine ⟨o1, o2, fun n => ⟨(o3 n).1, (o3 n).2.1, fun i hi => ?_⟩⟩
            rw [m3, x2, show 37 + 2 * r = 36 + 2 * r + 1 by omega]
            by_cases q : i = i0
            · subst q; rw [up2_self, up2_self, hz]
            · rw [up2_selfn q, up2_selfn (by omega), e1, up2_ne (by omega), show 36 + 2 * r + 1 = 37 + 2 * r by omega]
              exact (o3 n).2.2 i hi
      refine ⟨fun d => ⟨fun g => b89 _ (by rw [narF, if_neg d, if_neg g]), fun g => b89 _ (by rw [narF, if_neg d, if_pos g])⟩, fun d => b89 _ (by rw [narF, if_pos d])⟩
    · refine q_found H _ (fun X1 hR => ?_)
      refine isRow_in a1 a2 ⟨fun _ => ⟨vpn (by omega) (by decide), ?_⟩, fun q => absurd q (by decide)⟩
      obtain ⟨o1, o2, o3⟩ := h0.1 r (by omega)
      rw [lane_neg o2]
      unfold FA at f hR
      refine ⟨fun d => ?_, fun d => ?_⟩
      · rw [if_neg d] at f hR
        obtain ⟨c1, ⟨s0, c2, c3⟩, c4⟩ := o3 d
        have g2 : b < 0 ∨ ¬ b ≤ M 2 r - 1 := by
          by_cases q : b < 0
          · exact Or.inl q
          · rw [if_neg q, if_neg (by decide)] at f
            by_cases z : b ≤ M 2 r - 1
            · rw [if_pos z] at f; exact absurd rfl f
            · exact Or.inr z
        refine ⟨vpn (by omega) (by decide), in_out (lo := 0) (hi := M 2 r - 1) rfl rfl g2 ⟨fun q => absurd rfl q, fun _ => ?_⟩⟩
        have e2 : (if b < 0 then (2 : Int32) else if (1 : Int32) < 0 then 2 else if b ≤ M 2 r - 1 then 0 else 2) = 2 := by
          by_cases q : b < 0
          · rw [if_pos q]
          · rw [if_neg q, if_neg (by decide), if_neg (g2.resolve_left q)]
        intro M1 m1
        rw [e2] at hR
        subst m1
        exact ⟨by rw [FA, if_neg d, e2], hR⟩
      · rw [if_pos (Classical.not_not.mp d)] at hR
        intro M1 m1
        subst m1
        exact ⟨by rw [FA, if_pos (Classical.not_not.mp d)], hR⟩
  · exact isOut_out ha ⟨fun c => absurd c (by decide), fun _ => isRow_out ha ⟨fun c => absurd rfl c, fun _ => ⟨rfl, H⟩⟩⟩
theorem q_drop {X M : VT} (H : RR X M) (a : Int32) : wp_X7_drop X a (fun r X' => wp_X8_drop M a (EQ r X')) := by
  obtain ⟨hs, Y, T, h0⟩ := id H
  unfold wp_X7_drop wp_X8_drop
  rcases in_or a 0 7 with ⟨a1, a2⟩ | ha
  · refine isOut_in a1 a2 ⟨fun _ => ?_, fun c => absurd rfl c⟩
    obtain ⟨r, hr, rfl⟩ := nI_in_of (n := 7) rfl a1 a2
    refine ⟨vpn (by omega) (by decide), ?_⟩
    rw [nI_c (by omega)]
    obtain ⟨o1, o2, o3⟩ := h0.1 r (by omega)
    refine x_missing ?_
    rw [o1]
    by_cases d : M 1 r = -1
    · rw [if_pos d]
      refine ⟨fun q => absurd q (by decide), fun _ => q_found H _ (fun X1 hR => ?_)⟩
      refine isRow_in a1 a2 ⟨fun _ => ⟨vpn (by omega) (by decide), fun q => absurd d ((lane_neg o2).mp q), fun _ M1 m1 => ?_⟩, fun q => absurd q (by decide)⟩
      subst m1; exact ⟨rfl, hR⟩
    · rw [if_neg d]
      obtain ⟨c1, ⟨s0, c2, c3⟩, c4⟩ := o3 d
      refine ⟨fun _ => ⟨vpn (by omega) (by decide), vpn (by omega) (by decide), s_become (nX_row (by omega)) (fun X1 f1 g1 g2 g3 X2 e2 => ?_)⟩, fun q => absurd rfl q⟩
      refine isRow_in a1 a2 ⟨fun _ => ⟨vpn (by omega) (by decide), fun _ => ⟨vpn (by omega) (by decide), ?_⟩, fun q => absurd ((lane_neg o2).mpr d) q⟩, fun q => absurd q (by decide)⟩
      intro M1 m1
      refine ⟨vpn (by omega) (by decide), ?_⟩
      intro M2 m2
      have em : ∀ q : Nat, q ≠ 0 → q ≠ 1 → M2 q = M q := fun q q1 q2 => by rw [m2, up2_ne q1, m1, up2_ne q2]
      have em1 : M2 1 = up2 M 1 r (-1) 1 := by rw [m2, up2_ne (by decide), m1]
      refine ⟨by rw [m1, up2_ne (by decide), c1], by rw [e2, m2, up2_self, up2_self], Y, T, h0.rows (fun q h1 h2 => ?_) ?_ (fun q hq => ?_) (fun b hb => ?_) ?_⟩
      · rw [e2, up2_ne h1, f1 q (by omega) (by omega)]
      · rw [e2, up2_selfn (by decide), f1 0 (by omega) (by omega)]
      · simp only [List.mem_cons, List.not_mem_nil, or_false, not_or] at hq
        exact em q hq.1 hq.2.1
      · rw [m2, up2_selfn hb, m1, up2_ne (by decide)]
      · refine h0.1.one (by omega : r < 8) (fun q h1 h2 h3 h4 => ?_) (fun q hq => ?_) (fun q hq => ?_) (fun i hi => ?_) ⟨?_, ?_, fun n => ?_⟩
        · rw [e2, up2_ne (by omega), f1 q (by omega) (by omega)]
        · rw [em1, up2_selfn hq]
        · rw [em 2 (by decide) (by decide)]
        · rw [em 3 (by decide) (by decide)]
        · rw [e2, up2_ne (by omega), g1, em1, up2_self]
        · rw [em1, up2_self]; exact Or.inl rfl
        · rw [em1, up2_self] at n; exact absurd rfl n
  · exact isOut_out ha ⟨fun c => absurd c (by decide), fun _ => isRow_out ha ⟨fun c => absurd rfl c, fun _ => ⟨rfl, H⟩⟩⟩
def cR (M : VT) : Nat → Nat
  | 0 => 0
  | n + 1 => cR M n + if M 1 n = -1 then 0 else 1
theorem x_rows_L {X M : VT} {K : Int32 → VT → Prop} (H : Rrow X M) (h : K (nI (cR M 8)) X) : ∀ m i : Nat, i + m = 8 → wp_X7_rowsThere_L4 K (m + 1) X (nI (cR M i)) (nI i) := by
  intro m
  induction m with
  | zero =>
    intro i hi
    have : i = 8 := by omega
    subst this
    exact ⟨fun _ => h, fun c => absurd (nI_le (a := 8) (b := 8) (by omega) (by decide)) c⟩
  | succ m ih =>
    intro i hi
    refine ⟨fun c => absurd c (nI_ge (a := i) (b := 8) (by omega) (by decide)), fun _ => ⟨vpn (by omega) (by decide), ?_⟩⟩
    rw [nI_c (by omega)]
    refine x_missing ?_
    rw [(H i (by omega)).1]
    unfold wp_X7_rowsThere_b25
    rw [nI_1, nI_1]
    have := ih (i + 1) (by omega)
    rw [cR] at this
    by_cases q : M 1 i = -1
    · rw [if_pos q] at this ⊢
      exact ⟨fun _ => this, fun c => absurd c (by decide)⟩
    · rw [if_neg q] at this ⊢
      exact ⟨fun c => absurd rfl c, fun _ => this⟩
theorem m_count_L {X M : VT} {x1 : Int32} {K : Int32 → VT → Prop} (H : Rrow X M) (h : wp_X8_count_L4 K 1 M x1 (nI (cR M 8)) (nI 8)) : ∀ m i : Nat, i + m = 8 → wp_X8_count_L4 K (m + 1) M x1 (nI (cR M i)) (nI i) := by
  intro m
  induction m with
  | zero =>
    intro i hi
    have : i = 8 := by omega
    subst this
    exact h
  | succ m ih =>
    intro i hi
    refine ⟨fun c => absurd c (nI_ge (a := i) (b := 8) (by omega) (by decide)), fun _ => ⟨vpn (by omega) (by decide), ?_⟩⟩
    rw [nI_c (by omega), lane_neg (H i (by omega)).2.1]
    unfold wp_X8_count_b25
    rw [nI_1, nI_1]
    have := ih (i + 1) (by omega)
    rw [cR] at this
    refine ⟨fun q => ?_, fun q => ?_⟩
    · rw [if_neg q] at this; exact this
    · rw [if_pos (Classical.not_not.mp q)] at this
      rw [Int32.add_zero]; exact this
theorem q_count {X M : VT} (H : RR X M) (a : Int32) : wp_X7_count X a (fun r X' => wp_X8_count M a (EQ r X')) := by
  obtain ⟨hs, Y, T, h0⟩ := id H
  obtain ⟨⟨⟨y1, y2, y3⟩, ⟨y4, y5⟩, ⟨y6, y7⟩, y8, y9, m8, -, -, hh, -⟩, isl⟩ := id h0.2.2.1
  have low : ∀ (x : Int32), (a ≠ 0 → a ≠ 1 → a ≠ 2 → a ≠ 3 → a ≠ 4 → a ≠ 5 → a ≠ 6 → a ≠ 7 → x = -1000001) → (a = 0 → x = nI (cR M 8)) → (a = 1 → x = M 5 0) → (a = 2 → x = M 5 1) → (a = 3 → x = M 5 2) → (a = 4 → x = M 5 3) → (a = 5 → x = M 0 20) → (a = 6 → x = M 0 22) → (a = 7 → x = M 0 8) → wp_X8_count M a (EQ x X) := by
    intro x hn e0 e1 e2 e3 e4 e5 e6 e7
    refine ⟨9, m_count_L h0.1 ?_ 8 0 rfl⟩
    unfold wp_X8_count_L4 wp_X8_count_b82
    refine ⟨fun _ => ⟨fun c => ⟨e0 c, H⟩, fun c => ?_, fun c => ?_, fun c => ?_, fun c => ?_, fun c => ⟨e5 c, H⟩, fun c => ⟨e6 c, H⟩, fun c => ⟨e7 c, H⟩, fun c0 c1 c2 c3 c4 c5 c6 c7 => ⟨hn c0 c1 c2 c3 c4 c5 c6 c7, H⟩⟩, fun c => absurd (by decide) c⟩
    · subst c; exact ⟨vin (by decide), e1 rfl, H⟩
    · subst c; exact ⟨vin (by decide), e2 rfl, H⟩
    · subst c; exact ⟨vin (by decide), e3 rfl, H⟩
    · subst c; exact ⟨vin (by decide), e4 rfl, H⟩
  unfold wp_X7_count
  obtain ⟨nx, cc, a1, a2, a3, a4, a5, -⟩ := id h0.2.2.2.1
  obtain ⟨t, u1, u2, u3, u4⟩ := id h0.2.1
  refine ⟨fun c => ?_, fun c => ?_, fun c => ?_, fun c => ?_, fun c => ?_, fun c => ?_, fun c => ?_, fun c => ?_, fun c0 c1 c2 c3 c4 c5 c6 c7 => ?_⟩
  · refine ⟨9, x_rows_L h0.1 ?_ 8 0 rfl⟩
    subst c
    exact low _ (fun q => absurd rfl q) (fun _ => rfl) (fun q => absurd q (by decide)) (fun q => absurd q (by decide)) (fun q => absurd q (by decide)) (fun q => absurd q (by decide)) (fun q => absurd q (by decide)) (fun q => absurd q (by decide)) (fun q => absurd q (by decide))
  · subst c
    exact low _ (fun _ q => absurd rfl q) (fun q => absurd q (by decide)) (fun _ => by rw [y4, y5]) (fun q => absurd q (by decide)) (fun q => absurd q (by decide)) (fun q => absurd q (by decide)) (fun q => absurd q (by decide)) (fun q => absurd q (by decide)) (fun q => absurd q (by decide))
  · subst c
    exact low _ (fun _ _ q => absurd rfl q) (fun q => absurd q (by decide)) (fun q => absurd q (by decide)) (fun _ => by rw [y6, y7]) (fun q => absurd q (by decide)) (fun q => absurd q (by decide)) (fun q => absurd q (by decide)) (fun q => absurd q (by decide)) (fun q => absurd q (by decide))
  · subst c
    exact low _ (fun _ _ _ q => absurd rfl q) (fun q => absurd q (by decide)) (fun q => absurd q (by decide)) (fun q => absurd q (by decide)) (fun _ => y8) (fun q => absurd q (by decide)) (fun q => absurd q (by decide)) (fun q => absurd q (by decide)) (fun q => absurd q (by decide))
  · subst c
    exact low _ (fun _ _ _ _ q => absurd rfl q) (fun q => absurd q (by decide)) (fun q => absurd q (by decide)) (fun q => absurd q (by decide)) (fun q => absurd q (by decide)) (fun _ => y9) (fun q => absurd q (by decide)) (fun q => absurd q (by decide)) (fun q => absurd q (by decide))
  · subst c
    exact low _ (fun _ _ _ _ _ q => absurd rfl q) (fun q => absurd q (by decide)) (fun q => absurd q (by decide)) (fun q => absurd q (by decide)) (fun q => absurd q (by decide)) (fun q => absurd q (by decide)) (fun _ => m8) (fun q => absurd q (by decide)) (fun q => absurd q (by decide))
  · subst c
    exact low _ (fun _ _ _ _ _ _ q => absurd rfl q) (fun q => absurd q (by decide)) (fun q => absurd q (by decide)) (fun q => absurd q (by decide)) (fun q => absurd q (by decide)) (fun q => absurd q (by decide)) (fun q => absurd q (by decide)) (fun _ => by rw [a4, a5]) (fun q => absurd q (by decide))
  · subst c
    exact low _ (fun _ _ _ _ _ _ _ q => absurd rfl q) (fun q => absurd q (by decide)) (fun q => absurd q (by decide)) (fun q => absurd q (by decide)) (fun q => absurd q (by decide)) (fun q => absurd q (by decide)) (fun q => absurd q (by decide)) (fun q => absurd q (by decide)) (fun _ => by rw [u2, u3])
  · exact low _ (fun _ _ _ _ _ _ _ _ => rfl) (fun q => absurd q c0) (fun q => absurd q c1) (fun q => absurd q c2) (fun q => absurd q c3) (fun q => absurd q c4) (fun q => absurd q c5) (fun q => absurd q c6) (fun q => absurd q c7)
