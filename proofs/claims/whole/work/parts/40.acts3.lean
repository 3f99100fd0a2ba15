/-! setUp, lay, undo -/
theorem m_puts {M : VT} {a b c d : Int32} {K : VT → Prop} (h : ∀ M', (∀ q, q ≠ 0 → M' q = M q) → (∀ q, (q < 16 ∨ 19 < q) → M' 0 q = M 0 q) → hm M' = (a, b, c, d) → K M') : wp_X8_puts M a b c d K := by
  intro V1 e1 V2 e2 V3 e3 V4 e4
  refine h V4 (fun q hq => by rw [e4, up2_ne hq, e3, up2_ne hq, e2, up2_ne hq, e1, up2_ne hq]) (fun q hq => by rw [e4, up2_selfn (by omega), e3, up2_selfn (by omega), e2, up2_selfn (by omega), e1, up2_selfn (by omega)]) ?_
  simp only [hm, Prod.mk.injEq]
  refine ⟨?_, ?_, ?_, ?_⟩
  · rw [e4, up2_selfn (by decide), e3, up2_selfn (by decide), e2, up2_selfn (by decide), e1, up2_self]
  · rw [e4, up2_selfn (by decide), e3, up2_selfn (by decide), e2, up2_self]
  · rw [e4, up2_selfn (by decide), e3, up2_self]
  · rw [e4, up2_self]
theorem x_stand {X : VT} {k : Nat} {a b c : Int32} {K : VT → Prop} (h : ∀ X', fr X X' k → hp X' k = (a, b, c, 0) → K X') : wp_X2_stand X k a b c K := by
  intro V1 e1 V2 e2 V3 e3 V4 e4
  refine h V4 (by rw [e4, e3, e2, e1]; exact fr_up.up.up.up) ?_
  simp only [hp, Prod.mk.injEq]
  refine ⟨?_, ?_, ?_, ?_⟩
  · rw [e4, up2_selfn (by decide), e3, up2_selfn (by decide), e2, up2_selfn (by decide), e1, up2_self]
  · rw [e4, up2_selfn (by decide), e3, up2_selfn (by decide), e2, up2_self]
  · rw [e4, up2_selfn (by decide), e3, up2_self]
  · rw [e4, up2_self]
theorem q_setUp {X M : VT} (H : RR X M) (a b c0 : Int32) : wp_X7_setUp X a b c0 (fun r X' => wp_X8_setUp M a b c0 (EQ r X')) := by
  obtain ⟨hs, Y, T, h0⟩ := id H
  obtain ⟨hL, isl⟩ := id h0.2.2.1
  obtain ⟨⟨y1, y2, y3⟩, ⟨y4, y4'⟩, ⟨y5, y5'⟩, y6, y7, m8, y9, y10, hh, vv⟩ := id hL
  obtain ⟨nx, c, a1, a2, a3, a4, a5, a7, a6⟩ := id h0.2.2.2.1
  unfold wp_X7_setUp
  refine x_there y4 y1 ?_
  by_cases hY : 0 < Y
  · rw [if_pos hY]
    rw [if_pos hY] at isl
    obtain ⟨fv, hv⟩ := vv hY
    refine ⟨fun _ => ?_, fun c => absurd c (by decide)⟩
    rw [y4]
    have eneg : (0 : Int32) - M 5 2 = -M 5 2 := Int32.zero_sub _
    have five : (5 : Int32).toInt = 5 := rfl
    have m5 : (-5 : Int32).toInt = -5 := rfl
    have hneg := @i_neg (M 5 2) (by have := fv.1; omega)
    rcases in_or a 0 (nI Y - 1) with ⟨p1, p2⟩ | hp'
    · refine isOut_in p1 p2 ⟨fun c => absurd rfl c, fun _ => ?_⟩
      rcases in_or b 1 9 with ⟨q1, q2⟩ | hq
      · refine isOut_in q1 q2 ⟨fun c => absurd rfl c, fun _ => ?_⟩
        rw [y6, eneg]
        rcases in_or c0 (-M 5 2) (M 5 2) with ⟨r1, r2⟩ | hr
        · refine isOut_in r1 r2 ⟨fun _ => ?_, fun c => absurd rfl c⟩
          have s1 : ¬ c0 < -5 ∧ c0 ≤ 5 := by
            rw [i_lt, hneg] at r1
            rw [i_le] at r2
            rw [i_lt, i_le, five, m5]
            have := fv.2.1
            omega
          rw [show (0 : Int32) = nI 0 from rfl]
          refine s_keep a3 a4 a2 a1 (by decide) (fun X1 k => x_stand (fun X2 f2 g2 => ?_))
          obtain ⟨k1, k2, k3, k4, k5, k6, k7⟩ := id k
          unfold wp_X8_setUp
          rw [isl]
          refine ⟨fun _ => ⟨vin (by decide), in_in (lo := 0) (hi := M 5 0 - 1) rfl rfl p1 (by rw [y4']; exact p2) ⟨fun c => absurd c (by decide), fun _ => in_in (lo := 1) (hi := 9) rfl rfl q1 q2 ⟨fun c => absurd c (by decide), fun _ => in_in (lo := -5) (hi := 5) rfl rfl s1.1 s1.2 ⟨fun c => absurd c (by decide), fun _ => ⟨vin (by decide), vin (by decide), in_in (lo := -M 5 2) (hi := M 5 2) rfl rfl r1 r2 ⟨fun _ => m_notes a1 a5 (fun M1 n => m_puts (fun M2 f f0 g => ?_)), fun c => absurd c (by decide)⟩⟩⟩⟩⟩⟩, fun c => absurd c (by decide)⟩
          obtain ⟨n1, n2, n3, n4, n5, n6⟩ := id n
          have m15 : M1 5 = M 5 := n1 5 (by decide) (by decide)
          have xo : ∀ a, a ≠ 20 → X2 a = X1 a := fun a q => f2 a q
          have eqh : hp X2 20 = hm M2 := g2.trans g.symm
          simp only [hp, hm, Prod.mk.injEq] at eqh
          obtain ⟨e0, e1, e2, e3⟩ := eqh
          simp only [hm, Prod.mk.injEq] at g
          obtain ⟨g0, g1, g2', g3⟩ := g
          obtain ⟨j, hj, rfl⟩ := nI_in_lt (by omega) p1 p2
          refine ⟨by rw [n2 16 (by decide)]; exact hh 0 (by decide), by rw [xo 0 (by decide), k1 0 (by decide) (by decide) (by decide) (by decide) (by omega), f0 4 (by decide), n2 4 (by decide)]; exact hs, Y, T, h0.act (fun a q1 q2 => ?_) (fun a q => ?_) (fun b q1 q2 => by rw [f0 b (by omega), n2 b q2]) ⟨?_, ?_⟩ ?_⟩
          · simp only [List.mem_cons, List.not_mem_nil, or_false, not_or] at q1
            rw [xo a q1.2.2.2.2.2.2, k1 a q1.1 q1.2.1 q1.2.2.1 q1.2.2.2.1 (by omega)]
          · simp only [List.mem_cons, List.not_mem_nil, or_false, not_or] at q
            rw [f a q.1, n1 a q.1 q.2.2]
          · have e5 : M2 5 = M 5 := by rw [f 5 (by decide), m15]
            have x16 : X2 16 = X 16 := by rw [xo 16 (by decide), k1 16 (by decide) (by decide) (by decide) (by decide) (by omega)]
            have e20 : M2 0 20 = M 0 20 := by rw [f0 20 (by decide), n2 20 (by decide)]
            rw [e5]
            refine hL.hoop (by rw [xo _ (by decide)]; exact k1 17 (by decide) (by decide) (by decide) (by decide) (by omega)) (by rw [xo _ (by decide)]; exact k1 18 (by decide) (by decide) (by decide) (by decide) (by omega)) (by rw [xo _ (by decide)]; exact k1 19 (by decide) (by decide) (by decide) (by decide) (by omega)) (fun i _ _ => by rw [x16]) (by rw [x16, m8]; exact e20.symm) (fun i hi => ?_) (fun _ => ⟨?_, fun z => ?_, ?_⟩)
            · rcases (show i = 0 ∨ i = 1 ∨ i = 2 ∨ i = 3 by omega) with rfl | rfl | rfl | rfl
              · exact e0
              · exact e1
              · exact e2
              · exact e3
            · exact Or.inl g3
            · show 0 ≤ (M2 0 16).toInt ∧ (M2 0 16).toInt < Y ∧ 1 ≤ (M2 0 17).toInt ∧ (M2 0 17).toInt ≤ 9 ∧ -5 ≤ (M2 0 18).toInt ∧ (M2 0 18).toInt ≤ 5
              rw [g0, g1, g2', nI_toInt (by omega)]
              rw [i_lt, t1] at q1
              rw [i_le, t9] at q2
              have z1 := s1.1
              have z2 := s1.2
              rw [i_lt, m5] at z1
              rw [i_le, five] at z2
              omega
            · show 0 ≤ (M2 0 20).toInt ∧ (M2 0 20).toInt ≤ 999 ∧ 0 ≤ (M2 0 16).toInt ∧ (M2 0 16).toInt ≤ 24
              rw [e20, g0, nI_toInt (by omega)]; exact ⟨hv.2.2.1, hv.2.2.2.1, by omega, by omega⟩
          · rw [if_pos hY, f0 15 (by decide), n2 15 (by decide)]; exact isl
          · exact Ract.keep hL a1 a2 a6 hY k n (xo 5 (by decide)) (xo 7 (by decide)) (xo 8 (by decide)) (xo 9 (by decide)) (fun a _ _ => xo a (by omega)) (f 8 (by decide)) (f0 22 (by decide)) (fun i _ _ => by rw [f 5 (by decide), m15])
        · refine isOut_out hr ⟨fun c => absurd c (by decide), fun _ => ?_⟩
          unfold wp_X8_setUp
          rw [isl]
          refine ⟨fun _ => ⟨vin (by decide), in_in (lo := 0) (hi := M 5 0 - 1) rfl rfl p1 (by rw [y4']; exact p2) ⟨fun c => absurd c (by decide), fun _ => in_in (lo := 1) (hi := 9) rfl rfl q1 q2 ⟨fun c => absurd c (by decide), fun _ => m_in (lo := -5) (hi := 5) rfl rfl ?_⟩⟩⟩, fun c => absurd c (by decide)⟩
          have fin : wp_X8_in M c0.toInt64 (-M 5 2).toInt64 (M 5 2).toInt64 (fun r15 V14 => (¬ r15 = 0 → wp_X8_notes V14 (fun V17 => wp_X8_puts V17 a b c0 0 (fun V18 => EQ (-1000001) X (V17 0 16) V18))) ∧ (r15 = 0 → EQ (-1000001) X (-1000001) V14)) := in_out (lo := -M 5 2) (hi := M 5 2) rfl rfl hr ⟨fun c => absurd rfl c, fun _ => ⟨rfl, H⟩⟩
          have two : vp_in (2 : Int32) 38 := vin (by decide)
          split
          · exact ⟨fun _ => ⟨rfl, H⟩, fun c => absurd rfl c⟩
          · split
            · exact ⟨fun c => absurd c (by decide), fun _ => ⟨two, two, fin⟩⟩
            · exact ⟨fun _ => ⟨rfl, H⟩, fun c => absurd rfl c⟩
      · refine isOut_out hq ⟨fun _ => ?_, fun c => absurd c (by decide)⟩
        unfold wp_X8_setUp
        rw [isl]
        exact ⟨fun _ => ⟨vin (by decide), in_in (lo := 0) (hi := M 5 0 - 1) rfl rfl p1 (by rw [y4']; exact p2) ⟨fun c => absurd c (by decide), fun _ => in_out (lo := 1) (hi := 9) rfl rfl hq ⟨fun _ => ⟨rfl, H⟩, fun c => absurd rfl c⟩⟩⟩, fun c => absurd c (by decide)⟩
    · refine isOut_out hp' ⟨fun _ => ?_, fun c => absurd c (by decide)⟩
      unfold wp_X8_setUp
      rw [isl]
      exact ⟨fun _ => ⟨vin (by decide), in_out (lo := 0) (hi := M 5 0 - 1) rfl rfl (by rw [y4']; exact hp') ⟨fun _ => ⟨rfl, H⟩, fun c => absurd rfl c⟩⟩, fun c => absurd c (by decide)⟩
  · rw [if_neg hY]
    rw [if_neg hY] at isl
    refine ⟨fun c => absurd rfl c, fun _ => ?_⟩
    unfold wp_X8_setUp
    rw [isl]
    exact ⟨fun c => absurd rfl c, fun _ => ⟨rfl, H⟩⟩
theorem q_lay {X M : VT} (H : RR X M) (a b : Int32) : wp_X7_lay X a b (fun r X' => wp_X8_lay M a b (EQ r X')) := by
  obtain ⟨hs, Y, T, h0⟩ := id H
  obtain ⟨hL, isl⟩ := id h0.2.2.1
  obtain ⟨⟨y1, y2, y3⟩, ⟨y4, y4'⟩, ⟨y5, y5'⟩, y6, y7, m8, y9, y10, hh, vv⟩ := id hL
  obtain ⟨nx, c, a1, a2, a3, a4, a5, a7, a6⟩ := id h0.2.2.2.1
  unfold wp_X7_lay
  refine x_there y4 y1 ?_
  by_cases hY : 0 < Y
  · rw [if_pos hY]
    rw [if_pos hY] at isl
    obtain ⟨fv, hv⟩ := vv hY
    refine ⟨fun _ => ?_, fun c => absurd c (by decide)⟩
    rw [y4]
    have five : (5 : Int32).toInt = 5 := rfl
    rcases in_or a 0 (nI Y - 1) with ⟨p1, p2⟩ | hp'
    · refine isOut_in p1 p2 ⟨fun c => absurd rfl c, fun _ => ?_⟩
      rcases in_or b 0 5 with ⟨q1, q2⟩ | hq
      · refine isOut_in q1 q2 ⟨fun _ => ?_, fun c => absurd rfl c⟩
        obtain ⟨j, hj, rfl⟩ := nI_in_lt (by omega) p1 p2
        refine ⟨vpn (by omega) (by decide), s_keep a3 a4 a2 a1 (by omega) (fun X1 k => ⟨vpn (by omega) (by decide), ?_⟩)⟩
        rw [nI_c (by omega)]
        intro X2 x2
        obtain ⟨k1, k2, k3, k4, k5, k6, k7⟩ := id k
        unfold wp_X8_lay
        rw [isl]
        refine ⟨fun _ => ⟨vin (by decide), in_in (lo := 0) (hi := M 5 0 - 1) rfl rfl p1 (by rw [y4']; exact p2) ⟨fun c => absurd c (by decide), fun _ => in_in (lo := 0) (hi := 5) rfl rfl q1 q2 ⟨fun _ => m_notes a1 a5 (fun M1 n => ?_), fun c => absurd c (by decide)⟩⟩⟩, fun c => absurd c (by decide)⟩
        rw [show (4 : Int32) = nI 4 from rfl, nI_add]
        refine ⟨vpn (by omega) (by decide), vpn (by omega) (by decide), ?_⟩
        rw [nI_c (by omega)]
        intro M2 m2
        obtain ⟨n1, n2, n3, n4, n5, n6⟩ := id n
        have m15 : M1 5 = M 5 := n1 5 (by decide) (by decide)
        have xo : ∀ a, a ≠ 17 → X2 a = X1 a := fun a q => by rw [x2, up2_ne q]
        have mo : ∀ a, a ≠ 5 → M2 a = M1 a := fun a q => by rw [m2, up2_ne q]
        have x17 : X2 17 = up2 X 17 j b 17 := by
          funext z
          rw [x2]
          simp only [up2]
          rw [k1 17 (by decide) (by decide) (by decide) (by decide) (by omega)]
        have m25 : M2 5 = up2 M 5 (4 + j) b 5 := by
          funext z
          rw [m2]
          simp only [up2]
          rw [m15]
        refine ⟨by rw [m15]; exact y9 j hj, by rw [xo 0 (by decide), k1 0 (by decide) (by decide) (by decide) (by decide) (by omega), mo 0 (by decide), n2 4 (by decide)]; exact hs, Y, T, h0.act (fun a q1 q2 => ?_) (fun a q => ?_) (fun b q1 q2 => by rw [mo 0 (by decide), n2 b q2]) ⟨?_, ?_⟩ ?_⟩
        · simp only [List.mem_cons, List.not_mem_nil, or_false, not_or] at q1
          rw [xo a q1.2.2.2.2.2.1, k1 a q1.1 q1.2.1 q1.2.2.1 q1.2.2.2.1 (by omega)]
        · simp only [List.mem_cons, List.not_mem_nil, or_false, not_or] at q
          rw [mo a q.2.1, n1 a q.1 q.2.2]
        · have xk : ∀ a, a ≠ 17 → a ≠ 5 → a ≠ 7 → a ≠ 8 → a ≠ 9 → a < 52 → X2 a = X a := fun a q1 q2 q3 q4 q5 q6 => by rw [xo a q1, k1 a q2 q3 q4 q5 (by omega)]
          have mz : ∀ i, i < 5 → M2 0 (16 + i) = M 0 (16 + i) := fun i hi => by rw [mo 0 (by decide), n2 _ (by omega)]
          have f5 : ∀ i, i ≠ 4 + j → M2 5 i = M 5 i := fun i hi => by rw [m25, up2_selfn hi]
          rw [LR, xk 16 (by decide) (by decide) (by decide) (by decide) (by decide) (by decide), xk (16 + 2) (by decide) (by decide) (by decide) (by decide) (by decide) (by decide), xk (16 + 3) (by decide) (by decide) (by decide) (by decide) (by decide) (by decide), xk (16 + 4) (by decide) (by decide) (by decide) (by decide) (by decide) (by decide), f5 0 (by omega), f5 1 (by omega), f5 2 (by omega), f5 3 (by omega)]
          refine ⟨⟨y1, y2, y3⟩, ⟨y4, y4'⟩, ⟨y5, y5'⟩, y6, y7, by rw [m8]; exact (mz 4 (by decide)).symm, fun i hi => ?_, fun i hi => ?_, fun i hi => by rw [hh i hi]; exact (mz i (by omega)).symm, fun _ => ⟨?_, ?_⟩⟩
          · rw [show 16 + 1 = 17 from rfl, x17, m25]
            by_cases w : i = j
            · subst w; rw [up2_self, up2_self]
            · rw [up2_selfn w, up2_selfn (by omega)]; exact y9 i hi
          · rw [f5 _ (by omega), f5 _ (by omega)]; exact y10 i hi
          · obtain ⟨z1, z2, z3, z4, z5, z6⟩ := fv
            rw [FV, f5 2 (by omega), f5 3 (by omega)]
            refine ⟨z1, z2, z3, z4, fun i hi => ?_, fun i hi => ?_⟩
            · rw [m25]
              by_cases w : i = j
              · subst w
                rw [up2_self]
                rw [i_lt, t0] at q1
                rw [i_le, five] at q2
                omega
              · rw [up2_selfn (by omega)]; exact z5 i hi
            · rw [f5 _ (by omega), f5 _ (by omega)]; exact z6 i hi
          · obtain ⟨z1, z2, z3, z4⟩ := hv
            rw [HV, mz 0 (by decide), mz 1 (by decide), mz 2 (by decide), mz 3 (by decide), mz 4 (by decide)]
            exact ⟨z1, z2, z3, z4⟩
        · rw [if_pos hY, mo 0 (by decide), n2 15 (by decide)]; exact isl
        · exact Ract.keep hL a1 a2 a6 hj k n (xo 5 (by decide)) (xo 7 (by decide)) (xo 8 (by decide)) (xo 9 (by decide)) (fun a _ _ => xo a (by omega)) (mo 8 (by decide)) (by rw [mo 0 (by decide)]) (fun i _ w => by rw [m25, up2_selfn (by omega)])
      · refine isOut_out hq ⟨fun c => absurd c (by decide), fun _ => ?_⟩
        unfold wp_X8_lay
        rw [isl]
        exact ⟨fun _ => ⟨vin (by decide), in_in (lo := 0) (hi := M 5 0 - 1) rfl rfl p1 (by rw [y4']; exact p2) ⟨fun c => absurd c (by decide), fun _ => in_out (lo := 0) (hi := 5) rfl rfl hq ⟨fun c => absurd rfl c, fun _ => ⟨rfl, H⟩⟩⟩⟩, fun c => absurd c (by decide)⟩
    · refine isOut_out hp' ⟨fun _ => ?_, fun c => absurd c (by decide)⟩
      unfold wp_X8_lay
      rw [isl]
      exact ⟨fun _ => ⟨vin (by decide), in_out (lo := 0) (hi := M 5 0 - 1) rfl rfl (by rw [y4']; exact hp') ⟨fun _ => ⟨rfl, H⟩, fun c => absurd rfl c⟩⟩, fun c => absurd c (by decide)⟩
  · rw [if_neg hY]
    rw [if_neg hY] at isl
    refine ⟨fun c => absurd rfl c, fun _ => ?_⟩
    unfold wp_X8_lay
    rw [isl]
    exact ⟨fun c => absurd rfl c, fun _ => ⟨rfl, H⟩⟩
theorem m_undo_L {c : Nat} {K : Int32 → VT → Prop} (hc : c < 24) : ∀ (m k : Nat) (V : VT), k + m = 24 →
    (∀ V' : VT, fr V V' 5 → (∀ q, k ≤ q → q < 24 → V' 5 (4 + q) = V 8 (29 * c + 5 + q)) → (∀ p, (p < 4 + k ∨ 28 ≤ p) → V' 5 p = V 5 p) → K (V' 0 22) V') → wp_X8_undo_L76 K (m + 1) V (nI (29 * c)) (nI k) := by
  intro m
  induction m with
  | zero =>
    intro k V hk h
    exact ⟨fun _ => h V fr_rf (fun q h1 h2 => by omega) (fun _ _ => rfl), fun q => absurd (nI_le (a := 24) (b := k) (by omega) (by omega)) q⟩
  | succ m ih =>
    intro k V hk h
    refine ⟨fun q => absurd q (nI_ge (a := k) (b := 24) (by omega) (by decide)), fun _ => ?_⟩
    rw [show (4 : Int32) = nI 4 from rfl, show (5 : Int32) = nI 5 from rfl, nI_add, nI_add, nI_add, nI_1]
    refine ⟨vpn (by omega) (by decide), vpn (by omega) (by decide), ?_⟩
    intro V3 e3
    rw [nI_c (by omega), nI_c (by omega)] at e3
    refine ih (k + 1) V3 (by omega) (fun V' f1 f2 f3 => h V' (by rw [e3] at f1; exact fr_up.tr f1) (fun q h1 h2 => ?_) (fun p hp => ?_))
    · rcases Nat.lt_or_ge k q with z | z
      · rw [f2 q (by omega) h2, e3, up2_ne (by decide)]
      · have : q = k := by omega
        subst this
        rw [f3 _ (by omega), e3, up2_self]
    · rw [f3 p (by omega), e3, up2_selfn (by omega)]
theorem q_undo {X M : VT} (H : RR X M) : wp_X7_undo X (fun r X' => wp_X8_undo M (EQ r X')) := by
  obtain ⟨hs, Y, T, h0⟩ := id H
  obtain ⟨hL, isl⟩ := id h0.2.2.1
  obtain ⟨⟨y1, y2, y3⟩, ⟨y4, y4'⟩, ⟨y5, y5'⟩, y6, y7, m8, y9, y10, hh, vv⟩ := id hL
  obtain ⟨nx, c, a1, a2, a3, a4, a5, a7, a6⟩ := id h0.2.2.2.1
  unfold wp_X7_undo
  rw [a4]
  have cz : nI c = 0 ↔ c = 0 := nI_eq (b := 0) (by omega) (by decide)
  rw [cz]
  refine ⟨fun hc => ?_, fun hc => ?_⟩
  · have hY : 0 < Y := by
      rcases Nat.eq_zero_or_pos Y with q | q
      · exact absurd (a7 q) hc
      · exact q
    obtain ⟨fv, hv⟩ := vv hY
    unfold wp_X0_takeBack
    intro X1 e1 X2 e2
    have ep : actP nx c (c - 1) = (nx + 23) % 24 := by unfold actP; omega
    have hp24 : (nx + 23) % 24 < 24 := Nat.mod_lt _ (by decide)
    generalize hpp : (nx + 23) % 24 = pp at ep hp24
    have e1' : X1 = up2 X 5 4 (nI pp) := by
      rw [e1, a3, show (24 : Int32) = nI 24 from rfl, nI_add, nI_m1 (by omega), pk_rem (by omega) (by decide) (by decide), show nx + 24 - 1 = nx + 23 by omega, hpp]
    have b5 : X1 5 5 = nI c := by rw [e1', up2_selfn (by decide), a4]
    rw [b5, nI_m1 (by omega)] at e2
    have b4 : X2 5 4 = nI pp := by rw [e2, up2_selfn (by decide), e1', up2_self]
    have b55 : X2 5 5 = nI (c - 1) := by rw [e2, up2_self]
    have o2 : ∀ a, a ≠ 5 → X2 a = X a := fun a q => by rw [e2, up2_ne q, e1', up2_ne q]
    have act := a6 (c - 1) (by omega)
    unfold Ract1 at act
    rw [ep] at act
    obtain ⟨r1, r2, r3, ⟨y, r4, r5, r6⟩, r7⟩ := act
    rw [b4]
    refine ⟨vpn hp24 (by decide), ?_⟩
    rw [nI_c (by omega)]
    refine s_be (by omega) (fun X3 f3 g3 => ?_)
    have c4 : X3 5 4 = nI pp := by rw [f3 5 (by decide), b4]
    rw [c4]
    refine ⟨vpn hp24 (by decide), ?_⟩
    rw [nI_c (by omega)]
    intro X4 e4
    have d4 : X4 5 4 = nI pp := by rw [e4, up2_ne (by decide), c4]
    have d8 : X4 8 pp = nI y := by rw [e4, up2_ne (by decide), f3 8 (by decide), o2 8 (by decide), r5]
    rw [d4]
    refine ⟨vpn hp24 (by decide), vpn hp24 (by decide), ?_⟩
    rw [nI_c (by omega), d8]
    refine ⟨vpn (by omega) (by decide), ?_⟩
    rw [nI_c (by omega)]
    intro X5 e5
    have x55 : X5 5 = X2 5 := by rw [e5, up2_ne (by decide), e4, up2_ne (by decide), f3 5 (by decide)]
    have xo : ∀ a, a ≠ 5 → a ≠ 16 → a ≠ 17 → a ≠ 20 → X5 a = X a := fun a q1 q2 q3 q4 => by rw [e5, up2_ne (by omega), e4, up2_ne q2, f3 a (by omega), o2 a q1]
    have x17 : X5 17 = up2 X 17 y (X 9 pp) 17 := by
      funext z
      rw [e5]
      simp only [up2]
      rw [show X4 9 = X 9 by rw [e4, up2_ne (by decide), f3 9 (by decide), o2 9 (by decide)], show X4 17 = X 17 by rw [e4, up2_ne (by decide), f3 17 (by decide), o2 17 (by decide)]]
    have x16 : ∀ i, i ≠ 8 → X5 16 i = X 16 i := fun i q => by rw [e5, up2_ne (by decide), e4, up2_selfn q, f3 16 (by decide), o2 16 (by decide)]
    have x168 : X5 16 8 = M 8 (29 * (c - 1) + 4) := by
      rw [e5, up2_ne (by decide), e4, up2_self, f3 7 (by decide), o2 7 (by decide), r2]
    have x20 : ∀ i, i < 4 → X5 20 i = M 8 (29 * (c - 1) + i) := fun i hi => by
      rw [e5, up2_ne (by decide), e4, up2_ne (by decide), show (20 : Nat) = 16 + 4 from rfl, g3 i hi, o2 _ (by omega), r1 i hi]
    unfold wp_X8_undo
    rw [a5, cz]
    refine ⟨fun _ => ?_, fun q => absurd q hc⟩
    intro M1 m1
    rw [nI_m1 (by omega)] at m1
    have w22 : M1 0 22 = nI (c - 1) := by rw [m1, up2_self]
    rw [w22, show (29 : Int32) = nI 29 from rfl, pk_mul, nI_1, show (2 : Int32) = nI 2 from rfl, show (3 : Int32) = nI 3 from rfl, show (4 : Int32) = nI 4 from rfl, nI_add, nI_add, nI_add]
    refine ⟨vpn (by omega) (by decide), vpn (by omega) (by decide), vpn (by omega) (by decide), vpn (by omega) (by decide), m_puts (fun M2 f2 f20 g2 => ⟨vpn (by omega) (by decide), ?_⟩)⟩
    rw [nI_c (by omega)]
    intro M3 m3
    refine ⟨25, m_undo_L (by omega) 24 0 M3 rfl (fun M4 f4 g4 g4' => ?_)⟩
    have z8 : M3 8 = M 8 := by rw [m3, up2_ne (by decide), f2 8 (by decide), m1, up2_ne (by decide)]
    have mo : ∀ a, a ≠ 0 → a ≠ 5 → M4 a = M a := fun a q1 q2 => by rw [f4 a q2, m3, up2_ne q1, f2 a q1, m1, up2_ne q1]
    have m40 : ∀ b, b ≠ 20 → M4 0 b = M2 0 b := fun b q => by rw [f4 0 (by decide), m3, up2_selfn q]
    have m420 : M4 0 20 = M 8 (29 * (c - 1) + 4) := by rw [f4 0 (by decide), m3, up2_self, f2 8 (by decide), m1, up2_ne (by decide)]
    have m4b : ∀ b, (b < 16 ∨ 20 < b) → b ≠ 22 → M4 0 b = M 0 b := fun b q1 q2 => by rw [m40 b (by omega), f20 b (by omega), m1, up2_selfn q2]
    have m422 : M4 0 22 = nI (c - 1) := by rw [m40 22 (by decide), f20 22 (by decide), w22]
    have m45lo : ∀ b, (b < 4 ∨ 28 ≤ b) → M4 5 b = M 5 b := fun b q => by rw [g4' b (by omega), m3, up2_ne (by decide), f2 5 (by decide), m1, up2_ne (by decide)]
    have m45 : ∀ i, i < 24 → M4 5 (4 + i) = M 8 (29 * (c - 1) + 5 + i) := fun i hi => by rw [g4 i (by omega) hi, z8]
    simp only [hm, Prod.mk.injEq] at g2
    rw [m1, up2_ne (show (8 : Nat) ≠ 0 by decide)] at g2
    rw [nI_c (by omega), nI_c (by omega), nI_c (by omega), nI_c (by omega)] at g2
    have mh : ∀ i, i < 5 → M4 0 (16 + i) = M 8 (29 * (c - 1) + i) := fun i hi => by
      rcases (show i = 0 ∨ i = 1 ∨ i = 2 ∨ i = 3 ∨ i = 4 by omega) with rfl | rfl | rfl | rfl | rfl
      · rw [m40 _ (by decide)]; exact g2.1
      · rw [m40 _ (by decide)]; exact g2.2.1
      · rw [m40 _ (by decide)]; exact g2.2.2.1
      · rw [m40 _ (by decide)]; exact g2.2.2.2
      · exact m420
    refine ⟨by rw [x55, b55, m422], by rw [xo 0 (by decide) (by decide) (by decide) (by decide), m4b 4 (by decide) (by decide)]; exact hs, Y, T, h0.act (fun a q1 q2 => ?_) (fun a q => ?_) m4b ⟨?_, ?_⟩ ?_⟩
    · simp only [List.mem_cons, List.not_mem_nil, or_false, not_or] at q1
      exact xo a q1.1 q1.2.2.2.2.1 q1.2.2.2.2.2.1 q1.2.2.2.2.2.2
    · simp only [List.mem_cons, List.not_mem_nil, or_false, not_or] at q
      exact mo a q.1 q.2.1
    · rw [LR, x16 4 (by decide), x16 5 (by decide), x16 6 (by decide), x16 7 (by decide), x168, xo (16 + 2) (by decide) (by decide) (by decide) (by decide), xo (16 + 3) (by decide) (by decide) (by decide) (by decide), m45lo 0 (by omega), m45lo 1 (by omega), m45lo 2 (by omega), m45lo 3 (by omega)]
      refine ⟨⟨y1, y2, y3⟩, ⟨y4, y4'⟩, ⟨y5, y5'⟩, y6, y7, (mh 4 (by decide)).symm, fun i hi => ?_, fun i hi => ?_, fun i hi => ?_, fun _ => ⟨?_, ?_⟩⟩
      · rw [show 16 + 1 = 17 from rfl, x17, m45 i (by omega), r6 i hi]
        by_cases w : i = y
        · subst w; rw [up2_self, if_pos rfl]
        · rw [up2_selfn w, if_neg w]
          unfold gAft
          rw [if_neg (by omega)]
          exact y9 i hi
      · rw [m45lo _ (by omega), m45lo _ (by omega)]; exact y10 i hi
      · rw [show 16 + 4 = 20 from rfl, x20 i hi]; exact (mh i (by omega)).symm
      · obtain ⟨z1, z2, z3, z4, z5, z6⟩ := fv
        rw [FV, m45lo 2 (by omega), m45lo 3 (by omega)]
        refine ⟨z1, z2, z3, z4, fun i hi => ?_, fun i hi => ?_⟩
        · rw [m45 i (by omega)]; exact r7 i hi
        · rw [m45lo _ (by omega), m45lo _ (by omega)]; exact z6 i hi
      · obtain ⟨z1, z2, z3, z4⟩ := r3
        rw [HV, mh 0 (by decide), mh 1 (by decide), mh 2 (by decide), mh 3 (by decide), mh 4 (by decide)]
        exact ⟨z1, z2, z3, z4⟩
    · rw [m4b 15 (by decide) (by decide)]; exact isl
    · refine ⟨pp, c - 1, by omega, hp24, by rw [x55, b4], by rw [x55, b55], m422, fun q => by omega, fun j hj => ?_⟩
      have ej : actP pp (c - 1) j = actP nx c j := by unfold actP; omega
      have hlt : actP nx c j < 24 := Nat.mod_lt _ (by decide)
      have := a6 j (by omega)
      unfold Ract1 at this ⊢
      rw [ej, xo (52 + actP nx c j) (by omega) (by omega) (by omega) (by omega), xo 7 (by decide) (by decide) (by decide) (by decide), xo 8 (by decide) (by decide) (by decide) (by decide), xo 9 (by decide) (by decide) (by decide) (by decide), mo 8 (by decide) (by decide)]
      obtain ⟨s1, s2, s3, ⟨yy, s4, s5, s6⟩, s7⟩ := this
      refine ⟨s1, s2, s3, ⟨yy, s4, s5, fun i hi => ?_⟩, s7⟩
      rw [s6 i hi]
      have : gAft M4 (c - 1) (j + 1) i = gAft M c (j + 1) i := by
        unfold gAft
        rw [mo 8 (by decide) (by decide)]
        by_cases w : j + 1 < c - 1
        · rw [if_pos w, if_pos (by omega)]
        · rw [if_neg w, if_pos (by omega), m45 i (by omega)]
          congr 1
          omega
      rw [this]
  · unfold wp_X8_undo
    rw [a5, cz]
    exact ⟨fun q => absurd hc q, fun _ => ⟨rfl, H⟩⟩
