/-! restore -/
theorem m_rest_L {b : Nat} {K : Int32 → VT → Prop} (hb : b + 44 ≤ 88) : ∀ (m k : Nat) (V : VT), k + m = 38 →
    (∀ V' : VT, fr V V' 5 → (∀ q, k ≤ q → q < 38 → V' 5 q = V 11 (b + 6 + q)) → (∀ p, p < k → V' 5 p = V 5 p) → K 1 (up2 V' 0 22 0)) → wp_X8_restore_L80 K (m + 1) V (nI b) (nI k) := by
  intro m
  induction m with
  | zero =>
    intro k V hk h
    exact ⟨fun _ => fun V1 e1 => by subst e1; exact h V fr_rf (fun q h1 h2 => by omega) (fun _ _ => rfl), fun q => absurd (nI_le (a := 38) (b := k) (by omega) (by omega)) q⟩
  | succ m ih =>
    intro k V hk h
    refine ⟨fun q => absurd q (nI_ge (a := k) (b := 38) (by omega) (by decide)), fun _ => ?_⟩
    rw [show (6 : Int32) = nI 6 from rfl, nI_add, nI_add, nI_1]
    refine ⟨vpn (by omega) (by decide), vpn (by omega) (by decide), ?_⟩
    intro V3 e3
    rw [nI_c (by omega), nI_c (by omega)] at e3
    refine ih (k + 1) V3 (by omega) (fun V' f1 f2 f3 => h V' (by rw [e3] at f1; exact fr_up.tr f1) (fun q h1 h2 => ?_) (fun p hp => ?_))
    · rcases Nat.lt_or_ge k q with z | z
      · rw [f2 q (by omega) h2, e3, up2_ne (by decide)]
      · have : q = k := by omega
        subst this
        rw [f3 _ (by omega), e3, up2_self]
    · rw [f3 p (by omega), e3, up2_selfn (by omega)]
theorem q_restore {X M : VT} (H : RR X M) (a : Int32) : wp_X7_restore X a (fun r X' => wp_X8_restore M a (EQ r X')) := by
  obtain ⟨hs, Y, T, h0⟩ := id H
  obtain ⟨h1, h2, h3, h4, h5, h6, h7⟩ := id h0
  unfold wp_X7_restore
  rcases in_or a 0 1 with ⟨p1, p2⟩ | hp'
  · obtain ⟨k, hk, rfl⟩ := nI_in_of (n := 1) rfl p1 p2
    have ck : (nI k).toNatClampNeg = k := nI_c (by omega)
    obtain ⟨Y2, T2, hL, img, is1⟩ := h5 k (by omega)
    have e44 : (44 : Int32) * nI k = nI (44 * k) := by rw [show (44 : Int32) = nI 44 from rfl, pk_mul]
    have hd : ∀ {K : Int32 → VT → Prop}, (M 11 (44 * k) = 1 → wp_X8_puts M (M 11 (44 * k + 1)) (M 11 (44 * k + 2)) (M 11 (44 * k + 3)) (M 11 (44 * k + 4)) (fun V10 => ∀ V12 : VT, V12 = up2 V10 0 20 (V10 11 (44 * k + 5)) → ∃ n80 : Nat, wp_X8_restore_L80 K n80 V12 (nI (44 * k)) 0)) → (M 11 (44 * k) = 0 → K (-1000002) M) → (M 11 (44 * k) = 1 ∨ M 11 (44 * k) = 0) → wp_X8_restore M (nI k) K := by
      intro K A B C
      unfold wp_X8_restore
      refine in_in (lo := 0) (hi := 1) rfl rfl p1 p2 ⟨fun _ => ?_, fun c => absurd c (by decide)⟩
      rw [e44, show (2 : Int32) = nI 2 from rfl, show (3 : Int32) = nI 3 from rfl, show (4 : Int32) = nI 4 from rfl, show (5 : Int32) = nI 5 from rfl, nI_add, nI_add, nI_add, nI_add, nI_1, nI_c (by omega), nI_c (by omega), nI_c (by omega), nI_c (by omega), nI_c (by omega), nI_c (by omega)]
      refine ⟨vpn (by omega) (by decide), fun c => ⟨vpn (by omega) (by decide), vpn (by omega) (by decide), vpn (by omega) (by decide), vpn (by omega) (by decide), ?_⟩, fun c => B c⟩
      have A' := A (C.resolve_right c)
      unfold wp_X8_puts at A' ⊢
      exact fun V1 u1 V2 u2 V3 u3 V4 u4 => ⟨vpn (by omega) (by decide), A' V1 u1 V2 u2 V3 u3 V4 u4⟩
    refine isOut_in p1 p2 ⟨fun _ => ⟨vpn (by omega) (by decide), ?_⟩, fun c => absurd rfl c⟩
    rw [ck]
    refine x_there hL.2.1.1 hL.1.1 ?_
    by_cases hY : 0 < Y2
    · rw [if_pos hY] at img ⊢
      refine ⟨fun _ => ⟨vpn (by omega) (by decide), s_lbe (by omega) (fun X1 f1 x1 x2 x3 x4 x0 X2 e2 => ?_)⟩, fun c => absurd c (by decide)⟩
      refine hd (fun _ => m_puts (fun M1 g1 g2 g3 M2 m2 => ⟨39, m_rest_L (b := 44 * k) (by omega) 38 0 M2 rfl (fun M3 r1 r2 r3 => ?_)⟩)) (fun c => absurd (img.symm.trans c) (by decide)) (Or.inl img)
      have mo : ∀ b, b ≠ 0 → b ≠ 5 → up2 M3 0 22 0 b = M b := fun b u1 u2 => by rw [up2_ne u1, r1 b u2, m2, up2_ne u1, g1 b u1]
      have m5 : ∀ i, i < 38 → up2 M3 0 22 0 5 i = M 11 (44 * k + 6 + i) := fun i hi => by rw [up2_ne (by decide), r2 i (by omega) hi, m2, up2_ne (by decide), g1 11 (by decide)]
      have n0 : ∀ b, (b < 16 ∨ 20 < b) → b ≠ 22 → up2 M3 0 22 0 0 b = M 0 b := fun b u1 u2 => by rw [up2_selfn u2, r1 0 (by decide), m2, up2_selfn (by omega), g2 b (by omega)]
      have n22 : up2 M3 0 22 0 0 22 = 0 := up2_self
      simp only [hm, Prod.mk.injEq] at g3
      have nh : ∀ i, i < 5 → up2 M3 0 22 0 0 (16 + i) = M 11 (44 * k + 1 + i) := by
        intro i hi
        rw [up2_selfn (by omega), r1 0 (by decide), m2]
        rcases (show i = 0 ∨ i = 1 ∨ i = 2 ∨ i = 3 ∨ i = 4 by omega) with rfl | rfl | rfl | rfl | rfl
        · rw [up2_selfn (by decide)]; exact g3.1
        · rw [up2_selfn (by decide)]; exact g3.2.1
        · rw [up2_selfn (by decide)]; exact g3.2.2.1
        · rw [up2_selfn (by decide)]; exact g3.2.2.2
        · rw [up2_self, g1 11 (by decide)]
      have nx : ∀ b, b ≠ 5 → (b < 16 ∨ 21 ≤ b) → X2 b = X b := fun b u1 u2 => by rw [e2, up2_ne u1, f1 b (by omega)]
      have x5 : ∀ i, i ≠ 5 → X2 5 i = X 5 i := fun i hi => by rw [e2, up2_selfn hi, f1 5 (by decide)]
      have xl : ∀ b, b ≠ 5 → X2 b = X1 b := fun b hb => by rw [e2, up2_ne hb]
      have hL' : LR X2 16 (up2 M3 0 22 0 5) (fun i => up2 M3 0 22 0 0 (16 + i)) Y2 T2 := hL.mv (fun i u1 u2 => by rw [xl 16 (by decide)]; exact x0 i u1 u2) (fun i hi => by rw [xl _ (by decide)]; exact x1 i hi) (fun i hi => by rw [xl _ (by decide)]; exact x2 i hi) (fun i hi => by rw [xl _ (by decide)]; exact x3 i hi) (fun i hi => by rw [xl _ (by decide)]; exact x4 i hi) m5 nh
      have i15 : up2 M3 0 22 0 0 15 = M 0 15 := n0 15 (by decide) (by decide)
      refine ⟨rfl, by rw [nx 0 (by decide) (by decide), n0 4 (by decide) (by decide)]; exact hs, Y2, T2, h1.cg (fun b _ _ => nx b (by omega) (by omega)) (mo 1 (by decide) (by decide)) (mo 2 (by decide) (by decide)) (mo 3 (by decide) (by decide)), h2.cg (congrFun (nx 3 (by decide) (by decide)) 1) (nx 4 (by decide) (by decide)) (n0 8 (by decide) (by decide)) (mo 7 (by decide) (by decide)), ⟨hL', ?_⟩, ?_, h5.cg (fun b _ _ => nx b (by omega) (by omega)) (mo 11 (by decide) (by decide)) i15, h6.cg (congrFun (nx 13 (by decide) (by decide)) 1) (nx 14 (by decide) (by decide)) (n0 32 (by decide) (by decide)) (mo 12 (by decide) (by decide)), by rw [nx 0 (by decide) (by decide), n0 12 (by decide) (by decide)]; exact h7⟩
      · rw [i15, if_pos hY]; exact is1 hY
      · obtain ⟨nn, cc, v1, v2, v3, v4, v5, -⟩ := h4
        exact ⟨nn, 0, by decide, v2, by rw [x5 4 (by decide)]; exact v3, by rw [e2, up2_self]; rfl, n22, fun _ => rfl, fun j hj => absurd hj (Nat.not_lt_zero j)⟩
    · rw [if_neg hY] at img ⊢
      exact ⟨fun c => absurd rfl c, fun _ => hd (fun c => absurd (img.symm.trans c) (by decide)) (fun _ => ⟨rfl, H⟩) (Or.inr img)⟩
  · refine isOut_out hp' ⟨fun c => absurd c (by decide), fun _ => ?_⟩
    unfold wp_X8_restore
    exact in_out (lo := 0) (hi := 1) rfl rfl hp' ⟨fun c => absurd rfl c, fun _ => ⟨rfl, H⟩⟩
