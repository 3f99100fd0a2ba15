/-! copy -/
theorem m_isPartF {X M : VT} {r : Nat} {i n : Int32} {K : Int32 → VT → Prop} (H : Rrow X M) (hr : r < 8) (hn : M 1 r ≠ -1) (h1 : FA M r i n = 0 → K 1 M) (h2 : FA M r i n = 2 → K 0 M) : wp_X8_isPart M (nI r) i n K := by
  obtain ⟨o1, o2, o3⟩ := H r hr
  obtain ⟨c1, ⟨s0, c2, c3⟩, c4⟩ := o3 hn
  refine m_isPart hr c2 c3 ?_
  unfold FA at h1 h2
  rw [if_neg hn] at h1 h2
  by_cases d : i < 0
  · rw [if_pos d] at h2 ⊢; exact h2 rfl
  · rw [if_neg d] at h1 h2 ⊢
    by_cases e : n < 0
    · rw [if_pos e] at h2 ⊢; exact h2 rfl
    · rw [if_neg e] at h1 h2 ⊢
      by_cases f : i ≤ M 2 r - n
      · rw [if_pos f] at h1 ⊢; exact h1 rfl
      · rw [if_neg f] at h2 ⊢; exact h2 rfl
theorem FA_n1 {M : VT} {r : Nat} {i n : Int32} (h : M 1 r ≠ -1) : FA M r i n = 0 ∨ FA M r i n = 2 := by
  unfold FA
  rw [if_neg h]
  split
  · exact Or.inr rfl
  · split
    · exact Or.inr rfl
    · split
      · exact Or.inl rfl
      · exact Or.inr rfl
theorem m_cp1 {r i0 n0 : Nat} {x3 x4 : Int32} {K : Int32 → VT → Prop} (hr : r < 8) (hi : i0 + n0 ≤ 40) : ∀ (m k : Nat) (V : VT), k + m = n0 →
    (∀ V' : VT, fr V V' 4 → (∀ q, k ≤ q → q < n0 → V' 4 q = V 3 (40 * r + i0 + q)) → (∀ q, q < k → V' 4 q = V 4 q) → ∃ n131 : Nat, wp_X8_copy_L131 K n131 V' x3 x4 (nI n0) 0) → wp_X8_copy_L94 K (m + 1) V (nI r) (nI i0) x3 x4 (nI n0) (nI k) := by
  intro m
  induction m with
  | zero =>
    intro k V hk h
    exact ⟨fun _ => h V fr_rf (fun q h1 h2 => by omega) (fun _ _ => rfl), fun c => absurd (nI_le (by omega) (by omega)) c⟩
  | succ m ih =>
    intro k V hk h
    refine ⟨fun c => absurd c (nI_ge (by omega) (by omega)), fun _ => ?_⟩
    rw [show (40 : Int32) = nI 40 from rfl, nI_ix, nI_add, nI_1]
    refine ⟨vpn (by omega) (by decide), vpn (by omega) (by decide), ?_⟩
    intro V3 e3
    rw [nI_c (by omega), nI_c (by omega)] at e3
    refine ih (k + 1) V3 (by omega) (fun V' f1 f2 f3 => h V' (by rw [e3] at f1; exact fr_up.tr f1) (fun q h1 h2 => ?_) (fun q hq => ?_))
    · rcases Nat.lt_or_ge k q with z | z
      · rw [f2 q (by omega) h2, e3, up2_ne (by decide)]
      · have : q = k := by omega
        subst this
        rw [f3 q (by omega), e3, up2_self]
    · rw [f3 q (by omega), e3, up2_selfn (by omega)]
theorem m_cp2 {r j0 n0 : Nat} {K : Int32 → VT → Prop} (hr : r < 8) (hi : j0 + n0 ≤ 40) : ∀ (m k : Nat) (V : VT), k + m = n0 →
    (∀ V' : VT, fr V V' 3 → (∀ q, k ≤ q → q < n0 → V' 3 (40 * r + j0 + q) = V 4 q) → (∀ p, (p < 40 * r + j0 + k ∨ 40 * r + j0 + n0 ≤ p) → V' 3 p = V 3 p) → K (nI n0) (up2 V' 0 4 0)) → wp_X8_copy_L131 K (m + 1) V (nI r) (nI j0) (nI n0) (nI k) := by
  intro m
  induction m with
  | zero =>
    intro k V hk h
    exact ⟨fun _ => fun V1 e1 => by subst e1; exact h V fr_rf (fun q h1 h2 => by omega) (fun _ _ => rfl), fun c => absurd (nI_le (by omega) (by omega)) c⟩
  | succ m ih =>
    intro k V hk h
    refine ⟨fun c => absurd c (nI_ge (by omega) (by omega)), fun _ => ?_⟩
    rw [show (40 : Int32) = nI 40 from rfl, nI_ix, nI_add, nI_1]
    refine ⟨vpn (by omega) (by decide), vpn (by omega) (by decide), ?_⟩
    intro V3 e3
    rw [nI_c (by omega), nI_c (by omega)] at e3
    refine ih (k + 1) V3 (by omega) (fun V' f1 f2 f3 => h V' (by rw [e3] at f1; exact fr_up.tr f1) (fun q h1 h2 => ?_) (fun p hp => ?_))
    · rcases Nat.lt_or_ge k q with z | z
      · rw [f2 q (by omega) h2, e3, up2_ne (by decide)]
      · have : q = k := by omega
        subst this
        rw [f3 _ (by omega), e3, up2_self]
    · rw [f3 p (by omega), e3, up2_selfn (by omega)]
theorem q_copy {X M : VT} (H : RR X M) (a i b j n : Int32) : wp_X7_copy X a i b j n (fun r X' => wp_X8_copy M a i b j n (EQ r X')) := by
  obtain ⟨hs, Y, T, h0⟩ := id H
  unfold wp_X7_copy
  rcases in_or a 0 7 with ⟨a1, a2⟩ | ha
  · refine isOut_in a1 a2 ⟨fun c => absurd rfl c, fun _ => ?_⟩
    rcases in_or b 0 7 with ⟨b1, b2⟩ | hb
    · refine isOut_in b1 b2 ⟨fun _ => ?_, fun c => absurd rfl c⟩
      obtain ⟨r, hr, rfl⟩ := nI_in_of (n := 7) rfl a1 a2
      obtain ⟨r2, hr2, rfl⟩ := nI_in_of (n := 7) rfl b1 b2
      refine ⟨vpn (by omega) (by decide), vpn (by omega) (by decide), ?_⟩
      have cr : (nI r).toNatClampNeg = r := nI_c (by omega)
      have cr2 : (nI r2).toNatClampNeg = r2 := nI_c (by omega)
      rw [cr, cr2]
      obtain ⟨o1, o2, o3⟩ := h0.1 r (by omega)
      obtain ⟨p1, p2, p3⟩ := h0.1 r2 (by omega)
      refine x_missing ?_
      rw [o1]
      have head : ∀ {K : Int32 → VT → Prop}, (vp_in (nI r) 8 ∧ ((M 1 r < 0 → wp_X8_copy_b35 K M) ∧ (¬ M 1 r < 0 → vp_in (nI r2) 8 ∧ ((0 ≤ M 1 r2 → vp_in (nI r) 8 ∧ vp_in (nI r2) 8 ∧ ((M 1 r = M 1 r2 → wp_X8_isPart M (nI r) i n (fun r15 V14 => (r15 = 0 → wp_X8_copy_b85 K V14) ∧ (¬ r15 = 0 → wp_X8_isPart V14 (nI r2) j n (fun r18 V17 => (¬ r18 = 0 → ∃ n94 : Nat, wp_X8_copy_L94 K n94 V17 (nI r) i (nI r2) j n 0) ∧ (r18 = 0 → wp_X8_copy_b85 K V17))))) ∧ (¬ M 1 r = M 1 r2 → wp_X8_finds M 5 (fun r21 V20 => K r21 V20)))) ∧ (¬ 0 ≤ M 1 r2 → wp_X8_copy_b35 K M))))) → wp_X8_copy M (nI r) i (nI r2) j n K := by
        intro K hh
        unfold wp_X8_copy
        refine isRow_in a1 a2 ⟨fun q => absurd q (by decide), fun _ => isRow_in b1 b2 ⟨fun _ => ?_, fun q => absurd q (by decide)⟩⟩
        rw [cr, cr2]
        exact hh
      have lo : ∀ v : Int32, (v = -1 ∨ v = 0 ∨ v = 1 ∨ v = 2) → (v < 0 ↔ v = -1) := by
        rintro v (rfl | rfl | rfl | rfl) <;> decide
      by_cases d : M 1 r = -1
      · rw [if_pos d]
        refine ⟨fun _ => q_found H _ (fun X1 hR => head ⟨vpn (by omega) (by decide), fun _ => ?_, fun q => absurd ((lo _ o2).mpr d) q⟩), fun q => absurd q (by decide)⟩
        intro M1 m1; subst m1
        exact ⟨rfl, hR⟩
      · rw [if_neg d]
        refine ⟨fun q => absurd rfl q, fun _ => x_missing ?_⟩
        rw [p1]
        by_cases d2 : M 1 r2 = -1
        · rw [if_pos d2]
          refine ⟨fun q => absurd q (by decide), fun _ => q_found H _ (fun X1 hR => head ⟨vpn (by omega) (by decide), fun q => absurd ((lo _ o2).mp q) d, fun _ => ⟨vpn (by omega) (by decide), fun q => absurd d2 ((lane_neg p2).mp q), fun _ => ?_⟩⟩)⟩
          intro M1 m1; subst m1
          exact ⟨rfl, hR⟩
        · rw [if_neg d2]
          refine ⟨fun _ => ?_, fun q => absurd rfl q⟩
          refine ⟨fun e => ?_, fun e => ?_⟩
          · rw [o1] at e
            refine x_find h0.1 (by omega) ⟨fun f => ?_, fun f => x_find h0.1 (by omega) ⟨fun f2 => ?_, fun f2 => ?_⟩⟩
            · have f0 : FA M r i n = 2 := (FA_n1 d).resolve_left f
              refine q_found H _ (fun X1 hR => head ⟨vpn (by omega) (by decide), fun q => absurd ((lo _ o2).mp q) d, fun _ => ⟨vpn (by omega) (by decide), fun _ => ⟨vpn (by omega) (by decide), vpn (by omega) (by decide), fun _ => m_isPartF h0.1 (by omega) d (fun q => absurd q f) (fun _ => ⟨fun _ => ?_, fun q => absurd rfl q⟩), fun q => absurd e q⟩, fun q => absurd ((lane_neg p2).mpr d2) q⟩⟩)
              intro M1 m1; subst m1
              exact ⟨rfl, hR⟩
            · obtain ⟨i0, n0, s0, rfl, rfl, e3, e4, e5, -⟩ := FA_0 h0.1 (by omega) f
              obtain ⟨j0, n1, s1, rfl, g2, g3, g4, g5, -⟩ := FA_0 h0.1 (by omega) f2
              have : n1 = n0 := by
                have := congrArg Int32.toInt g2
                rw [nI_toInt (by omega), nI_toInt (by omega)] at this
                omega
              subst this
              rw [nI_c (by omega), nI_c (by omega), nI_c (by omega)]
              refine ⟨nI_pos (by omega), nI_pos (by omega), nI_pos (by omega), by omega, by omega, ?_⟩
              intro X1 e1 X2 e2
              refine head ⟨vpn (by omega) (by decide), fun q => absurd ((lo _ o2).mp q) d, fun _ => ⟨vpn (by omega) (by decide), fun _ => ⟨vpn (by omega) (by decide), vpn (by omega) (by decide), fun _ => m_isPartF h0.1 (by omega) d (fun _ => ⟨fun q => absurd q (by decide), fun _ => m_isPartF h0.1 (by omega) d2 (fun _ => ⟨fun _ => ?_, fun q => absurd q (by decide)⟩) (fun q => absurd (f2.symm.trans q) (by decide))⟩) (fun q => absurd (f.symm.trans q) (by decide)), fun q => absurd e q⟩, fun q => absurd ((lane_neg p2).mpr d2) q⟩⟩
              refine ⟨n1 + 1, m_cp1 (by omega) (by omega) n1 0 M (by omega) (fun M1 k1 k2 _ => ⟨n1 + 1, m_cp2 (by omega) (by omega) n1 0 M1 (by omega) (fun M2 l1 l2 l3 => ⟨rfl, ?_⟩)⟩)⟩
              have em : ∀ q : Nat, q ≠ 0 → q ≠ 3 → q ≠ 4 → up2 M2 0 4 0 q = M q := fun q q1 q2 q3 => by rw [up2_ne q1, l1 q q2, k1 q q3]
              have ex : ∀ q : Nat, q ≠ 0 → q ≠ 36 + 2 * r2 + 1 → X2 q = X q := fun q q1 q2 => by rw [e2, up2_ne q1, e1, upc_ne q2]
              have x0 : X2 0 = up2 X 0 10 0 0 := by
                funext z
                rw [e2]
                simp only [up2]
                rw [e1, upc_ne (by omega)]
              refine ⟨by rw [x0, up2_self, up2_self], Y, T, h0.rows (fun q h1 h2 => ex q h1 (by omega)) (by rw [x0, up2_selfn (by decide)]) (fun q hq => ?_) (fun q hq => ?_) ?_⟩
              · simp only [List.mem_cons, List.not_mem_nil, or_false, not_or] at hq
                exact em q hq.1 hq.2.2.2.1 hq.2.2.2.2
              · rw [up2_selfn hq, l1 0 (by decide), k1 0 (by decide)]
              · have em3 : ∀ q, up2 M2 0 4 0 3 q = M2 3 q := fun q => by rw [up2_ne (by decide)]
                refine h0.1.one (by omega : r2 < 8) (fun q h1 h2 h3 h4 => ex q (by omega) (by omega)) (fun q hq => by rw [em 1 (by decide) (by decide) (by decide)]) (fun q hq => by rw [em 2 (by decide) (by decide) (by decide)]) (fun q hq => ?_) ?_
                · rw [em3, l3 q (by omega), k1 3 (by decide)]
                · rw [em 1 (by decide) (by decide) (by decide), em 2 (by decide) (by decide) (by decide), ex (36 + 2 * r2) (by omega) (by omega)]
                  refine ⟨p1, p2, fun z => ⟨(p3 z).1, (p3 z).2.1, fun q hq => ?_⟩⟩
                  rw [em3, show 37 + 2 * r2 = 36 + 2 * r2 + 1 by omega, e2, up2_ne (by omega), e1, upc_self]
                  unfold va_cpy
                  by_cases w : j0 ≤ q ∧ q < j0 + n1
                  · rw [if_pos w, show 40 * r2 + q = 40 * r2 + j0 + (q - j0) by omega, l2 (q - j0) (by omega) (by omega), k2 (q - j0) (by omega) (by omega), show 36 + 2 * r + 1 = 37 + 2 * r by omega, show 40 * r + i0 + (q - j0) = 40 * r + (i0 + (q - j0)) by omega]
                    exact (o3 d).2.2 _ (by omega)
                  · rw [if_neg w, l3 _ (by omega), k1 3 (by decide), show 36 + 2 * r2 + 1 = 37 + 2 * r2 by omega]
                    exact (p3 d2).2.2 _ hq
            · have f0 : FA M r2 j n = 2 := (FA_n1 d2).resolve_left f2
              refine q_found H _ (fun X1 hR => head ⟨vpn (by omega) (by decide), fun q => absurd ((lo _ o2).mp q) d, fun _ => ⟨vpn (by omega) (by decide), fun _ => ⟨vpn (by omega) (by decide), vpn (by omega) (by decide), fun _ => m_isPartF h0.1 (by omega) d (fun _ => ⟨fun q => absurd q (by decide), fun _ => m_isPartF h0.1 (by omega) d2 (fun q => absurd q f2) (fun _ => ⟨fun q => absurd rfl q, fun _ => ?_⟩)⟩) (fun q => absurd (f.symm.trans q) (by decide)), fun q => absurd e q⟩, fun q => absurd ((lane_neg p2).mpr d2) q⟩⟩)
              intro M1 m1; subst m1
              exact ⟨rfl, hR⟩
          · rw [o1] at e
            refine q_found H _ (fun X1 hR => head ⟨vpn (by omega) (by decide), fun q => absurd ((lo _ o2).mp q) d, fun _ => ⟨vpn (by omega) (by decide), fun _ => ⟨vpn (by omega) (by decide), vpn (by omega) (by decide), fun q => absurd q e, fun _ => ?_⟩, fun q => absurd ((lane_neg p2).mpr d2) q⟩⟩)
            intro M1 m1; subst m1
            exact ⟨rfl, hR⟩
    · exact isOut_out hb ⟨fun c => absurd c (by decide), fun _ => by unfold wp_X8_copy; exact isRow_in a1 a2 ⟨fun c => absurd c (by decide), fun _ => isRow_out hb ⟨fun c => absurd rfl c, fun _ => ⟨rfl, H⟩⟩⟩⟩
  · exact isOut_out ha ⟨fun _ => by unfold wp_X8_copy; exact isRow_out ha ⟨fun _ => ⟨rfl, H⟩, fun c => absurd rfl c⟩, fun c => absurd c (by decide)⟩
