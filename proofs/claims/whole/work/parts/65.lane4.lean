/-! lane -/
/-- what the reference has read -/
def LM (b : Nat → Int32) (t : Nat) (M V : VT) : Prop := (∀ q, q ≠ 0 → q ≠ 6 → V q = M q) ∧ (∀ j, j ≠ 9 → j ≠ 10 → j ≠ 11 → j ≠ 13 → j ≠ 14 → V 0 j = M 0 j) ∧ PM b t V (tzE b t).1 ∧ ((tzE b t).1.2 = 0 → V 6 0 = nI (gc b t (lw10 b t).1) ∧ V 6 1 = nI (tzE b t).2.1 ∧ V 6 2 = nv b t (lw5 b t) ∧ V 6 3 = nv b t (lw7 b t) ∧ (∀ i, i < gc b t (lw10 b t).1 → V 6 (4 + i) = gk (b ((lw10 b t).1 + i))) ∧ (∀ i, i < (tzE b t).2.1 → V 6 (28 + 2 * i) = (tzE b t).2.2.1 i ∧ V 6 (29 + 2 * i) = (tzE b t).2.2.2 i) ∧ V 0 13 = nv b t (lw1 b t) ∧ V 0 14 = nv b t (lw3 b t) - 2)
theorem m_lane_z {K : Int32 → VT → Prop} {V0 : VT} (h : ∀ V' : VT, (∀ q, q ≠ 6 → V' q = V0 q) → (∀ j, j < 38 → V' 6 j = 0) → wp_X8_readLaw V' (fun V4 => wp_X8_readGrounds V4 (fun V5 => ∃ n39 : Nat, wp_X8_lane_L39 K n39 V5))) : ∀ (m k : Nat) (V : VT), m + k = 38 → (∀ q, q ≠ 6 → V q = V0 q) → (∀ j, j < k → V 6 j = 0) → wp_X8_lane_L12 K (m + 1) V (nI k) := by
  intro m
  induction m with
  | zero =>
    intro k V hk f g
    have : k = 38 := by omega
    subst this
    exact ⟨fun _ => h V f g, fun c => absurd (by decide) c⟩
  | succ m ih =>
    intro k V hk f g
    refine ⟨fun c => absurd c (nI_ge (b := 38) (by omega) (by decide)), fun _ => ⟨vpn (by omega) (by decide), ?_⟩⟩
    rw [nI_c (by omega), nI_1]
    intro V7 v7
    refine ih (k + 1) V7 (by omega) (fun q hq => by rw [v7, up2_ne hq]; exact f q hq) (fun j hj => ?_)
    by_cases z : j = k
    · rw [v7, z, up2_self]
    · rw [v7, up2_selfn z]; exact g j (by omega)
theorem m_laneR {b : Nat → Int32} {t : Nat} {M : VT} {K : Int32 → VT → Prop} (e1 : M 0 8 = nI t) (e7 : ∀ i, i < t → M 7 i = b i) (ht : t ≤ 100) (h : ∀ V' : VT, LM b t M V' → wp_X8_lane_b64 K V') : wp_X8_lane M K := by
  intro V1 v1 V2 v2
  refine ⟨39, m_lane_z (V0 := V2) (fun V3 f3 z3 => ?_) 38 0 V2 (by decide) (fun _ _ => rfl) (fun j hj => absurd hj (Nat.not_lt_zero j))⟩
  have P3 : PM b t V3 (0, 0) := by
    refine ⟨?_, ?_, fun _ => ?_, fun q => absurd rfl q, fun i hi => ?_, Nat.zero_le _, by decide, ht⟩
    · rw [f3 0 (by decide), v2, up2_selfn (by decide), v1, up2_selfn (by decide)]; exact e1
    · rw [f3 0 (by decide), v2, up2_self]; rfl
    · rw [f3 0 (by decide), v2, up2_selfn (by decide), v1, up2_self]; rfl
    · rw [f3 7 (by decide), v2, up2_ne (by decide), v1, up2_ne (by decide)]; exact e7 i hi
  refine m_readLaw P3 (fun V4 f4 f40 f46 P4 g4 => m_readGrounds P4 (fun V5 f5 P5 g5 => ?_))
  rw [e_10, e_11, e_12] at P5 g5
  have A5 : TM b t V5 V5 (tz0 b t) := by
    refine ⟨fun _ _ _ => rfl, fun _ _ _ _ => rfl, fun _ _ _ => rfl, ?_, fun _ => ⟨?_, fun i hi => ?_⟩⟩
    · rw [tz0_1]; exact P5
    · rw [tz0_2, f5.2.2 1 (by decide), f46 1 (by decide) (by decide), z3 1 (by decide)]; rfl
    · rw [tz0_2] at hi
      exact absurd hi (Nat.not_lt_zero i)
  refine ⟨7, m_taps_M (V0 := V5) 6 0 V5 (tz0 b t) K (by decide) (fun _ => ⟨tz0_2, by decide⟩) A5 (fun V6 A6 => ?_)⟩
  rw [tzE_e] at A6
  obtain ⟨a1, a2, a3, P6, a5⟩ := A6
  refine h V6 ⟨fun q q0 q6 => ?_, fun j h1 h2 h3 h4 h5 => ?_, P6, fun z => ?_⟩
  · rw [a1 q q0 q6, f5.1 q q0 q6, f4 q q0 q6, f3 q q6, v2, up2_ne q0, v1, up2_ne q0]
  · rw [a2 j h1 h2 h3, f5.2.1 j h1 h2 h3, f40 j h1 h2 h3 h4 h5, f3 0 (by decide), v2, up2_selfn h2, v1, up2_selfn h1]
  · obtain ⟨z12, z11, z10, z9⟩ := tzE_0 z
    obtain ⟨l2, l3, l13, l14⟩ := g4 z9
    obtain ⟨g5a, g5b⟩ := g5 z12
    obtain ⟨n1, cells⟩ := a5 z
    refine ⟨?_, n1, ?_, ?_, fun i hi => ?_, cells, ?_, ?_⟩
    · rw [a3 0 (by decide) (by decide)]; exact g5a
    · rw [a3 2 (by decide) (by decide), f5.2.2 2 (by decide)]; exact l2
    · rw [a3 3 (by decide) (by decide), f5.2.2 3 (by decide)]; exact l3
    · have gl := @gc_le b t (lw10 b t).1
      rw [a3 (4 + i) (by omega) (by omega)]; exact g5b i hi
    · rw [a2 13 (by decide) (by decide) (by decide), f5.2.1 13 (by decide) (by decide) (by decide)]; exact l13
    · rw [a2 14 (by decide) (by decide) (by decide), f5.2.1 14 (by decide) (by decide) (by decide)]; exact l14
theorem m_lane_c {K : Int32 → VT → Prop} {V0 : VT} (h : ∀ V' : VT, (∀ q, q ≠ 0 → q ≠ 5 → V' q = V0 q) → (∀ j, j < 38 → V' 5 j = V0 6 j) → (∀ j, j ≠ 15 → (j < 16 ∨ 20 < j) → j ≠ 22 → V' 0 j = V0 0 j) → V' 0 15 = 1 → hm V' = (0, V0 0 13, V0 0 14, 0) → V' 0 20 = 0 → V' 0 22 = 0 → K (V' 5 1) V') : ∀ (m k : Nat) (V : VT), m + k = 38 → (∀ q, q ≠ 5 → V q = V0 q) → (∀ j, j < k → V 5 j = V0 6 j) → wp_X8_lane_L94 K (m + 1) V (nI k) := by
  intro m
  induction m with
  | zero =>
    intro k V hk f g
    have : k = 38 := by omega
    subst this
    refine ⟨fun _ => ?_, fun c => absurd (by decide) c⟩
    intro V15 v15
    refine m_puts (fun V16 f16 f160 h16 => ?_)
    intro V17 v17 V18 v18
    refine ⟨vin (by decide), ?_⟩
    rw [cn1]
    have x13 : V15 0 13 = V0 0 13 := by rw [v15, up2_selfn (by decide), f 0 (by decide)]
    have x14 : V15 0 14 = V0 0 14 := by rw [v15, up2_selfn (by decide), f 0 (by decide)]
    have o : ∀ q, q ≠ 0 → V18 q = V q := fun q hq => by rw [v18, up2_ne hq, v17, up2_ne hq, f16 q hq, v15, up2_ne hq]
    refine h V18 (fun q q0 q5 => (o q q0).trans (f q q5)) (fun j hj => by rw [o 5 (by decide)]; exact g j hj) (fun j h1 h2 h3 => ?_) ?_ ?_ ?_ ?_
    · rw [v18, up2_selfn h3, v17, up2_selfn (by omega), f160 j (by omega), v15, up2_selfn h1, f 0 (by decide)]
    · rw [v18, up2_selfn (by decide), v17, up2_selfn (by decide), f160 15 (by decide), v15, up2_self]
    · rw [← x13, ← x14, ← h16]
      simp only [hm, v18, v17, up2_selfn (show (16 : Nat) ≠ 22 by decide), up2_selfn (show (17 : Nat) ≠ 22 by decide), up2_selfn (show (18 : Nat) ≠ 22 by decide), up2_selfn (show (19 : Nat) ≠ 22 by decide), up2_selfn (show (16 : Nat) ≠ 20 by decide), up2_selfn (show (17 : Nat) ≠ 20 by decide), up2_selfn (show (18 : Nat) ≠ 20 by decide), up2_selfn (show (19 : Nat) ≠ 20 by decide)]
    · rw [v18, up2_selfn (by decide), v17, up2_self]
    · rw [v18, up2_self]
  | succ m ih =>
    intro k V hk f g
    refine ⟨fun c => absurd c (nI_ge (b := 38) (by omega) (by decide)), fun _ => ⟨vpn (by omega) (by decide), vpn (by omega) (by decide), ?_⟩⟩
    rw [nI_c (by omega), nI_1]
    intro V22 v22
    refine ih (k + 1) V22 (by omega) (fun q hq => by rw [v22, up2_ne hq]; exact f q hq) (fun j hj => ?_)
    by_cases z : j = k
    · rw [v22, z, up2_self, f 6 (by decide)]
    · rw [v22, up2_selfn z]; exact g j (by omega)
theorem q_lane {X M : VT} (H : RR X M) : wp_X7_lane X (fun r X' => wp_X8_lane M (EQ r X')) := by
  obtain ⟨hs, Y, T, h0⟩ := id H
  obtain ⟨h1, ⟨t, u1, u2, u3, u4⟩, h3, h4, h5, h6, h7⟩ := id h0
  refine x_readInto (b := M 7) u2 u4 u1 (fun V1 L1 => ?_)
  obtain ⟨fX, PX1, cX⟩ := L1
  intro V3 v3
  have oX : ∀ q, q ≠ 3 → q ≠ 21 → q ≠ 22 → q ≠ 23 → q ≠ 24 → q ≠ 25 → V3 q = X q := fun q q1 q2 q3 q4 q5 q6 => by rw [v3, up2_ne q1]; exact fX q q1 q2 q3 q4 q5 q6
  have t3 : V3 3 1 = 0 := by rw [v3, up2_self]
  refine ⟨fun c => ?_, fun c => ?_⟩
  · have z : (tzE (M 7) t).1.2 = 0 := (nI_eq (a := (tzE (M 7) t).1.2) (b := 0) (by have := PX1.2.2.2.2.2.1; omega) (by decide)).mp c
    obtain ⟨x4, x5, x6, x7, x8, x22, x23, x25⟩ := cX z
    have v321 : ∀ q, q ≠ 3 → V3 q = V1 q := fun q hq => by rw [v3, up2_ne hq]
    refine s_lbe (by decide) (fun V5 f5 b1 b2 b3 b4 b0 => ?_)
    intro V6 v6
    have ob : ∀ q, q ≠ 5 → V6 q = V5 q := fun q hq => by rw [v6, up2_ne hq]
    refine m_laneR (b := M 7) u3 (fun _ _ => rfl) u1 (fun W1 LM1 => ?_)
    obtain ⟨fM, fM0, PM1, cM1⟩ := LM1
    obtain ⟨y0, y1, y2, y3, y4, y28, y13, y14⟩ := cM1 z
    intro V11 v11
    have w10 : V11 0 10 = 0 := by rw [v11, up2_selfn (by decide), PM1.2.1, z]; rfl
    refine ⟨fun _ => ⟨39, m_lane_c (V0 := V11) (fun M' g1 g5 g0 g15 gh g20 g22 => ?_) 38 0 V11 (by decide) (fun _ _ => rfl) (fun j hj => absurd hj (Nat.not_lt_zero j))⟩, fun q => absurd w10 q⟩
    have e6 : V11 6 = W1 6 := by rw [v11, up2_ne (by decide)]
    have zz := tzE_z (b := M 7) (t := t) z
    have zz1 : (tzE (M 7) t).2.1 ≤ 5 := zz.1
    have zz2 := zz.2
    obtain ⟨z12, z11, z10, z9⟩ := tzE_0 z
    have gpos := (gr0 z11).2
    have g24 := @gc_le (M 7) t (lw10 (M 7) t).1
    obtain ⟨z8, z6, z4, z2⟩ := lw_0 z9
    have rp := (nm0 z2).2
    have rl' := (nm0 z4).2
    have rh := (nm0 z6).2
    have rd := (nm0 z8).2
    rw [i_lt, i_le, t1, t9] at rp
    rw [i_lt, i_le, t0, t4] at rl'
    rw [i_lt, i_le, t1, t5] at rh
    rw [i_lt, i_le, t0, show (3 : Int32).toInt = 3 from rfl] at rd
    simp only [hp, Prod.mk.injEq] at x25
    simp only [hm, Prod.mk.injEq] at gh
    have k13 : V11 0 13 = nv (M 7) t (lw1 (M 7) t) := by rw [v11, up2_selfn (by decide)]; exact y13
    have k14 : V11 0 14 = nv (M 7) t (lw3 (M 7) t) - 2 := by rw [v11, up2_selfn (by decide)]; exact y14
    have l2i : (nv (M 7) t (lw3 (M 7) t) - 2).toInt = (nv (M 7) t (lw3 (M 7) t)).toInt - 2 := by
      rw [i_sub (by rw [t2]; omega), t2]
    have hLR : LR V6 16 (M' 5) (fun i => M' 0 (16 + i)) (gc (M 7) t (lw10 (M 7) t).1) (tzE (M 7) t).2.1 := by
      unfold LR
      refine ⟨⟨g24.1, zz1, fun q => by omega⟩, ⟨?_, ?_⟩, ⟨?_, ?_⟩, ?_, ?_, ?_, fun i hi => ?_, fun i hi => ⟨?_, ?_⟩, fun i hi => ?_, fun _ => ⟨?_, ?_⟩⟩
      · rw [ob 16 (by decide), b0 4 (by decide) (by decide), v321 21 (by decide)]; exact x4
      · rw [g5 0 (by decide), e6]; exact y0
      · rw [ob 16 (by decide), b0 5 (by decide) (by decide), v321 21 (by decide)]; exact x5
      · rw [g5 1 (by decide), e6]; exact y1
      · rw [ob 16 (by decide), b0 6 (by decide) (by decide), v321 21 (by decide), g5 2 (by decide), e6, y2]; exact x6
      · rw [ob 16 (by decide), b0 7 (by decide) (by decide), v321 21 (by decide), g5 3 (by decide), e6, y3]; exact x7
      · show V6 16 8 = M' 0 20
        rw [ob 16 (by decide), b0 8 (by decide) (by decide), v321 21 (by decide), g20]; exact x8
      · rw [ob 17 (by decide), b1 i (by omega), v321 22 (by decide), g5 _ (by omega), e6, y4 i hi]; exact x22 i hi
      · rw [ob 18 (by decide), b2 i (by omega), v321 23 (by decide), g5 _ (by omega), e6, (y28 i hi).1]; exact (x23 i hi).1
      · rw [ob 19 (by decide), b3 i (by omega), v321 24 (by decide), g5 _ (by omega), e6, (y28 i hi).2]; exact (x23 i hi).2
      · rw [ob 20 (by decide), b4 i hi, v321 25 (by decide)]
        rcases (show i = 0 ∨ i = 1 ∨ i = 2 ∨ i = 3 by omega) with rfl | rfl | rfl | rfl
        · exact x25.1.trans gh.1.symm
        · exact x25.2.1.trans (gh.2.1.trans k13).symm
        · exact x25.2.2.1.trans (gh.2.2.1.trans k14).symm
        · exact x25.2.2.2.trans gh.2.2.2.symm
      · unfold FV
        rw [g5 2 (by decide), g5 3 (by decide), e6, y2, y3]
        refine ⟨by omega, by omega, by omega, by omega, fun i hi => ?_, fun i hi => ?_⟩
        · rw [g5 _ (by omega), e6, y4 i hi]
          exact gk_rng (gn_rng hi)
        · rw [g5 _ (by omega), g5 _ (by omega), e6, (y28 i hi).1, (y28 i hi).2]
          exact zz2 i hi
      · unfold HV
        show (M' 0 19 = 0 ∨ M' 0 19 = 1 ∨ M' 0 19 = 2) ∧ (M' 0 19 = 0 → 0 ≤ (M' 0 16).toInt ∧ (M' 0 16).toInt < (gc (M 7) t (lw10 (M 7) t).1 : Int) ∧ 1 ≤ (M' 0 17).toInt ∧ (M' 0 17).toInt ≤ 9 ∧ -5 ≤ (M' 0 18).toInt ∧ (M' 0 18).toInt ≤ 5) ∧ 0 ≤ (M' 0 20).toInt ∧ (M' 0 20).toInt ≤ 999 ∧ 0 ≤ (M' 0 16).toInt ∧ (M' 0 16).toInt ≤ 24
        rw [gh.1, gh.2.1, gh.2.2.1, gh.2.2.2, g20, k13, k14, l2i, t0]
        refine ⟨Or.inl rfl, fun _ => ?_, by omega, by omega, by omega, by omega⟩
        omega
    have nx : ∀ q, q ≠ 3 → q ≠ 5 → (q < 16 ∨ 25 < q) → V6 q = X q := fun q q3 q5 qq => by rw [ob q q5, f5 q (by omega)]; exact oX q q3 (by omega) (by omega) (by omega) (by omega) (by omega)
    have mo : ∀ q, q ≠ 0 → q ≠ 5 → q ≠ 6 → M' q = M q := fun q q0 q5 q6 => by rw [g1 q q0 q5, v11, up2_ne q0]; exact fM q q0 q6
    have n0 : ∀ j, j = 4 ∨ j = 12 ∨ j = 32 → M' 0 j = M 0 j := fun j hj => by rw [g0 j (by omega) (by omega) (by omega), v11, up2_selfn (by omega)]; exact fM0 j (by omega) (by omega) (by omega) (by omega) (by omega)
    have x31 : V6 3 1 = 0 := by rw [ob 3 (by decide), f5 3 (by decide)]; exact t3
    have m08 : M' 0 8 = 0 := by rw [g0 8 (by decide) (by decide) (by decide), v11, up2_self]
    have ans : V6 16 5 = M' 5 1 := hLR.2.2.1.1.trans hLR.2.2.1.2.symm
    refine ⟨ans, by rw [nx 0 (by decide) (by decide) (by decide), n0 4 (by decide)]; exact hs, gc (M 7) t (lw10 (M 7) t).1, (tzE (M 7) t).2.1, h1.cg (fun q _ _ => nx q (by omega) (by omega) (by omega)) (mo 1 (by decide) (by decide) (by decide)) (mo 2 (by decide) (by decide) (by decide)) (mo 3 (by decide) (by decide) (by decide)), ⟨0, by decide, x31, m08, fun i hi => absurd hi (Nat.not_lt_zero i)⟩, ⟨hLR, by rw [if_pos gpos]; exact g15⟩, ?_, ?_, h6.cg (congrFun (nx 13 (by decide) (by decide) (by decide)) 1) (nx 14 (by decide) (by decide) (by decide)) (n0 32 (by decide)) (mo 12 (by decide) (by decide) (by decide)), by rw [nx 0 (by decide) (by decide) (by decide), n0 12 (by decide)]; exact h7⟩
    · obtain ⟨nn, cc, w1, w2, w3, w4, w5, -⟩ := h4
      refine ⟨nn, 0, by decide, w2, ?_, by rw [v6, up2_self]; rfl, g22, fun _ => rfl, fun j hj => absurd hj (Nat.not_lt_zero j)⟩
      rw [v6, up2_selfn (by decide), f5 5 (by decide), oX 5 (by decide) (by decide) (by decide) (by decide) (by decide) (by decide)]
      exact w3
    · intro k hk
      obtain ⟨Y2, T2, r1, r2, r3⟩ := h5 k hk
      exact ⟨Y2, T2, r1.cg (nx _ (by omega) (by omega) (by omega)) (nx _ (by omega) (by omega) (by omega)) (nx _ (by omega) (by omega) (by omega)) (nx _ (by omega) (by omega) (by omega)) (nx _ (by omega) (by omega) (by omega)) (by rw [mo 11 (by decide) (by decide) (by decide)]) (fun i _ => by rw [mo 11 (by decide) (by decide) (by decide)]), by rw [mo 11 (by decide) (by decide) (by decide)]; exact r2, fun _ => g15⟩
  · have z : ¬ (tzE (M 7) t).1.2 = 0 := fun q => c (by rw [q]; rfl)
    intro V7 v7
    refine m_laneR (b := M 7) u3 (fun _ _ => rfl) u1 (fun W1 LM1 => ?_)
    obtain ⟨fM, fM0, PM1, cM1⟩ := LM1
    intro V11 v11
    have w10 : V11 0 10 = nI (tzE (M 7) t).1.2 := by rw [v11, up2_selfn (by decide)]; exact PM1.2.1
    refine ⟨fun q => absurd (w10.symm.trans q) c, fun _ => ?_⟩
    intro V13 v13
    have nx : ∀ q, q ≠ 0 → q ≠ 3 → q ≠ 21 → q ≠ 22 → q ≠ 23 → q ≠ 24 → q ≠ 25 → V7 q = X q := fun q q0 q1 q2 q3 q4 q5 q6 => by rw [v7, up2_ne q0]; exact oX q q1 q2 q3 q4 q5 q6
    have nx0 : ∀ j, j ≠ 9 → V7 0 j = X 0 j := fun j hj => by rw [v7, up2_selfn hj, oX 0 (by decide) (by decide) (by decide) (by decide) (by decide) (by decide)]
    have mo : ∀ q, q ≠ 0 → q ≠ 6 → V13 q = M q := fun q q0 q6 => by rw [v13, up2_ne q0, v11, up2_ne q0]; exact fM q q0 q6
    have n0 : ∀ j, j ≠ 8 → j ≠ 9 → j ≠ 10 → j ≠ 11 → j ≠ 12 → j ≠ 13 → j ≠ 14 → V13 0 j = M 0 j := fun j j8 j9 j10 j11 j12 j13 j14 => by rw [v13, up2_selfn j12, v11, up2_selfn j8]; exact fM0 j j9 j10 j11 j13 j14
    refine ⟨?_, by rw [nx0 10 (by decide), n0 4 (by decide) (by decide) (by decide) (by decide) (by decide) (by decide) (by decide)]; exact hs, Y, T, h1.cg (fun q _ _ => nx q (by omega) (by omega) (by omega) (by omega) (by omega) (by omega) (by omega)) (mo 1 (by decide) (by decide)) (mo 2 (by decide) (by decide)) (mo 3 (by decide) (by decide)), ⟨0, by decide, ?_, ?_, fun i hi => absurd hi (Nat.not_lt_zero i)⟩, h3.cg (fun q _ _ => nx q (by omega) (by omega) (by omega) (by omega) (by omega) (by omega) (by omega)) (mo 5 (by decide) (by decide)) (fun j _ _ => n0 j (by omega) (by omega) (by omega) (by omega) (by omega) (by omega) (by omega)), h4.cg (nx 5 (by decide) (by decide) (by decide) (by decide) (by decide) (by decide) (by decide)) (nx 7 (by decide) (by decide) (by decide) (by decide) (by decide) (by decide) (by decide)) (nx 8 (by decide) (by decide) (by decide) (by decide) (by decide) (by decide) (by decide)) (nx 9 (by decide) (by decide) (by decide) (by decide) (by decide) (by decide) (by decide)) (fun q _ _ => nx q (by omega) (by omega) (by omega) (by omega) (by omega) (by omega) (by omega)) (mo 8 (by decide) (by decide)) (mo 5 (by decide) (by decide)) (n0 22 (by decide) (by decide) (by decide) (by decide) (by decide) (by decide) (by decide)), h5.cg (fun q _ _ => nx q (by omega) (by omega) (by omega) (by omega) (by omega) (by omega) (by omega)) (mo 11 (by decide) (by decide)) (n0 15 (by decide) (by decide) (by decide) (by decide) (by decide) (by decide) (by decide)), h6.cg (congrFun (nx 13 (by decide) (by decide) (by decide) (by decide) (by decide) (by decide) (by decide)) 1) (nx 14 (by decide) (by decide) (by decide) (by decide) (by decide) (by decide) (by decide)) (n0 32 (by decide) (by decide) (by decide) (by decide) (by decide) (by decide) (by decide)) (mo 12 (by decide) (by decide)), ?_⟩
    · rw [PX1.2.1, v13, up2_selfn (by decide), v11, up2_selfn (by decide), PM1.2.2.2.1 z]
    · rw [v7, up2_ne (by decide)]; exact t3
    · rw [v13, up2_selfn (by decide), v11, up2_self]; rfl
    · rw [v7, up2_self, v13, up2_self, w10]
