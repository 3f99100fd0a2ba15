/-! lane: the taps, as the class reads them -/
abbrev TQ : Type := (Nat × Nat) × Nat × (Nat → Int32) × (Nat → Int32)
def upI (f : Nat → Int32) (k : Nat) (v : Int32) : Nat → Int32 := fun i => if i = k then v else f i
theorem upI_self {f : Nat → Int32} {k : Nat} {v : Int32} : upI f k v k = v := by simp [upI]
theorem upI_ne {f : Nat → Int32} {k i : Nat} {v : Int32} (h : i ≠ k) : upI f k v i = f i := by simp [upI, h]
def tst (b : Nat → Int32) (t : Nat) (s : TQ) : TQ :=
  if sk (b s.1.1) < 0 then ((s.1.1, 1), s.2) else if 5 ≤ s.2.1 then ((s.1.1, 3), s.2)
  else (sgP b t 59 (nmP b t 1 5 (s.1.1 + 1, 0)), s.2.1 + 1, upI s.2.2.1 s.2.1 (1 + sk (b s.1.1)), upI s.2.2.2 s.2.1 (nv b t (s.1.1 + 1, 0)))
def tlp (b : Nat → Int32) (t : Nat) : Nat → TQ → TQ
  | 0, s => s
  | m + 1, s => if s.1.2 = 0 then (if t ≤ s.1.1 then s else tlp b t m (tst b t s)) else s
def tz (s : TQ) : Prop := s.1.2 = 0 → s.2.1 ≤ 5 ∧ ∀ i, i < s.2.1 → (1 ≤ (s.2.2.1 i).toInt ∧ (s.2.2.1 i).toInt ≤ 5) ∧ 1 ≤ (s.2.2.2 i).toInt ∧ (s.2.2.2 i).toInt ≤ 5
theorem sk_rng {x : Int32} (h : ¬ sk x < 0) : 1 ≤ (1 + sk x).toInt ∧ (1 + sk x).toInt ≤ 5 := by
  unfold sk at h ⊢
  by_cases d0 : x = 118
  · rw [if_pos d0]; decide
  · rw [if_neg d0] at h ⊢
    by_cases d1 : x = 105
    · rw [if_pos d1]; decide
    · rw [if_neg d1] at h ⊢
      by_cases d2 : x = 111
      · rw [if_pos d2]; decide
      · rw [if_neg d2] at h ⊢
        by_cases d3 : x = 98
        · rw [if_pos d3]; decide
        · rw [if_neg d3] at h ⊢
          by_cases d4 : x = 116
          · rw [if_pos d4]; decide
          · rw [if_neg d4] at h
            exact absurd (by decide) h
theorem gk_rng {x : Int32} (h : ¬ gk x < 0) : 0 ≤ (gk x).toInt ∧ (gk x).toInt ≤ 5 := by
  unfold gk at h ⊢
  by_cases d0 : x = 102
  · rw [if_pos d0]; decide
  · rw [if_neg d0] at h ⊢
    by_cases d1 : x = 100
    · rw [if_pos d1]; decide
    · rw [if_neg d1] at h ⊢
      by_cases d2 : x = 117
      · rw [if_pos d2]; decide
      · rw [if_neg d2] at h ⊢
        by_cases d3 : x = 114
        · rw [if_pos d3]; decide
        · rw [if_neg d3] at h ⊢
          by_cases d4 : x = 115
          · rw [if_pos d4]; decide
          · rw [if_neg d4] at h ⊢
            by_cases d5 : x = 119
            · rw [if_pos d5]; decide
            · rw [if_neg d5] at h
              exact absurd (by decide) h
theorem gn_rng {b : Nat → Int32} : ∀ {m a i : Nat}, i < gn b m a → ¬ gk (b (a + i)) < 0
  | 0, _, _, h => absurd h (Nat.not_lt_zero _)
  | m + 1, a, i, h => by
    rw [gn] at h
    by_cases c : gk (b a) < 0
    · rw [if_pos c] at h; exact absurd h (Nat.not_lt_zero _)
    · rw [if_neg c] at h
      cases i with
      | zero => rw [Nat.add_zero]; exact c
      | succ i =>
        have := gn_rng (b := b) (m := m) (a := a + 1) (i := i) (by omega)
        rw [show a + (i + 1) = a + 1 + i by omega]
        exact this
theorem tst_z {b : Nat → Int32} {t : Nat} {s : TQ} (h : tz s) (f : s.1.2 = 0) : tz (tst b t s) := by
  unfold tst
  obtain ⟨h1, h2⟩ := h f
  by_cases c : sk (b s.1.1) < 0
  · rw [if_pos c]; exact fun z => absurd (show (1 : Nat) = 0 from z) (by decide)
  · rw [if_neg c]
    by_cases d : 5 ≤ s.2.1
    · rw [if_pos d]; exact fun z => absurd (show (3 : Nat) = 0 from z) (by decide)
    · rw [if_neg d]
      intro z
      have zz := nm0 (sg0 z)
      have r := sk_rng c
      refine ⟨by show s.2.1 + 1 ≤ 5; omega, fun i hi => ?_⟩
      have hi' : i < s.2.1 + 1 := hi
      show (1 ≤ (upI s.2.2.1 s.2.1 (1 + sk (b s.1.1)) i).toInt ∧ (upI s.2.2.1 s.2.1 (1 + sk (b s.1.1)) i).toInt ≤ 5) ∧ 1 ≤ (upI s.2.2.2 s.2.1 (nv b t (s.1.1 + 1, 0)) i).toInt ∧ (upI s.2.2.2 s.2.1 (nv b t (s.1.1 + 1, 0)) i).toInt ≤ 5
      by_cases q : i = s.2.1
      · rw [q, upI_self, upI_self]
        obtain ⟨-, z1, z2⟩ := zz
        rw [i_lt, t1] at z1
        rw [i_le, t5] at z2
        exact ⟨r, by omega, z2⟩
      · rw [upI_ne q, upI_ne q]
        exact h2 i (by omega)
theorem tlp_z {b : Nat → Int32} {t : Nat} : ∀ (m : Nat) (s : TQ), tz s → tz (tlp b t m s)
  | 0, _, h => h
  | m + 1, s, h => by
    rw [tlp]
    by_cases f : s.1.2 = 0
    · rw [if_pos f]
      by_cases c : t ≤ s.1.1
      · rw [if_pos c]; exact h
      · rw [if_neg c]; exact tlp_z m _ (tst_z h f)
    · rw [if_neg f]; exact h
theorem tlp_f {b : Nat → Int32} {t : Nat} {s : TQ} (h : ¬ s.1.2 = 0) : ∀ m, tlp b t m s = s
  | 0 => rfl
  | m + 1 => by rw [tlp, if_neg h]
section TAPX
variable {b : Nat → Int32} {t : Nat} {K : VT → Prop}
def TX (b : Nat → Int32) (t : Nat) (V0 V : VT) (s : TQ) : Prop := (∀ q, q ≠ 3 → q ≠ 21 → q ≠ 23 → q ≠ 24 → V q = V0 q) ∧ (∀ j, j ≠ 5 → V 21 j = V0 21 j) ∧ PX b t V s.1 ∧ V 21 5 = nI s.2.1 ∧ (s.1.2 = 0 → ∀ i, i < s.2.1 → V 23 i = s.2.2.1 i ∧ V 24 i = s.2.2.2 i)
theorem x_readTap {V0 V : VT} {s : TQ} (A : TX b t V0 V s) (f : s.1.2 = 0) (lt : s.1.1 < t) (n5 : s.2.1 ≤ 5) (h : ∀ V' : VT, TX b t V0 V' (tst b t s) → K V') : wp_X6_readTap V 21 K := by
  obtain ⟨a1, a2, P, a4, a5⟩ := A
  unfold tst at h
  refine x_lookS P lt ?_
  rw [a4, show (5 : Int32) = nI 5 from rfl, nI_ltI (by omega) (by decide)]
  refine ⟨fun c => ⟨fun d => ?_, fun d => ?_⟩, fun c => ?_⟩
  · have c' : ¬ sk (b s.1.1) < 0 := Int32.not_lt.mpr c
    rw [if_neg c', if_neg (by omega)] at h
    obtain ⟨e1, e2, e3, e4, e5, e6, e7⟩ := id P
    intro V5 v5
    have P5 : PX b t V5 (s.1.1 + 1, 0) := by
      refine ⟨?_, ?_, ?_, fun i hi => ?_, lt, by show 0 ≤ 3; omega, e7⟩
      · rw [v5, up2_selfn (by decide)]; exact e1
      · rw [v5, up2_self, e2, nI_1]
      · rw [v5, up2_selfn (by decide), e3, f]
      · rw [v5, up2_ne (by decide)]; exact e4 i hi
    have h5 : V5 21 5 = nI s.2.1 := by rw [v5, up2_ne (by decide)]; exact a4
    rw [h5]
    refine ⟨vpn (by omega) (by decide), ?_⟩
    rw [nI_c (by omega)]
    intro V7 v7
    have P7 := P5.cg (V' := V7) (by rw [v7, up2_ne (by decide)]) (by rw [v7, up2_ne (by decide)])
    refine x_number P7 (fun V8 r8 f8 P8 g8 => ?_)
    have h7 : V7 21 5 = nI s.2.1 := by rw [v7, up2_ne (by decide)]; exact h5
    rw [h7]
    refine ⟨vpn (by omega) (by decide), ?_⟩
    rw [nI_c (by omega)]
    intro V11 v11 V12 v12
    have h11 : V11 21 5 = nI s.2.1 := by rw [v11, up2_ne (by decide), f8 21 (by decide)]; exact h7
    rw [h11, nI_1] at v12
    have P12 := P8.cg (V' := V12) (by rw [v12, up2_ne (by decide), v11, up2_ne (by decide)]) (by rw [v12, up2_ne (by decide), v11, up2_ne (by decide)])
    refine x_sign P12 (fun V13 f13 P13 => h V13 ⟨fun q q1 q2 q3 q4 => ?_, fun j hj => ?_, P13, ?_, fun z i hi => ?_⟩)
    · rw [f13 q q1, v12, up2_ne q2, v11, up2_ne q4, f8 q q1, v7, up2_ne q3, v5, up2_ne q1]; exact a1 q q1 q2 q3 q4
    · rw [f13 21 (by decide), v12, up2_selfn hj, v11, up2_ne (by decide), f8 21 (by decide), v7, up2_ne (by decide), v5, up2_ne (by decide)]; exact a2 j hj
    · rw [f13 21 (by decide), v12, up2_self]
    · have r := g8 (sg0 z)
      have hi' : i < s.2.1 + 1 := hi
      have x23 : V13 23 i = up2 V5 23 s.2.1 (1 + sk (b s.1.1)) 23 i := by rw [f13 23 (by decide), v12, up2_ne (by decide), v11, up2_ne (by decide), f8 23 (by decide), v7]
      have x24 : V13 24 i = up2 V8 24 s.2.1 r8 24 i := by rw [f13 24 (by decide), v12, up2_ne (by decide), v11]
      show V13 23 i = upI s.2.2.1 s.2.1 (1 + sk (b s.1.1)) i ∧ V13 24 i = upI s.2.2.2 s.2.1 (nv b t (s.1.1 + 1, 0)) i
      rw [x23, x24]
      by_cases q : i = s.2.1
      · rw [q, upI_self, upI_self, up2_self, up2_self]
        exact ⟨rfl, r⟩
      · rw [upI_ne q, upI_ne q, up2_selfn q, up2_selfn q, v5, up2_ne (by decide), f8 24 (by decide), v7, up2_ne (by decide), v5, up2_ne (by decide)]
        exact a5 f i (by omega)
  · have c' : ¬ sk (b s.1.1) < 0 := Int32.not_lt.mpr c
    rw [if_neg c', if_pos (by omega)] at h
    exact x_fail0 (n := 3) P f (by decide) (fun V2 f2 P2 => h V2 ⟨fun q q1 q2 q3 q4 => by rw [f2 q q1]; exact a1 q q1 q2 q3 q4, fun j hj => by rw [f2 21 (by decide)]; exact a2 j hj, P2, by rw [f2 21 (by decide)]; exact a4, fun z => absurd (show (3 : Nat) = 0 from z) (by decide)⟩)
  · have c' : sk (b s.1.1) < 0 := Int32.not_le.mp c
    rw [if_pos c'] at h
    exact x_fail0 (n := 1) P f (by decide) (fun V2 f2 P2 => h V2 ⟨fun q q1 q2 q3 q4 => by rw [f2 q q1]; exact a1 q q1 q2 q3 q4, fun j hj => by rw [f2 21 (by decide)]; exact a2 j hj, P2, by rw [f2 21 (by decide)]; exact a4, fun z => absurd (show (1 : Nat) = 0 from z) (by decide)⟩)
theorem tst_n {s : TQ} {k : Nat} (f : s.1.2 = 0) (hk : s.2.1 = k) (z : (tst b t s).1.2 = 0) : k < 5 ∧ (tst b t s).2.1 = k + 1 := by
  unfold tst at z ⊢
  by_cases c : sk (b s.1.1) < 0
  · rw [if_pos c] at z; exact absurd (show (1 : Nat) = 0 from z) (by decide)
  · rw [if_neg c] at z ⊢
    by_cases d : 5 ≤ s.2.1
    · rw [if_pos d] at z; exact absurd (show (3 : Nat) = 0 from z) (by decide)
    · rw [if_neg d]
      exact ⟨by omega, by show s.2.1 + 1 = k + 1; omega⟩
theorem x_taps_X {V0 : VT} : ∀ (m k : Nat) (V : VT) (s : TQ), m + k = 6 → (s.1.2 = 0 → s.2.1 = k ∧ k < 6) → TX b t V0 V s → (∀ V' : VT, TX b t V0 V' (tlp b t m s) → K V') → wp_X6_readTaps_L7 K (m + 1) V 21 (nI k) := by
  intro m
  induction m with
  | zero =>
    intro k V s hm hk A h
    have : k = 6 := by omega
    subst this
    exact ⟨fun _ => h V A, fun c => absurd (by decide) c⟩
  | succ m ih =>
    intro k V s hm hk A h
    obtain ⟨e1, e2, e3, e4, e5, e6, e7⟩ := A.2.2.1
    unfold wp_X6_readTaps_L7
    rw [e1, e2, e3]
    refine ⟨fun c => absurd c ?_, fun _ => ⟨fun c => ?_, fun c => ⟨fun d => ?_, fun d => ?_⟩⟩⟩
    · rw [show (5 : Int32) = nI 5 from rfl, nI_ltI (by decide) (by omega)]; omega
    · have f : ¬ s.1.2 = 0 := fun q => c (by rw [q]; rfl)
      rw [tlp_f f] at h
      exact h V A
    · have f : s.1.2 = 0 := (nI_eq (a := s.1.2) (b := 0) (by omega) (by decide)).mp c
      rw [nI_leI (by omega) (by omega)] at d
      rw [tlp, if_pos f, if_pos d] at h
      exact h V A
    · have f : s.1.2 = 0 := (nI_eq (a := s.1.2) (b := 0) (by omega) (by decide)).mp c
      rw [nI_leI (by omega) (by omega)] at d
      rw [tlp, if_pos f, if_neg d] at h
      obtain ⟨k1, k2⟩ := hk f
      refine x_readTap A f (by omega) (by omega) (fun V2 A2 => ?_)
      rw [nI_1]
      refine ih (k + 1) V2 _ (by omega) (fun z => ?_) A2 h
      have := tst_n f k1 z
      exact ⟨this.2, by omega⟩
end TAPX
def tzI (p : Nat × Nat) : TQ := (p, 0, fun _ => 0, fun _ => 0)
theorem tzI_1 (p : Nat × Nat) : (tzI p).1 = p := rfl
theorem tzI_2 (p : Nat × Nat) : (tzI p).2.1 = 0 := rfl
def tz0 (b : Nat → Int32) (t : Nat) : TQ := tzI (lw12 b t)
def tzE (b : Nat → Int32) (t : Nat) : TQ := tlp b t 6 (tz0 b t)
theorem tz0_1 {b : Nat → Int32} {t : Nat} : (tz0 b t).1 = lw12 b t := by unfold tz0; exact tzI_1 _
theorem tz0_2 {b : Nat → Int32} {t : Nat} : (tz0 b t).2.1 = 0 := by unfold tz0; exact tzI_2 _
theorem tzE_e {b : Nat → Int32} {t : Nat} : tlp b t 6 (tz0 b t) = tzE b t := rfl
theorem tzE_z {b : Nat → Int32} {t : Nat} : tz (tzE b t) := by
  rw [← tzE_e]
  refine tlp_z 6 (tz0 b t) (fun _ => ?_)
  rw [tz0_2]
  exact ⟨Nat.zero_le _, fun i hi => absurd hi (Nat.not_lt_zero i)⟩
theorem e_10 {b : Nat → Int32} {t : Nat} : sgP b t 103 (lw9 b t) = lw10 b t := rfl
theorem e_11 {b : Nat → Int32} {t : Nat} : grP b t (lw10 b t) = lw11 b t := rfl
theorem e_12 {b : Nat → Int32} {t : Nat} : sgP b t 59 (lw11 b t) = lw12 b t := rfl
/-- what the class has read -/
def LX (b : Nat → Int32) (t : Nat) (X V : VT) : Prop := (∀ q, q ≠ 3 → q ≠ 21 → q ≠ 22 → q ≠ 23 → q ≠ 24 → q ≠ 25 → V q = X q) ∧ PX b t V (tzE b t).1 ∧ ((tzE b t).1.2 = 0 → V 21 4 = nI (gc b t (lw10 b t).1) ∧ V 21 5 = nI (tzE b t).2.1 ∧ V 21 6 = nv b t (lw5 b t) ∧ V 21 7 = nv b t (lw7 b t) ∧ V 21 8 = 0 ∧ (∀ i, i < gc b t (lw10 b t).1 → V 22 i = gk (b ((lw10 b t).1 + i))) ∧ (∀ i, i < (tzE b t).2.1 → V 23 i = (tzE b t).2.2.1 i ∧ V 24 i = (tzE b t).2.2.2 i) ∧ hp V 25 = (0, nv b t (lw1 b t), nv b t (lw3 b t) - 2, 0))
theorem tzE_0 {b : Nat → Int32} {t : Nat} (h : (tzE b t).1.2 = 0) : (lw12 b t).2 = 0 ∧ (lw11 b t).2 = 0 ∧ (lw10 b t).2 = 0 ∧ (lw9 b t).2 = 0 := by
  have h12 : (lw12 b t).2 = 0 := by
    apply Classical.byContradiction
    intro c
    have e : tlp b t 6 (tz0 b t) = tz0 b t := tlp_f (s := tz0 b t) (by rw [tz0_1]; exact c) 6
    rw [tzE_e] at e
    rw [e, tz0_1] at h
    exact c h
  have h11 := sg0 h12
  have h10 := (gr0 h11).1
  exact ⟨h12, h11, h10, sg0 h10⟩
theorem x_readInto {b : Nat → Int32} {t : Nat} {X : VT} {K : Int32 → VT → Prop} (e1 : X 3 1 = nI t) (e4 : ∀ i, i < t → X 4 i = b i) (e7 : t ≤ 100) (h : ∀ V' : VT, LX b t X V' → K (nI (tzE b t).1.2) V') : wp_X6_readInto X 21 K := by
  intro V1 v1 V2 v2
  have P2 : PX b t V2 (0, 0) := by
    refine ⟨?_, ?_, ?_, fun i hi => ?_, Nat.zero_le _, by decide, e7⟩
    · rw [v2, up2_selfn (by decide), v1, up2_selfn (by decide)]; exact e1
    · rw [v2, up2_selfn (by decide), v1, up2_self]; rfl
    · rw [v2, up2_self]; rfl
    · rw [v2, up2_ne (by decide), v1, up2_ne (by decide)]; exact e4 i hi
  refine x_readLaw P2 (fun V3 f3 P3 g3 g38 => x_readGrounds P3 (fun V4 f4 f4j P4 g4 => ?_))
  rw [e_10, e_11, e_12] at P4 g4
  intro V5 v5
  have P5 := P4.cg (V' := V5) (by rw [v5, up2_ne (by decide)]) (by rw [v5, up2_ne (by decide)])
  have A5 : TX b t V5 V5 (tz0 b t) := by
    refine ⟨fun _ _ _ _ _ => rfl, fun _ _ => rfl, ?_, ?_, fun _ i hi => ?_⟩
    · rw [tz0_1]; exact P5
    · rw [tz0_2, v5, up2_self]; rfl
    · rw [tz0_2] at hi
      exact absurd hi (Nat.not_lt_zero i)
  refine ⟨7, x_taps_X (V0 := V5) 6 0 V5 (tz0 b t) (by decide) (fun _ => ⟨tz0_2, by decide⟩) A5 (fun V6 A6 => ?_)⟩
  rw [tzE_e] at A6
  obtain ⟨a1, a2, P6, a4, a5⟩ := A6
  rw [P6.2.2.1]
  refine h V6 ⟨fun q q1 q2 q3 q4 q5 q6 => ?_, P6, fun z => ?_⟩
  · rw [a1 q q1 q2 q4 q5, v5, up2_ne q2, f4 q q1 q2 q3, f3 q q1 q2 q6, v2, up2_ne q1, v1, up2_ne q1]
  · obtain ⟨z12, z11, z10, z9⟩ := tzE_0 z
    obtain ⟨l6, l7, lh⟩ := g3 z9
    obtain ⟨g4a, g4b⟩ := g4 z12
    refine ⟨?_, a4, ?_, ?_, ?_, fun i hi => ?_, fun i hi => a5 z i hi, ?_⟩
    · rw [a2 4 (by decide), v5, up2_selfn (by decide)]; exact g4a
    · rw [a2 6 (by decide), v5, up2_selfn (by decide), f4j 6 (by decide)]; exact l6
    · rw [a2 7 (by decide), v5, up2_selfn (by decide), f4j 7 (by decide)]; exact l7
    · rw [a2 8 (by decide), v5, up2_selfn (by decide), f4j 8 (by decide)]; exact g38
    · rw [a1 22 (by decide) (by decide) (by decide) (by decide), v5, up2_ne (by decide)]; exact g4b i hi
    · rw [← lh]
      have e : V6 25 = V3 25 := by rw [a1 25 (by decide) (by decide) (by decide) (by decide), v5, up2_ne (by decide), f4 25 (by decide) (by decide) (by decide)]
      simp only [hp, e]
