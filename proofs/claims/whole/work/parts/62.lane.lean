/-! lane: what is read, and the class's readers -/
def sgP (b : Nat → Int32) (t : Nat) (c : Int32) (p : Nat × Nat) : Nat × Nat := if p.2 = 0 then (if t ≤ p.1 then (p.1, 1) else if b p.1 = c then (p.1 + 1, 0) else (p.1, 1)) else p
def rn (b : Nat → Int32) : Nat → Nat → Nat
  | 0, _ => 0
  | m + 1, a => if b a < 48 then 0 else if 57 < b a then 0 else rn b m (a + 1) + 1
def vx (b : Nat → Int32) (a : Nat) : Nat → Int32
  | 0 => 0
  | k + 1 => vx b a k * 10 + b (a + k) - 48
def rl (b : Nat → Int32) (t a : Nat) : Nat := rn b (t - a) a
def nv (b : Nat → Int32) (t : Nat) (p : Nat × Nat) : Int32 := vx b p.1 (rl b t p.1)
def nmP (b : Nat → Int32) (t : Nat) (lo hi : Int32) (p : Nat × Nat) : Nat × Nat := if p.2 = 0 then (if rl b t p.1 = 0 then (p.1, 1) else if 2 < rl b t p.1 then (p.1, 1) else if nv b t p < lo then (p.1, 2) else if nv b t p ≤ hi then (p.1 + rl b t p.1, 0) else (p.1, 2)) else p
theorem rn_le (b : Nat → Int32) : ∀ m a, rn b m a ≤ m
  | 0, _ => Nat.le_refl _
  | m + 1, a => by
    rw [rn]
    have := rn_le b m (a + 1)
    split
    · omega
    · split <;> omega
theorem rl_le {b : Nat → Int32} {t a : Nat} : rl b t a ≤ t - a := rn_le b _ _
theorem sg0 {b : Nat → Int32} {t : Nat} {c : Int32} {p : Nat × Nat} (h : (sgP b t c p).2 = 0) : p.2 = 0 := by
  unfold sgP at h
  by_cases q : p.2 = 0
  · exact q
  · rw [if_neg q] at h; exact h
theorem nm0 {b : Nat → Int32} {t : Nat} {lo hi : Int32} {p : Nat × Nat} (h : (nmP b t lo hi p).2 = 0) : p.2 = 0 ∧ ¬ nv b t p < lo ∧ nv b t p ≤ hi := by
  unfold nmP at h
  by_cases q : p.2 = 0
  · rw [if_pos q] at h
    refine ⟨q, ?_⟩
    by_cases q1 : rl b t p.1 = 0
    · rw [if_pos q1] at h; exact absurd (show (1 : Nat) = 0 from h) (by decide)
    · rw [if_neg q1] at h
      by_cases q2 : 2 < rl b t p.1
      · rw [if_pos q2] at h; exact absurd (show (1 : Nat) = 0 from h) (by decide)
      · rw [if_neg q2] at h
        by_cases q3 : nv b t p < lo
        · rw [if_pos q3] at h; exact absurd (show (2 : Nat) = 0 from h) (by decide)
        · rw [if_neg q3] at h
          by_cases q4 : nv b t p ≤ hi
          · exact ⟨q3, q4⟩
          · rw [if_neg q4] at h; exact absurd (show (2 : Nat) = 0 from h) (by decide)
  · rw [if_neg q] at h; exact absurd h q
def PX (b : Nat → Int32) (t : Nat) (V : VT) (p : Nat × Nat) : Prop := V 3 1 = nI t ∧ V 3 2 = nI p.1 ∧ V 3 3 = nI p.2 ∧ (∀ i, i < t → V 4 i = b i) ∧ p.1 ≤ t ∧ p.2 ≤ 3 ∧ t ≤ 100
theorem PX.cg {b : Nat → Int32} {t : Nat} {V V' : VT} {p : Nat × Nat} (P : PX b t V p) (h3 : V' 3 = V 3) (h4 : V' 4 = V 4) : PX b t V' p := by
  unfold PX
  rw [h3, h4]
  exact P
section LANEX
variable {b : Nat → Int32} {t : Nat} {V : VT} {p : Nat × Nat}
theorem x_fail0 {n : Nat} {K : VT → Prop} (P : PX b t V p) (f : p.2 = 0) (hn : n ≤ 3) (h : ∀ V' : VT, (∀ q, q ≠ 3 → V' q = V q) → PX b t V' (p.1, n) → K V') : wp_X6_fail V (nI n) K := by
  obtain ⟨e1, e2, e3, e4, e5, e6, e7⟩ := id P
  unfold wp_X6_fail
  rw [e3, f]
  refine ⟨fun q => absurd rfl q, fun _ => ?_⟩
  intro V2 v2
  refine h V2 (fun q hq => by rw [v2, up2_ne hq]) ⟨?_, ?_, ?_, fun i hi => ?_, e5, hn, e7⟩
  · rw [v2, up2_selfn (by decide)]; exact e1
  · rw [v2, up2_selfn (by decide)]; exact e2
  · rw [v2, up2_self]
  · rw [v2, up2_ne (by decide)]; exact e4 i hi
theorem x_failN {x : Int32} {K : VT → Prop} (P : PX b t V p) (f : ¬ p.2 = 0) (h : K V) : wp_X6_fail V x K := by
  obtain ⟨e1, e2, e3, e4, e5, e6, e7⟩ := id P
  unfold wp_X6_fail
  rw [e3]
  exact ⟨fun _ => h, fun q => absurd q (nI_ne0 (by omega) (by omega))⟩
theorem x_sign {c : Int32} {K : VT → Prop} (P : PX b t V p) (h : ∀ V' : VT, (∀ q, q ≠ 3 → V' q = V q) → PX b t V' (sgP b t c p) → K V') : wp_X6_readSign V c K := by
  obtain ⟨e1, e2, e3, e4, e5, e6, e7⟩ := id P
  unfold wp_X6_readSign wp_X6_readSign_b32
  rw [e1, e2, e3]
  unfold sgP at h
  by_cases f : p.2 = 0
  · rw [if_pos f] at h
    have z : nI p.2 = 0 := by rw [f]; rfl
    refine ⟨fun _ => ?_, fun q => absurd z q⟩
    rw [nI_leI (by omega) (by omega)]
    refine ⟨fun c1 => ?_, fun c1 => ⟨vpn (by omega) (by decide), ?_⟩⟩
    · rw [if_pos c1] at h
      exact x_fail0 (n := 1) P f (by decide) h
    · rw [if_neg c1] at h
      rw [nI_c (by omega), e4 _ (by omega), nI_1]
      refine ⟨fun d => ?_, fun d => ?_⟩
      · rw [if_pos d] at h
        intro V5 v5
        refine h V5 (fun q hq => by rw [v5, up2_ne hq]) ⟨?_, ?_, ?_, fun i hi => ?_, by show p.1 + 1 ≤ t; omega, by show 0 ≤ 3; omega, e7⟩
        · rw [v5, up2_selfn (by decide)]; exact e1
        · rw [v5, up2_self]
        · rw [v5, up2_selfn (by decide), e3]; exact z
        · rw [v5, up2_ne (by decide)]; exact e4 i hi
      · rw [if_neg d] at h
        exact x_fail0 (n := 1) P f (by decide) h
  · rw [if_neg f] at h
    exact ⟨fun q => absurd q (nI_ne0 (by omega) (by omega)), fun _ => h V (fun _ _ => rfl) P⟩
theorem x_num_L {a : Nat} {lo hi : Int32} {K : Int32 → VT → Prop} (e1 : V 3 1 = nI t) (e4 : ∀ i, i < t → V 4 i = b i) (e7 : t ≤ 100) (h : wp_X6_readNumber_b63 K V lo hi (vx b a (rl b t a)) (nI (a + rl b t a))) : ∀ (m k : Nat), a + k + m = t → rn b m (a + k) + k = rl b t a → wp_X6_readNumber_L8 K (m + 1) V lo hi (vx b a k) (nI (a + k)) := by
  intro m
  induction m with
  | zero =>
    intro k hk hr
    rw [rn, Nat.zero_add] at hr
    rw [← hr] at h
    refine ⟨fun _ => h, fun c => absurd ?_ c⟩
    rw [e1]
    exact nI_le (by omega) (by omega)
  | succ m ih =>
    intro k hk hr
    rw [rn] at hr
    have done : k = rl b t a → wp_X6_readNumber_b63 K V lo hi (vx b a k) (nI (a + k)) := fun q => by rw [q]; exact h
    unfold wp_X6_readNumber_L8
    rw [e1, nI_c (by omega), e4 _ (by omega)]
    refine ⟨fun c => absurd c (nI_ge (by omega) (by omega)), fun _ => ⟨vpn (by omega) (by decide), fun c => ?_, fun c => ⟨vpn (by omega) (by decide), fun d => ?_, fun d => ⟨vpn (by omega) (by decide), ?_⟩⟩⟩⟩
    · rw [if_pos c] at hr; exact done (by omega)
    · rw [if_neg c, if_pos d] at hr; exact done (by omega)
    · rw [if_neg c, if_neg d] at hr
      rw [nI_1]
      exact ih (k + 1) (by omega) (by rw [show a + (k + 1) = a + k + 1 by omega]; omega)
theorem x_number {lo hi : Int32} {K : Int32 → VT → Prop} (P : PX b t V p) (h : ∀ (V' : VT) (r : Int32), (∀ q, q ≠ 3 → V' q = V q) → PX b t V' (nmP b t lo hi p) → ((nmP b t lo hi p).2 = 0 → r = nv b t p) → K r V') : wp_X6_readNumber V lo hi K := by
  obtain ⟨e1, e2, e3, e4, e5, e6, e7⟩ := id P
  have hl := @rl_le b t p.1
  unfold wp_X6_readNumber
  rw [e2]
  refine ⟨t - p.1 + 1, x_num_L (a := p.1) e1 e4 e7 ?_ (t - p.1) 0 (by omega) (by rw [Nat.add_zero, Nat.add_zero]; rfl)⟩
  unfold nmP at h
  unfold wp_X6_readNumber_b63 wp_X6_readNumber_b83 wp_X6_readNumber_b105
  rw [e2]
  by_cases f : p.2 = 0
  · rw [if_pos f] at h
    have z : nI p.2 = 0 := by rw [f]; rfl
    have bad : ∀ n, n ≤ 3 → ¬ n = 0 → (∀ (V' : VT) (r : Int32), (∀ q, q ≠ 3 → V' q = V q) → PX b t V' (p.1, n) → ((p.1, n).2 = 0 → r = nv b t p) → K r V') → wp_X6_fail V (nI n) (fun V13 => (¬ V13 3 3 = 0 → K (vx b p.1 (rl b t p.1)) V13) ∧ (V13 3 3 = 0 → ∀ V15 : VT, V15 = up2 V13 3 2 (nI (p.1 + rl b t p.1)) → K (vx b p.1 (rl b t p.1)) V15)) := by
      intro n hn n0 hh
      refine x_fail0 P f hn (fun V2 f2 P2 => ⟨fun _ => hh V2 _ f2 P2 (fun q => absurd q n0), fun q => absurd q ?_⟩)
      rw [P2.2.2.1]
      exact nI_ne0 (Nat.pos_of_ne_zero n0) (by omega)
    refine ⟨fun c => ?_, fun c => ?_⟩
    · have c' := (nI_eq (by omega) (by omega)).mp c
      rw [if_pos (by omega)] at h
      exact bad 1 (by decide) (by decide) h
    · have c0 : ¬ rl b t p.1 = 0 := fun q => c (by rw [q]; rfl)
      rw [if_neg c0] at h
      rw [show (2 : Int32) = nI 2 from rfl, nI_add, nI_leI (by omega) (by omega)]
      refine ⟨fun c2 => ?_, fun c2 => ?_⟩
      · rw [if_neg (by omega)] at h
        rcases in_or (nv b t p) lo hi with ⟨r1, r2⟩ | r
        · rw [if_neg r1, if_pos r2] at h
          refine isOut_in r1 r2 ⟨fun _ => ⟨fun q => absurd (e3.trans z) q, fun _ => ?_⟩, fun q => absurd rfl q⟩
          intro V15 v15
          refine h V15 _ (fun q hq => by rw [v15, up2_ne hq]) ⟨?_, ?_, ?_, fun i hi => ?_, by show p.1 + rl b t p.1 ≤ t; omega, by show 0 ≤ 3; omega, e7⟩ (fun _ => rfl)
          · rw [v15, up2_selfn (by decide)]; exact e1
          · rw [v15, up2_self]
          · rw [v15, up2_selfn (by decide), e3]; exact z
          · rw [v15, up2_ne (by decide)]; exact e4 i hi
        · refine isOut_out r ⟨fun q => absurd q (by decide), fun _ => bad 2 (by decide) (by decide) ?_⟩
          by_cases r1 : nv b t p < lo
          · rw [if_pos r1] at h; exact h
          · rw [if_neg r1, if_neg (r.resolve_left r1)] at h; exact h
      · rw [if_pos (by omega)] at h
        exact bad 1 (by decide) (by decide) h
  · rw [if_neg f] at h
    have nz : ¬ V 3 3 = 0 := by rw [e3]; exact nI_ne0 (by omega) (by omega)
    have stay : ∀ r : Int32, (¬ V 3 3 = 0 → K r V) ∧ (V 3 3 = 0 → ∀ V15 : VT, V15 = up2 V 3 2 (nI (p.1 + rl b t p.1)) → K r V15) := fun r => ⟨fun _ => h V r (fun _ _ => rfl) P (fun q => absurd q f), fun q => absurd q nz⟩
    refine ⟨fun _ => x_failN P f (stay _), fun _ => ⟨fun _ => isOut_c ⟨fun _ => stay _, fun _ => x_failN P f (stay _)⟩, fun _ => x_failN P f (stay _)⟩⟩
end LANEX
def lw1 (b : Nat → Int32) (t : Nat) : Nat × Nat := sgP b t 104 (0, 0)
def lw2 (b : Nat → Int32) (t : Nat) : Nat × Nat := nmP b t 1 9 (lw1 b t)
def lw3 (b : Nat → Int32) (t : Nat) : Nat × Nat := sgP b t 44 (lw2 b t)
def lw4 (b : Nat → Int32) (t : Nat) : Nat × Nat := nmP b t 0 4 (lw3 b t)
def lw5 (b : Nat → Int32) (t : Nat) : Nat × Nat := sgP b t 44 (lw4 b t)
def lw6 (b : Nat → Int32) (t : Nat) : Nat × Nat := nmP b t 1 5 (lw5 b t)
def lw7 (b : Nat → Int32) (t : Nat) : Nat × Nat := sgP b t 44 (lw6 b t)
def lw8 (b : Nat → Int32) (t : Nat) : Nat × Nat := nmP b t 0 3 (lw7 b t)
def lw9 (b : Nat → Int32) (t : Nat) : Nat × Nat := sgP b t 59 (lw8 b t)
theorem lw_0 {b : Nat → Int32} {t : Nat} (h : (lw9 b t).2 = 0) : (lw8 b t).2 = 0 ∧ (lw6 b t).2 = 0 ∧ (lw4 b t).2 = 0 ∧ (lw2 b t).2 = 0 := by
  have h8 := sg0 h
  have h6 := sg0 (nm0 h8).1
  have h4 := sg0 (nm0 h6).1
  have h2 := sg0 (nm0 h4).1
  exact ⟨h8, h6, h4, h2⟩
theorem x_readLaw {b : Nat → Int32} {t : Nat} {V : VT} {K : VT → Prop} (P : PX b t V (0, 0)) (h : ∀ V' : VT, (∀ q, q ≠ 3 → q ≠ 21 → q ≠ 25 → V' q = V q) → PX b t V' (lw9 b t) → ((lw9 b t).2 = 0 → V' 21 6 = nv b t (lw5 b t) ∧ V' 21 7 = nv b t (lw7 b t) ∧ hp V' 25 = (0, nv b t (lw1 b t), nv b t (lw3 b t) - 2, 0)) → V' 21 8 = 0 → K V') : wp_X6_readLaw V 21 K := by
  refine x_sign P (fun V1 f1 P1 => x_number P1 (fun V2 r2 f2 P2 g2 => x_sign P2 (fun V3 f3 P3 => x_number P3 (fun V4 r4 f4 P4 g4 => x_sign P4 (fun V5 f5 P5 => x_number P5 (fun V6 r6 f6 P6 g6 => ?_))))))
  intro V10 v10
  have P10 := P6.cg (V' := V10) (by rw [v10, up2_ne (by decide)]) (by rw [v10, up2_ne (by decide)])
  refine x_sign P10 (fun V11 f11 P11 => x_number P11 (fun V12 r12 f12 P12 g12 => ?_))
  intro V14 v14
  have P14 := P12.cg (V' := V14) (by rw [v14, up2_ne (by decide)]) (by rw [v14, up2_ne (by decide)])
  refine x_sign P14 (fun V15 f15 P15 => x_stand (fun V16 f16 g16 => ?_))
  intro V17 v17
  have fr1 : ∀ q, q ≠ 3 → V6 q = V q := fun q hq => by rw [f6 q hq, f5 q hq, f4 q hq, f3 q hq, f2 q hq, f1 q hq]
  have fr2 : ∀ q, q ≠ 3 → q ≠ 21 → V14 q = V q := fun q hq h21 => by rw [v14, up2_ne h21, f12 q hq, f11 q hq, v10, up2_ne h21, fr1 q hq]
  refine h V17 (fun q q3 q21 q25 => by rw [v17, up2_ne q21, f16 q q25, f15 q q3, fr2 q q3 q21]) (P15.cg (by rw [v17, up2_ne (by decide), f16 3 (by decide)]) (by rw [v17, up2_ne (by decide), f16 4 (by decide)])) (fun z => ?_) (by rw [v17, up2_self])
  obtain ⟨z8, z6, z4, z2⟩ := lw_0 z
  refine ⟨?_, ?_, ?_⟩
  · rw [v17, up2_selfn (by decide), f16 21 (by decide), f15 21 (by decide), v14, up2_selfn (by decide), f12 21 (by decide), f11 21 (by decide), v10, up2_self]
    exact g6 z6
  · rw [v17, up2_selfn (by decide), f16 21 (by decide), f15 21 (by decide), v14, up2_self]
    exact g12 z8
  · have e : hp V17 25 = hp V16 25 := by
      simp only [hp, v17, up2_ne (show (25 : Nat) ≠ 21 by decide)]
    rw [e, g16, g2 z2, g4 z4]
    rfl
-- letters
def gk (x : Int32) : Int32 := if x = 102 then 0 else if x = 100 then 1 else if x = 117 then 2 else if x = 114 then 3 else if x = 115 then 4 else if x = 119 then 5 else -1
def sk (x : Int32) : Int32 := if x = 118 then 0 else if x = 105 then 1 else if x = 111 then 2 else if x = 98 then 3 else if x = 116 then 4 else -1
theorem lk_step {b : Nat → Int32} {t q1 n i : Nat} {V : VT} {p : Nat × Nat} {K : Int32 → VT → Prop} {y : Int32} (P : PX b t V p) (hi : i < stN q1) (hN : stN q1 ≤ 6) (hy : stF q1 i = y) (lt : p.1 < t) (h1 : b p.1 = y → K (nI i) V) (h2 : ¬ b p.1 = y → wp_X6_lookUp_L2 K n V q1 (nI (i + 1))) : wp_X6_lookUp_L2 K (n + 1) V q1 (nI i) := by
  obtain ⟨e1, e2, e3, e4, e5, e6, e7⟩ := id P
  unfold wp_X6_lookUp_L2
  rw [e1, e2, nI_c (by omega), nI_c (by omega), e4 _ lt, hy, nI_1]
  exact ⟨fun c => absurd c (nI_ge (by omega) (by omega)), fun _ => ⟨fun c => absurd c (nI_ge (by omega) (by omega)), fun _ => ⟨vpn (by omega) (by decide), vpn hi (by omega), h2, h1⟩⟩⟩
theorem lk_end {b : Nat → Int32} {t q1 n : Nat} {V : VT} {K : Int32 → VT → Prop} (h : K (-1) V) : wp_X6_lookUp_L2 K (n + 1) V q1 (nI (stN q1)) :=
  ⟨fun _ => h, fun c => absurd (Int32.le_refl _) c⟩
theorem lk_out {b : Nat → Int32} {t q1 n : Nat} {V : VT} {p : Nat × Nat} {K : Int32 → VT → Prop} (P : PX b t V p) (hi : 0 < stN q1) (hN : stN q1 ≤ 6) (ge : t ≤ p.1) (h : K (-1) V) : wp_X6_lookUp_L2 K (n + 1) V q1 0 := by
  obtain ⟨e1, e2, e3, e4, e5, e6, e7⟩ := id P
  unfold wp_X6_lookUp_L2
  rw [e1, e2]
  exact ⟨fun c => absurd c (nI_ge (a := 0) (by omega) (by omega)), fun _ => ⟨fun _ => h, fun c => absurd (nI_le ge (by omega)) c⟩⟩
theorem x_lookG {b : Nat → Int32} {t : Nat} {V : VT} {p : Nat × Nat} {K : Int32 → VT → Prop} (P : PX b t V p) (h : K (if t ≤ p.1 then -1 else gk (b p.1)) V) : wp_X6_lookUp V 0 K := by
  refine ⟨7, ?_⟩
  by_cases c : t ≤ p.1
  · rw [if_pos c] at h
    exact lk_out P (by decide) (by decide) c h
  · rw [if_neg c] at h
    have lt : p.1 < t := by omega
    unfold gk at h
    refine lk_step (i := 0) P (by decide) (by decide) (y := 102) rfl lt (fun d => by rw [if_pos d] at h; exact h) (fun d0 => ?_)
    rw [if_neg d0] at h
    refine lk_step (i := 1) P (by decide) (by decide) (y := 100) rfl lt (fun d => by rw [if_pos d] at h; exact h) (fun d1 => ?_)
    rw [if_neg d1] at h
    refine lk_step (i := 2) P (by decide) (by decide) (y := 117) rfl lt (fun d => by rw [if_pos d] at h; exact h) (fun d2 => ?_)
    rw [if_neg d2] at h
    refine lk_step (i := 3) P (by decide) (by decide) (y := 114) rfl lt (fun d => by rw [if_pos d] at h; exact h) (fun d3 => ?_)
    rw [if_neg d3] at h
    refine lk_step (i := 4) P (by decide) (by decide) (y := 115) rfl lt (fun d => by rw [if_pos d] at h; exact h) (fun d4 => ?_)
    rw [if_neg d4] at h
    refine lk_step (i := 5) P (by decide) (by decide) (y := 119) rfl lt (fun d => by rw [if_pos d] at h; exact h) (fun d5 => ?_)
    rw [if_neg d5] at h
    exact lk_end (b := b) (t := t) (q1 := 0) h
theorem x_lookS {b : Nat → Int32} {t : Nat} {V : VT} {p : Nat × Nat} {K : Int32 → VT → Prop} (P : PX b t V p) (lt : p.1 < t) (h : K (sk (b p.1)) V) : wp_X6_lookUp V 1 K := by
  refine ⟨6, ?_⟩
  unfold sk at h
  refine lk_step (i := 0) P (by decide) (by decide) (y := 118) rfl lt (fun d => by rw [if_pos d] at h; exact h) (fun d0 => ?_)
  rw [if_neg d0] at h
  refine lk_step (i := 1) P (by decide) (by decide) (y := 105) rfl lt (fun d => by rw [if_pos d] at h; exact h) (fun d1 => ?_)
  rw [if_neg d1] at h
  refine lk_step (i := 2) P (by decide) (by decide) (y := 111) rfl lt (fun d => by rw [if_pos d] at h; exact h) (fun d2 => ?_)
  rw [if_neg d2] at h
  refine lk_step (i := 3) P (by decide) (by decide) (y := 98) rfl lt (fun d => by rw [if_pos d] at h; exact h) (fun d3 => ?_)
  rw [if_neg d3] at h
  refine lk_step (i := 4) P (by decide) (by decide) (y := 116) rfl lt (fun d => by rw [if_pos d] at h; exact h) (fun d4 => ?_)
  rw [if_neg d4] at h
  exact lk_end (b := b) (t := t) (q1 := 1) h
-- grounds
def gn (b : Nat → Int32) : Nat → Nat → Nat
  | 0, _ => 0
  | m + 1, a => if gk (b a) < 0 then 0 else gn b m (a + 1) + 1
def gc (b : Nat → Int32) (t a : Nat) : Nat := gn b (min 24 (t - a)) a
theorem gn_le (b : Nat → Int32) : ∀ m a, gn b m a ≤ m
  | 0, _ => Nat.le_refl _
  | m + 1, a => by
    rw [gn]
    have := gn_le b m (a + 1)
    split <;> omega
theorem gc_le {b : Nat → Int32} {t a : Nat} : gc b t a ≤ 24 ∧ gc b t a ≤ t - a := by
  have := gn_le b (min 24 (t - a)) a
  unfold gc
  omega
def grP (b : Nat → Int32) (t : Nat) (p : Nat × Nat) : Nat × Nat := if p.2 = 0 then (if gc b t p.1 = 0 then (p.1, 1) else (p.1 + gc b t p.1, 0)) else p
theorem gr0 {b : Nat → Int32} {t : Nat} {p : Nat × Nat} (h : (grP b t p).2 = 0) : p.2 = 0 ∧ 0 < gc b t p.1 := by
  unfold grP at h
  by_cases q : p.2 = 0
  · rw [if_pos q] at h
    refine ⟨q, ?_⟩
    by_cases q1 : gc b t p.1 = 0
    · rw [if_pos q1] at h; exact absurd (show (1 : Nat) = 0 from h) (by decide)
    · omega
  · rw [if_neg q] at h; exact absurd h q
def lw10 (b : Nat → Int32) (t : Nat) : Nat × Nat := sgP b t 103 (lw9 b t)
def lw11 (b : Nat → Int32) (t : Nat) : Nat × Nat := grP b t (lw10 b t)
def lw12 (b : Nat → Int32) (t : Nat) : Nat × Nat := sgP b t 59 (lw11 b t)
section GROUNDX
variable {b : Nat → Int32} {t a : Nat} {K : VT → Prop} {V0 : VT}
/-- the grounds' end: none at all is a fault -/
theorem x_gr_end {V : VT} {p : Nat × Nat} {g : Nat} (P : PX b t V p) (hg : V 21 4 = nI g) (g24 : g ≤ 24) (h : ∀ V' : VT, (∀ q, q ≠ 3 → V' q = V q) → PX b t V' (sgP b t 59 (if p.2 = 0 then (if g = 0 then (p.1, 1) else p) else p)) → K V') : wp_X6_readGrounds_b80 K V 21 := by
  unfold wp_X6_readGrounds_b80 wp_X6_readGrounds_b92
  rw [hg]
  by_cases f : p.2 = 0
  · rw [if_pos f] at h
    refine ⟨fun c => ?_, fun c => ?_⟩
    · rw [if_neg (fun q => c (by rw [q]; rfl))] at h
      exact x_sign P h
    · have : g = 0 := (nI_eq (a := g) (b := 0) (by omega) (by decide)).mp c
      rw [if_pos this] at h
      exact x_fail0 (n := 1) P f (by decide) (fun V2 f2 P2 => x_sign P2 (fun V3 f3 P3 => h V3 (fun q hq => (f3 q hq).trans (f2 q hq)) P3))
  · rw [if_neg f] at h
    exact ⟨fun _ => x_sign P h, fun _ => x_failN P f (x_sign P h)⟩
theorem x_gr_L (ha : a ≤ t) (h : ∀ V' : VT, (∀ q, q ≠ 3 → q ≠ 21 → q ≠ 22 → V' q = V0 q) → (∀ j, j ≠ 4 → V' 21 j = V0 21 j) → PX b t V' (sgP b t 59 (grP b t (a, 0))) → V' 21 4 = nI (gc b t a) → (∀ i, i < gc b t a → V' 22 i = gk (b (a + i))) → K V') : ∀ (m k : Nat) (V : VT), m + k = min 24 (t - a) → gn b m (a + k) + k = gc b t a → (∀ q, q ≠ 3 → q ≠ 21 → q ≠ 22 → V q = V0 q) → (∀ j, j ≠ 4 → V 21 j = V0 21 j) → PX b t V (a + k, 0) → V 21 4 = nI k → (∀ i, i < k → V 22 i = gk (b (a + i))) → wp_X6_readGrounds_L19 K (m + 1) V 21 (if t ≤ a + k then -1 else gk (b (a + k))) := by
  have fin : ∀ (k : Nat) (V : VT), k = gc b t a → (∀ q, q ≠ 3 → q ≠ 21 → q ≠ 22 → V q = V0 q) → (∀ j, j ≠ 4 → V 21 j = V0 21 j) → PX b t V (a + k, 0) → V 21 4 = nI k → (∀ i, i < k → V 22 i = gk (b (a + i))) → wp_X6_readGrounds_b80 K V 21 := by
    intro k V hk f1 f2 P e g
    have gl := @gc_le b t a
    refine x_gr_end P e (by omega) (fun V2 f3 P2 => h V2 (fun q q1 q2 q3 => (f3 q q1).trans (f1 q q1 q2 q3)) (fun j hj => by rw [f3 21 (by decide)]; exact f2 j hj) ?_ (by rw [f3 21 (by decide), e, hk]) (fun i hi => by rw [f3 22 (by decide)]; exact g i (by omega)))
    rw [if_pos rfl] at P2
    unfold grP
    rw [if_pos rfl]
    show PX b t V2 (sgP b t 59 (if gc b t a = 0 then (a, 1) else (a + gc b t a, 0)))
    rw [← hk]
    by_cases z : k = 0
    · rw [if_pos z] at P2 ⊢
      rw [z] at P2
      exact P2
    · rw [if_neg z] at P2 ⊢
      exact P2
  intro m
  induction m with
  | zero =>
    intro k V hm hg f1 f2 P e g
    rw [gn, Nat.zero_add] at hg
    have z3 : V 3 3 = 0 := P.2.2.1
    refine ⟨fun c => absurd z3 c, fun _ => ⟨fun _ => fin k V hg f1 f2 P e g, fun c => ⟨fun _ => fin k V hg f1 f2 P e g, fun d => ?_⟩⟩⟩
    by_cases q : t ≤ a + k
    · rw [if_pos q] at c
      exact absurd (by decide) c
    · rw [e] at d
      exact absurd (nI_le (a := 24) (by omega) (by omega)) d
  | succ m ih =>
    intro k V hm hg f1 f2 P e g
    have z3 : V 3 3 = 0 := P.2.2.1
    have lt : ¬ t ≤ a + k := by omega
    rw [gn] at hg
    rw [if_neg lt]
    refine ⟨fun c => absurd z3 c, fun _ => ⟨fun c => ?_, fun c => ⟨fun d => ?_, fun d => ?_⟩⟩⟩
    · rw [if_pos c] at hg
      exact fin k V (by omega) f1 f2 P e g
    · rw [e] at d
      exact absurd d (nI_ge (b := 24) (by omega) (by decide))
    · rw [if_neg c] at hg
      obtain ⟨e1, e2, e3, e4, e5, e6, e7⟩ := id P
      rw [e]
      refine ⟨vpn (by omega) (by decide), ?_⟩
      rw [nI_c (by omega)]
      intro V9 v9 V10 v10 V11 v11
      have P11 : PX b t V11 (a + (k + 1), 0) := by
        refine ⟨?_, ?_, ?_, fun i hi => ?_, by show a + (k + 1) ≤ t; omega, by show 0 ≤ 3; omega, e7⟩
        · rw [v11, up2_selfn (by decide), v10, up2_ne (by decide), v9, up2_ne (by decide)]; exact e1
        · rw [v11, up2_self, v10, up2_ne (by decide), v9, up2_ne (by decide), e2, nI_1]; rfl
        · rw [v11, up2_selfn (by decide), v10, up2_ne (by decide), v9, up2_ne (by decide)]; exact e3
        · rw [v11, up2_ne (by decide), v10, up2_ne (by decide), v9, up2_ne (by decide)]; exact e4 i hi
      refine x_lookG P11 (ih (k + 1) V11 (by omega) (by rw [show a + (k + 1) = a + k + 1 by omega]; omega) (fun q q1 q2 q3 => ?_) (fun j hj => ?_) P11 ?_ (fun i hi => ?_))
      · rw [v11, up2_ne q1, v10, up2_ne q2, v9, up2_ne q3]; exact f1 q q1 q2 q3
      · rw [v11, up2_ne (by decide), v10, up2_selfn hj, v9, up2_ne (by decide)]; exact f2 j hj
      · rw [v11, up2_ne (by decide), v10, up2_self, v9, up2_ne (by decide), e, nI_1]
      · rw [v11, up2_ne (by decide), v10, up2_ne (by decide), v9]
        by_cases z : i = k
        · rw [z, up2_self]
        · rw [up2_selfn z]; exact g i (by omega)
theorem x_readGrounds {V : VT} {p0 : Nat × Nat} (P : PX b t V p0) (h : ∀ V' : VT, (∀ q, q ≠ 3 → q ≠ 21 → q ≠ 22 → V' q = V q) → (∀ j, j ≠ 4 → V' 21 j = V 21 j) → PX b t V' (sgP b t 59 (grP b t (sgP b t 103 p0))) → ((sgP b t 59 (grP b t (sgP b t 103 p0))).2 = 0 → V' 21 4 = nI (gc b t (sgP b t 103 p0).1) ∧ ∀ i, i < gc b t (sgP b t 103 p0).1 → V' 22 i = gk (b ((sgP b t 103 p0).1 + i))) → K V') : wp_X6_readGrounds V 21 K := by
  refine x_sign P (fun V1 f1 P1 => ?_)
  generalize sgP b t 103 p0 = pz at h P1
  obtain ⟨a, fz⟩ := pz
  intro V2 v2
  have P2 := P1.cg (V' := V2) (by rw [v2, up2_ne (by decide)]) (by rw [v2, up2_ne (by decide)])
  have fa : ∀ q, q ≠ 3 → q ≠ 21 → V2 q = V q := fun q q1 q2 => by rw [v2, up2_ne q2]; exact f1 q q1
  have fb : ∀ j, j ≠ 4 → V2 21 j = V 21 j := fun j hj => by rw [v2, up2_selfn hj, f1 21 (by decide)]
  have e4 : V2 21 4 = nI 0 := by rw [v2, up2_self]; rfl
  refine x_lookG P2 ?_
  have f3 : fz ≤ 3 := P2.2.2.2.2.2.1
  by_cases f : fz = 0
  · subst f
    exact ⟨min 24 (t - a) + 1, x_gr_L (V0 := V2) (a := a) P2.2.2.2.2.1 (fun V3 g1 g2 g3 g4 g5 => h V3 (fun q q1 q2 q3 => (g1 q q1 q2 q3).trans (fa q q1 q2)) (fun j hj => (g2 j hj).trans (fb j hj)) g3 (fun _ => ⟨g4, g5⟩)) (min 24 (t - a)) 0 V2 (by omega) (by rw [Nat.add_zero, Nat.add_zero]; rfl) (fun _ _ _ _ => rfl) (fun _ _ => rfl) P2 e4 (fun i hi => absurd hi (Nat.not_lt_zero i))⟩
  · refine ⟨1, fun _ => ?_, fun c => absurd c ?_⟩
    · refine x_gr_end P2 e4 (by decide) (fun V3 f3 P3 => h V3 (fun q q1 q2 _ => (f3 q q1).trans (fa q q1 q2)) (fun j hj => by rw [f3 21 (by decide)]; exact fb j hj) ?_ (fun z => absurd (gr0 (sg0 z)).1 f))
      have ng : ¬ (a, fz).2 = 0 := f
      rw [if_neg ng] at P3
      unfold grP
      rw [if_neg ng]
      exact P3
    · rw [P2.2.2.1]
      exact nI_ne0 (Nat.pos_of_ne_zero f) (by show fz < 2 ^ 31; omega)
end GROUNDX
