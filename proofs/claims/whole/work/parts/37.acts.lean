/-! acts: kept, taken back -/
theorem s_be {V : VT} {k j : Nat} {K : VT → Prop} (hkj : k ≠ j) (h : ∀ V' : VT, fr V V' k → (∀ i, i < 4 → V' k i = V j i) → K V') : wp_X2_be V k j K := by
  intro V1 e1 V2 e2 V3 e3 V4 e4
  have n1 : V1 j = V j := by rw [e1, up2_ne (Ne.symm hkj)]
  have n2 : V2 j = V j := by rw [e2, up2_ne (Ne.symm hkj), n1]
  have n3 : V3 j = V j := by rw [e3, up2_ne (Ne.symm hkj), n2]
  refine h V4 (by rw [e4, e3, e2, e1]; exact fr_up.up.up.up) (fun i hi => ?_)
  rcases (show i = 0 ∨ i = 1 ∨ i = 2 ∨ i = 3 by omega) with rfl | rfl | rfl | rfl
  · rw [e4, up2_selfn (by decide), e3, up2_selfn (by decide), e2, up2_selfn (by decide), e1, up2_self]
  · rw [e4, up2_selfn (by decide), e3, up2_selfn (by decide), e2, up2_self, n1]
  · rw [e4, up2_selfn (by decide), e3, up2_self, n2]
  · rw [e4, up2_self, n3]
def keptX (X X' : VT) (nx c y0 : Nat) : Prop :=
  (∀ a, a ≠ 5 → a ≠ 7 → a ≠ 8 → a ≠ 9 → a ≠ 52 + nx → X' a = X a) ∧ (∀ i, i < 4 → X' (52 + nx) i = X 20 i) ∧ (X' 7 nx = X 16 8 ∧ ∀ q, q ≠ nx → X' 7 q = X 7 q) ∧ (X' 8 nx = nI y0 ∧ ∀ q, q ≠ nx → X' 8 q = X 8 q) ∧ (X' 9 nx = X 17 y0 ∧ ∀ q, q ≠ nx → X' 9 q = X 9 q) ∧ X' 5 4 = nI ((nx + 1) % 24) ∧ X' 5 5 = nI (if c = 24 then 24 else c + 1)
theorem s_keep {X : VT} {nx c y0 : Nat} {K : VT → Prop} (h4 : X 5 4 = nI nx) (h5 : X 5 5 = nI c) (hn : nx < 24) (hc : c ≤ 24) (hy : y0 < 24) (h : ∀ X', keptX X X' nx c y0 → K X') : wp_X0_keep X 16 (nI y0) K := by
  unfold wp_X0_keep
  rw [h4]
  refine ⟨vpn hn (by decide), ?_⟩
  rw [nI_c (by omega), nI_c (by omega)]
  refine s_be (by omega) (fun V2 f2 g2 => ?_)
  have a4 : V2 5 4 = nI nx := by rw [f2 5 (by omega)]; exact h4
  have a5 : V2 5 5 = nI c := by rw [f2 5 (by omega)]; exact h5
  rw [a4]
  refine ⟨vpn hn (by decide), ?_⟩
  rw [nI_c (by omega)]
  intro V4 e4
  have b4 : V4 5 4 = nI nx := by rw [e4, up2_ne (by decide)]; exact a4
  rw [b4]
  refine ⟨vpn hn (by decide), ?_⟩
  rw [nI_c (by omega)]
  intro V6 e6
  have c4 : V6 5 4 = nI nx := by rw [e6, up2_ne (by decide)]; exact b4
  rw [c4]
  refine ⟨vpn hy (by decide), vpn hn (by decide), ?_⟩
  rw [nI_c (by omega)]
  intro V9 e9
  have d4 : V9 5 4 = nI nx := by rw [e9, up2_ne (by decide)]; exact c4
  have d5 : V9 5 5 = nI c := by rw [e9, up2_ne (by decide), e6, up2_ne (by decide), e4, up2_ne (by decide)]; exact a5
  intro V10 e10
  rw [d4, nI_1, show (24 : Int32) = nI 24 from rfl, pk_rem (by omega) (by decide) (by decide)] at e10
  intro V11 e11
  have e5 : V10 5 5 = nI c := by rw [e10, up2_selfn (by decide)]; exact d5
  rw [e5, nI_1] at e11
  have hne : (52 + nx) ≠ 5 ∧ (52 + nx) ≠ 7 ∧ (52 + nx) ≠ 8 ∧ (52 + nx) ≠ 9 := by omega
  have o : ∀ a, a ≠ 5 → V11 a = V9 a := fun a ha => by rw [e11, up2_ne ha, e10, up2_ne ha]
  have v16 : V6 16 = X 16 := by rw [e6, up2_ne (by decide), e4, up2_ne (by decide), f2 16 (by omega)]
  have v17 : V6 17 = X 17 := by rw [e6, up2_ne (by decide), e4, up2_ne (by decide), f2 17 (by omega)]
  refine h V11 ⟨fun a n5 n7 n8 n9 n52 => ?_, fun i hi => ?_, ⟨?_, fun q hq => ?_⟩, ⟨?_, fun q hq => ?_⟩, ⟨?_, fun q hq => ?_⟩, ?_, ?_⟩
  · rw [o a n5, e9, up2_ne n9, e6, up2_ne n8, e4, up2_ne n7, f2 a n52]
  · rw [o _ hne.1, e9, up2_ne hne.2.2.2, e6, up2_ne hne.2.2.1, e4, up2_ne hne.2.1, g2 i hi]
  · rw [o 7 (by decide), e9, up2_ne (by decide), e6, up2_ne (by decide), e4, up2_self, f2 16 (by omega)]
  · rw [o 7 (by decide), e9, up2_ne (by decide), e6, up2_ne (by decide), e4, up2_selfn hq, f2 7 (by omega)]
  · rw [o 8 (by decide), e9, up2_ne (by decide), e6, up2_self]
  · rw [o 8 (by decide), e9, up2_ne (by decide), e6, up2_selfn hq, e4, up2_ne (by decide), f2 8 (by omega)]
  · rw [o 9 (by decide), e9, up2_self, show 16 + 1 = 17 from rfl, v17]
  · rw [o 9 (by decide), e9, up2_selfn hq, e6, up2_ne (by decide), e4, up2_ne (by decide), f2 9 (by omega)]
  · rw [e11, up2_selfn (by decide), e10, up2_self]
  · rw [e11, up2_self]
    show (if nI 24 < nI (c + 1) then nI 24 else nI (c + 1)) = _
    by_cases q : c = 24
    · rw [if_pos q, if_pos (nI_lt (by omega) (by omega))]
    · rw [if_neg q, if_neg (nI_nlt (by omega) (by omega))]
def notedM (M M' : VT) (c : Nat) : Prop :=
  (∀ a, a ≠ 0 → a ≠ 8 → M' a = M a) ∧ (∀ b, b ≠ 22 → M' 0 b = M 0 b) ∧ M' 0 22 = nI (if c = 24 then 24 else c + 1) ∧ (∀ q, q < 29 * (if c = 24 then 23 else c) → M' 8 q = M 8 (q + (if c = 24 then 29 else 0))) ∧ (∀ i, i < 5 → M' 8 (29 * (if c = 24 then 23 else c) + i) = M 0 (16 + i)) ∧ ∀ i, i < 24 → M' 8 (29 * (if c = 24 then 23 else c) + 5 + i) = M 5 (4 + i)
theorem m_notes_L2 {c : Nat} {K : VT → Prop} (hc : c < 24) : ∀ (m k : Nat) (V : VT), k + m = 24 →
    (∀ V' : VT, fr V V' 8 → (∀ q, k ≤ q → q < 24 → V' 8 (29 * c + 5 + q) = V 5 (4 + q)) → (∀ p, p < 29 * c + 5 + k → V' 8 p = V 8 p) → K (up2 V' 0 22 (V' 0 22 + 1))) → wp_X8_notes_L114 K (m + 1) V (nI (29 * c)) (nI k) := by
  intro m
  induction m with
  | zero =>
    intro k V hk h
    exact ⟨fun _ => fun V1 e1 => by subst e1; exact h V fr_rf (fun q h1 h2 => by omega) (fun _ _ => rfl), fun q => absurd (nI_le (a := 24) (b := k) (by omega) (by omega)) q⟩
  | succ m ih =>
    intro k V hk h
    refine ⟨fun q => absurd q (nI_ge (a := k) (b := 24) (by omega) (by decide)), fun _ => ?_⟩
    rw [show (4 : Int32) = nI 4 from rfl, show (5 : Int32) = nI 5 from rfl, nI_add, nI_add, nI_add, nI_1]
    refine ⟨vpn (by omega) (by decide), vpn (by omega) (by decide), ?_⟩
    intro V3 e3
    rw [nI_c (by omega), nI_c (by omega)] at e3
    refine ih (k + 1) V3 (by omega) (fun V' f1 f2 f3 => h V' (by rw [e3] at f1; exact fr_up.tr f1) (fun q h1 h2 => ?_) (fun p hp => ?_))
    · rcases Nat.lt_or_ge k q with z | z
      · rw [f2 q (by omega) h2, e3, up2_ne (by decide)]
      · have : q = k := by omega
        subst this
        rw [f3 _ (by omega), e3, up2_self]
    · rw [f3 p (by omega), e3, up2_selfn (by omega)]
theorem m_notes_b {V : VT} {c : Nat} {K : VT → Prop} (hc : c < 24) (h22 : V 0 22 = nI c) (h : ∀ V' : VT, (∀ a, a ≠ 0 → a ≠ 8 → V' a = V a) → (∀ b, b ≠ 22 → V' 0 b = V 0 b) → V' 0 22 = nI (c + 1) → (∀ q, q < 29 * c → V' 8 q = V 8 q) → (∀ i, i < 5 → V' 8 (29 * c + i) = V 0 (16 + i)) → (∀ i, i < 24 → V' 8 (29 * c + 5 + i) = V 5 (4 + i)) → K V') : wp_X8_notes_b46 K V := by
  unfold wp_X8_notes_b46
  rw [h22, show (29 : Int32) = nI 29 from rfl, pk_mul]
  refine ⟨vpn (by omega) (by decide), ?_⟩
  intro V3 e3
  rw [nI_1]
  refine ⟨vpn (by omega) (by decide), ?_⟩
  intro V5 e5
  rw [show (2 : Int32) = nI 2 from rfl, nI_add]
  refine ⟨vpn (by omega) (by decide), ?_⟩
  intro V7 e7
  rw [show (3 : Int32) = nI 3 from rfl, nI_add]
  refine ⟨vpn (by omega) (by decide), ?_⟩
  intro V9 e9
  rw [show (4 : Int32) = nI 4 from rfl, nI_add]
  refine ⟨vpn (by omega) (by decide), ?_⟩
  intro V11 e11
  rw [nI_c (by omega)] at e3 e5 e7 e9 e11
  have f11 : fr V V11 8 := by rw [e11, e9, e7, e5, e3]; exact fr_up.up.up.up.up
  have z3 : V3 0 = V 0 := by rw [e3, up2_ne (by decide)]
  have z5 : V5 0 = V 0 := by rw [e5, up2_ne (by decide), z3]
  have z7 : V7 0 = V 0 := by rw [e7, up2_ne (by decide), z5]
  have z9 : V9 0 = V 0 := by rw [e9, up2_ne (by decide), z7]
  refine ⟨25, m_notes_L2 hc 24 0 V11 rfl (fun V' g1 g2 g3 => ?_)⟩
  have z0 : V' 0 = V 0 := by rw [g1 0 (by decide), f11 0 (by decide)]
  refine h _ (fun a h1 h2 => by rw [up2_ne h1, g1 a h2, f11 a h2]) (fun b hb => by rw [up2_selfn hb, z0]) (by rw [up2_self, z0, h22, nI_1]) (fun q hq => ?_) (fun i hi => ?_) (fun i hi => ?_)
  · rw [up2_ne (by decide), g3 q (by omega), e11, up2_selfn (by omega), e9, up2_selfn (by omega), e7, up2_selfn (by omega), e5, up2_selfn (by omega), e3, up2_selfn (by omega)]
  · rw [up2_ne (by decide), g3 _ (by omega)]
    rcases (show i = 0 ∨ i = 1 ∨ i = 2 ∨ i = 3 ∨ i = 4 by omega) with rfl | rfl | rfl | rfl | rfl
    · rw [e11, up2_selfn (by omega), e9, up2_selfn (by omega), e7, up2_selfn (by omega), e5, up2_selfn (by omega), e3, Nat.add_zero, up2_self]
    · rw [e11, up2_selfn (by omega), e9, up2_selfn (by omega), e7, up2_selfn (by omega), e5, up2_self, z3]
    · rw [e11, up2_selfn (by omega), e9, up2_selfn (by omega), e7, up2_self, z5]
    · rw [e11, up2_selfn (by omega), e9, up2_self, z7]
    · rw [e11, up2_self, z9]
  · rw [up2_ne (by decide), g2 i (by omega) hi, f11 5 (by decide)]
theorem m_notes_L1 {K : VT → Prop} : ∀ (m k : Nat) (V : VT), k + m = 696 → 29 ≤ k →
    (∀ V' : VT, fr V V' 8 → (∀ q, k ≤ q → q < 696 → V' 8 (q - 29) = V 8 q) → (∀ p, p < k - 29 → V' 8 p = V 8 p) → wp_X8_notes_b46 K (up2 V' 0 22 23)) → wp_X8_notes_L12 K (m + 1) V (nI k) := by
  intro m
  induction m with
  | zero =>
    intro k V hk h29 h
    exact ⟨fun _ => fun V1 e1 => by subst e1; exact h V fr_rf (fun q h1 h2 => by omega) (fun _ _ => rfl), fun q => absurd (nI_le (a := 696) (b := k) (by omega) (by omega)) q⟩
  | succ m ih =>
    intro k V hk h29 h
    refine ⟨fun q => absurd q (nI_ge (a := k) (b := 696) (by omega) (by decide)), fun _ => ?_⟩
    rw [show (29 : Int32) = nI 29 from rfl, pk_sub h29, nI_1]
    refine ⟨vpn (by omega) (by decide), vpn (by omega) (by decide), ?_⟩
    intro V3 e3
    rw [nI_c (by omega), nI_c (by omega)] at e3
    refine ih (k + 1) V3 (by omega) (by omega) (fun V' f1 f2 f3 => h V' (by rw [e3] at f1; exact fr_up.tr f1) (fun q h1 h2 => ?_) (fun p hp => ?_))
    · rcases Nat.lt_or_ge k q with z | z
      · rw [f2 q (by omega) h2, e3, up2_selfn (by omega)]
      · have : q = k := by omega
        subst this
        rw [f3 _ (by omega), e3, up2_self]
    · rw [f3 p (by omega), e3, up2_selfn (by omega)]
theorem m_notes {M : VT} {c : Nat} {K : VT → Prop} (hc : c ≤ 24) (h22 : M 0 22 = nI c) (h : ∀ M', notedM M M' c → K M') : wp_X8_notes M K := by
  unfold wp_X8_notes
  rw [h22]
  refine ⟨fun q => ?_, fun q => ?_⟩
  · have h24 : c ≠ 24 := fun e => q (by rw [e]; rfl)
    refine m_notes_b (by omega) h22 (fun V' a1 a2 a3 a4 a5 a6 => h V' ?_)
    rw [notedM, if_neg h24, if_neg h24, if_neg h24]
    exact ⟨a1, a2, a3, a4, a5, a6⟩
  · have h24 : c = 24 := by
      have := congrArg Int32.toInt q
      rw [nI_toInt (by omega), show (24 : Int32).toInt = 24 from rfl] at this
      omega
    subst h24
    refine ⟨668, m_notes_L1 667 29 M rfl (by decide) (fun V1 f1 f2 _ => m_notes_b (c := 23) (by decide) up2_self (fun V' a1 a2 a3 a4 a5 a6 => h V' ?_))⟩
    rw [notedM, if_pos rfl, if_pos rfl, if_pos rfl]
    refine ⟨fun a h1 h2 => by rw [a1 a h1 h2, up2_ne h1, f1 a h2], fun b hb => by rw [a2 b hb, up2_selfn hb, f1 0 (by decide)], a3, fun q hq => ?_, fun i hi => ?_, fun i hi => ?_⟩
    · rw [a4 q hq, up2_ne (by decide)]
      have := f2 (q + 29) (by omega) (by omega)
      rwa [Nat.add_sub_cancel] at this
    · rw [a5 i hi, up2_selfn (by omega), f1 0 (by decide)]
    · rw [a6 i hi, up2_ne (by decide), f1 5 (by decide)]
/-- one act more: of what was, and of what may be otherwise since: the ground of y0 alone -/
theorem Ract.keep {X M X1 M1 X' M' : VT} {Y T nx c y0 : Nat} (hL : LR X 16 (M 5) (fun i => M 0 (16 + i)) Y T) (a1 : c ≤ 24) (a2 : nx < 24) (a6 : ∀ j, j < c → Ract1 X M Y nx c j) (hy : y0 < Y)
    (hx : keptX X X1 nx c y0) (hm : notedM M M1 c) (x5 : X' 5 = X1 5) (x7 : X' 7 = X1 7) (x8 : X' 8 = X1 8) (x9 : X' 9 = X1 9) (x52 : ∀ a, 52 ≤ a → a < 76 → X' a = X1 a) (m8 : M' 8 = M1 8) (m22 : M' 0 22 = M1 0 22) (m5 : ∀ i, i < Y → i ≠ y0 → M' 5 (4 + i) = M 5 (4 + i)) : Ract X' M' Y := by
  obtain ⟨k1, k2, ⟨k3, k4⟩, ⟨k5, k6⟩, ⟨k7, k8⟩, k9, k10⟩ := hx
  obtain ⟨n1, n2, n3, n4, n5, n6⟩ := hm
  obtain ⟨⟨l1, l2, l3⟩, -, -, -, -, l8, l9, -, l10, l11⟩ := hL
  obtain ⟨fv, hv⟩ := l11 (by omega)
  have hY : Y ≤ 24 := l1
  have old : ∀ (sh c' c2 : Nat), c = c' + sh → c2 = c' + 1 → (sh = 0 ∨ (sh = 1 ∧ c = 24)) → c2 ≤ 24 → (∀ q, q < 29 * c' → M1 8 q = M 8 (q + 29 * sh)) → (∀ i, i < 5 → M1 8 (29 * c' + i) = M 0 (16 + i)) → (∀ i, i < 24 → M1 8 (29 * c' + 5 + i) = M 5 (4 + i)) → X1 5 5 = nI c2 → M1 0 22 = nI c2 → Ract X' M' Y := by
    intro sh c' c2 e1 e2 e3 e4 q1 q2 q3 q4 q5
    refine ⟨(nx + 1) % 24, c2, e4, Nat.mod_lt _ (by decide), by rw [x5, k9], by rw [x5, q4], by rw [m22, q5], fun z => absurd hy (by omega), fun j hj => ?_⟩
    by_cases hjc : j = c'
    · have hp : actP ((nx + 1) % 24) c2 j = nx := by unfold actP; omega
      subst hjc
      unfold Ract1
      rw [hp, x52 _ (by omega) (by omega), x7, x8, x9, m8]
      refine ⟨fun i hi => ?_, ?_, ?_, ⟨y0, hy, k5, fun i hi => ?_⟩, fun i hi => ?_⟩
      · rw [k2 i hi, q2 i (by omega)]; exact l10 i hi
      · rw [k3, q2 4 (by decide)]; exact l8
      · obtain ⟨z1, z2, z3, z4⟩ := hv
        rw [HV, q2 0 (by decide), q2 1 (by decide), q2 2 (by decide), q2 3 (by decide), q2 4 (by decide)]
        exact ⟨z1, z2, z3, z4⟩
      · have hg : gAft M' c2 (j + 1) i = M' 5 (4 + i) := by unfold gAft; rw [if_neg (by omega)]
        rw [q3 i (by omega), hg]
        by_cases w : i = y0
        · subst w; rw [if_pos rfl, k7]; exact (l9 i hi).symm
        · rw [if_neg w, m5 i hi w]
      · rw [q3 i (by omega)]; exact fv.2.2.2.2.1 i hi
    · have hp : actP ((nx + 1) % 24) c2 j = actP nx c (j + sh) := by unfold actP; omega
      have hne : actP nx c (j + sh) ≠ nx := by unfold actP; omega
      have hlt : actP nx c (j + sh) < 24 := Nat.mod_lt _ (by decide)
      have := a6 (j + sh) (by omega)
      unfold Ract1 at this ⊢
      obtain ⟨r1, r2, r3, ⟨y, r4, r5, r6⟩, r7⟩ := this
      rw [hp, x52 _ (by omega) (by omega), x7, x8, x9, m8, k1 _ (by omega) (by omega) (by omega) (by omega) (by omega), k4 _ hne, k6 _ hne, k8 _ hne]
      have s1 : ∀ i, i < 29 → M1 8 (29 * j + i) = M 8 (29 * (j + sh) + i) := fun i hi => by rw [q1 _ (by omega)]; congr 1; omega
      refine ⟨fun i hi => by rw [s1 i (by omega)]; exact r1 i hi, by rw [s1 4 (by decide)]; exact r2, ?_, ⟨y, r4, r5, fun i hi => ?_⟩, fun i hi => ?_⟩
      · obtain ⟨z1, z2, z3, z4⟩ := r3
        rw [HV, s1 0 (by decide), s1 1 (by decide), s1 2 (by decide), s1 3 (by decide), s1 4 (by decide)]
        exact ⟨z1, z2, z3, z4⟩
      · have g1 : gAft M' c2 (j + 1) i = M1 8 (29 * (j + 1) + 5 + i) := by unfold gAft; rw [if_pos (by omega), m8]
        have g2 : gAft M c (j + sh + 1) i = M1 8 (29 * (j + 1) + 5 + i) := by
          unfold gAft
          by_cases w : j + 1 = c'
          · rw [if_neg (by omega), w, q3 i (by omega)]
          · rw [if_pos (by omega), q1 _ (by omega)]
            congr 1
            omega
        rw [Nat.add_assoc (29 * j) 5 i, s1 (5 + i) (by omega), ← Nat.add_assoc, r6 i hi, g1, g2]
      · rw [Nat.add_assoc (29 * j) 5 i, s1 (5 + i) (by omega), ← Nat.add_assoc]
        exact r7 i hi
  by_cases h24 : c = 24
  · rw [if_pos h24] at k10 n3
    rw [if_pos h24] at n4 n5 n6
    rw [if_pos h24] at n4
    exact old 1 23 24 (by omega) rfl (Or.inr ⟨rfl, h24⟩) (by omega) n4 n5 n6 k10 n3
  · rw [if_neg h24] at k10 n3
    rw [if_neg h24] at n4 n5 n6
    rw [if_neg h24] at n4
    exact old 0 c (c + 1) (by omega) rfl (Or.inl rfl) (by omega) n4 n5 n6 k10 n3
