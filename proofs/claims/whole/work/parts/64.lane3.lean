/-! lane: the reference's readers -/
def PM (b : Nat → Int32) (t : Nat) (V : VT) (p : Nat × Nat) : Prop := V 0 8 = nI t ∧ V 0 10 = nI p.2 ∧ (p.2 = 0 → V 0 9 = nI p.1) ∧ (¬ p.2 = 0 → V 0 11 = nI p.1) ∧ (∀ i, i < t → V 7 i = b i) ∧ p.1 ≤ t ∧ p.2 ≤ 3 ∧ t ≤ 100
def FM (V V' : VT) : Prop := (∀ q, q ≠ 0 → V' q = V q) ∧ ∀ j, j ≠ 9 → j ≠ 10 → j ≠ 11 → V' 0 j = V 0 j
theorem FM.rf {V : VT} : FM V V := ⟨fun _ _ => rfl, fun _ _ _ _ => rfl⟩
theorem FM.tr {A B C : VT} (h : FM A B) (g : FM B C) : FM A C := ⟨fun q hq => (g.1 q hq).trans (h.1 q hq), fun j h1 h2 h3 => (g.2 j h1 h2 h3).trans (h.2 j h1 h2 h3)⟩
theorem FM.up {V V' : VT} {j : Nat} {x : Int32} (h : FM V V') (hj : j = 9 ∨ j = 10 ∨ j = 11) : FM V (up2 V' 0 j x) := ⟨fun q hq => by rw [up2_ne hq]; exact h.1 q hq, fun i h1 h2 h3 => by rw [up2_selfn (by omega)]; exact h.2 i h1 h2 h3⟩
theorem PM.cg {b : Nat → Int32} {t : Nat} {V V' : VT} {p : Nat × Nat} (P : PM b t V p) (h0 : ∀ j, 8 ≤ j → j ≤ 11 → V' 0 j = V 0 j) (h7 : V' 7 = V 7) : PM b t V' p := by
  unfold PM
  rw [h0 8 (by decide) (by decide), h0 9 (by decide) (by decide), h0 10 (by decide) (by decide), h0 11 (by decide) (by decide), h7]
  exact P
section LANEM
variable {b : Nat → Int32} {t : Nat} {V : VT} {p : Nat × Nat}
theorem m_here {K : Int32 → VT → Prop} {a : Nat} (e8 : V 0 8 = nI t) (e9 : V 0 9 = nI a) (e7 : ∀ i, i < t → V 7 i = b i) (lt : a < t) (ht : t ≤ 100) (h : K (b a) V) : wp_X8_here V K := by
  unfold wp_X8_here
  rw [e8, e9, nI_c (by omega), e7 a lt]
  exact ⟨fun c => absurd c (nI_ge lt (by omega)), fun _ => ⟨vpn (by omega) (by decide), h⟩⟩
theorem m_wrong0 {n : Nat} {x : Int32} {K : VT → Prop} (P : PM b t V p) (f : p.2 = 0) (hn : n ≤ 3) (n0 : ¬ n = 0) (hx : x = nI p.1) (h : ∀ V' : VT, FM V V' → PM b t V' (p.1, n) → K V') : wp_X8_wrong V (nI n) x K := by
  obtain ⟨e1, e2, e3, e4, e5, e6, e7, e8⟩ := id P
  unfold wp_X8_wrong
  rw [e2, f]
  refine ⟨fun q => absurd rfl q, fun _ => ?_⟩
  intro V2 v2 V3 v3
  refine h V3 (by rw [v3, v2]; exact (FM.rf.up (by decide)).up (by decide)) ⟨?_, ?_, fun z => absurd z n0, fun _ => ?_, fun i hi => ?_, e6, hn, e8⟩
  · rw [v3, up2_selfn (by decide), v2, up2_selfn (by decide)]; exact e1
  · rw [v3, up2_selfn (by decide), v2, up2_self]
  · rw [v3, up2_self]; exact hx
  · rw [v3, up2_ne (by decide), v2, up2_ne (by decide)]; exact e5 i hi
theorem m_wrongN {x y : Int32} {K : VT → Prop} (P : PM b t V p) (f : ¬ p.2 = 0) (h : K V) : wp_X8_wrong V x y K := by
  obtain ⟨e1, e2, e3, e4, e5, e6, e7, e8⟩ := id P
  unfold wp_X8_wrong
  rw [e2]
  exact ⟨fun _ => h, fun q => absurd q (nI_ne0 (by omega) (by omega))⟩
theorem m_mustN {K : VT → Prop} (P : PM b t V p) (f : ¬ p.2 = 0) (h : ∀ V' : VT, FM V V' → PM b t V' p → K V') : wp_X8_must_b35 K V := by
  obtain ⟨e1, e2, e3, e4, e5, e6, e7, e8⟩ := id P
  unfold wp_X8_must_b35 wp_X8_must_b52
  rw [e2]
  refine ⟨fun _ => ?_, fun q => absurd q (nI_ne0 (by omega) (by omega))⟩
  intro V8 v8
  refine h V8 (by rw [v8]; exact FM.rf.up (by decide)) ⟨?_, ?_, fun z => absurd z f, fun z => ?_, fun i hi => ?_, e6, e7, e8⟩
  · rw [v8, up2_selfn (by decide)]; exact e1
  · rw [v8, up2_selfn (by decide)]; exact e2
  · rw [v8, up2_selfn (by decide)]; exact e4 z
  · rw [v8, up2_ne (by decide)]; exact e5 i hi
theorem m_must {c : Int32} {K : VT → Prop} (P : PM b t V p) (h : ∀ V' : VT, FM V V' → PM b t V' (sgP b t c p) → K V') : wp_X8_must V c K := by
  obtain ⟨e1, e2, e3, e4, e5, e6, e7, e8⟩ := id P
  unfold sgP at h
  by_cases f : p.2 = 0
  · rw [if_pos f] at h
    have z : nI p.2 = 0 := by rw [f]; rfl
    have e9 := e3 f
    have b26 : (∀ V' : VT, FM V V' → PM b t V' (p.1, 1) → K V') → wp_X8_must_b26 K V := by
      intro hh
      unfold wp_X8_must_b26
      rw [e9]
      exact m_wrong0 (n := 1) P f (by decide) (by decide) rfl (fun V2 f2 P2 => m_mustN P2 (show ¬ (1 : Nat) = 0 by decide) (fun V3 f3 P3 => hh V3 (f2.tr f3) P3))
    unfold wp_X8_must
    rw [e2, e9, e1]
    refine ⟨fun q => absurd z q, fun _ => ⟨fun q => ?_, fun q => ?_⟩⟩
    · have := (nI_eq (by omega) (by omega)).mp q
      rw [if_pos (by omega)] at h
      exact b26 h
    · have lt : p.1 < t := by
        rcases Nat.lt_or_ge p.1 t with y | y
        · exact y
        · exact absurd (by rw [show p.1 = t by omega]) q
      rw [if_neg (by omega)] at h
      refine m_here e1 e9 e5 lt e8 ⟨fun d => ?_, fun d => ?_⟩
      · rw [if_pos d] at h
        unfold wp_X8_must_b35 wp_X8_must_b52
        rw [e2, e9, nI_1]
        refine ⟨fun y => absurd z y, fun _ => ?_⟩
        intro V8 v8
        refine h V8 (by rw [v8]; exact FM.rf.up (by decide)) ⟨?_, ?_, fun _ => ?_, fun y => absurd rfl y, fun i hi => ?_, by show p.1 + 1 ≤ t; omega, by show 0 ≤ 3; omega, e8⟩
        · rw [v8, up2_selfn (by decide)]; exact e1
        · rw [v8, up2_selfn (by decide), e2]; exact z
        · rw [v8, up2_self]
        · rw [v8, up2_ne (by decide)]; exact e5 i hi
      · rw [if_neg d] at h
        exact b26 h
  · rw [if_neg f] at h
    unfold wp_X8_must
    rw [e2]
    exact ⟨fun _ => m_mustN P f h, fun q => absurd q (nI_ne0 (by omega) (by omega))⟩
def vm (b : Nat → Int32) (a : Nat) : Nat → Int32
  | 0 => 0
  | k + 1 => if k ≤ 2 then 10 * vm b a k + b (a + k) - 48 else vm b a k
theorem vm_vx {b : Nat → Int32} {a : Nat} : ∀ k, k ≤ 3 → vm b a k = vx b a k
  | 0, _ => rfl
  | k + 1, h => by rw [vm, vx, if_pos (by omega), vm_vx k (by omega), Int32.mul_comm]
theorem m_num_L {a : Nat} {lo hi : Int32} {K : Int32 → VT → Prop} (V0 : VT) (ht : t ≤ 100) (h : ∀ V' : VT, FM V0 V' → V' 0 8 = nI t → V' 0 9 = nI (a + rl b t a) → V' 0 10 = 0 → (∀ i, i < t → V' 7 i = b i) → wp_X8_number_b88 K V' lo hi (nI a) (vm b a (rl b t a))) : ∀ (m k : Nat) (V : VT), FM V0 V → V 0 8 = nI t → V 0 9 = nI (a + k) → V 0 10 = 0 → (∀ i, i < t → V 7 i = b i) → a + k + m = t → rn b m (a + k) + k = rl b t a → wp_X8_number_L17 K (m + 1) V lo hi (nI a) (vm b a k) := by
  intro m
  induction m with
  | zero =>
    intro k V F e8 e9 e10 e7 hk hr
    rw [rn, Nat.zero_add] at hr
    rw [← hr] at h
    refine ⟨fun _ => h V F e8 e9 e10 e7, fun c => absurd ?_ c⟩
    rw [e8, e9]
    exact nI_le (by omega) (by omega)
  | succ m ih =>
    intro k V F e8 e9 e10 e7 hk hr
    rw [rn] at hr
    have done : k = rl b t a → wp_X8_number_b88 K V lo hi (nI a) (vm b a k) := fun q => by
      rw [← q] at h
      exact h V F e8 e9 e10 e7
    unfold wp_X8_number_L17
    rw [e8, e9]
    refine ⟨fun c => absurd c (nI_ge (by omega) (by omega)), fun _ => ?_⟩
    refine m_here e8 e9 e7 (by omega) ht ?_
    rcases in_or (b (a + k)) 48 57 with ⟨r1, r2⟩ | r
    · refine in_in (lo := 48) (hi := 57) rfl rfl r1 r2 ⟨fun c => absurd c (by decide), fun _ => ?_⟩
      rw [if_neg r1, if_neg (Int32.not_lt.mpr r2)] at hr
      have nx : ∀ x : Int32, x = vm b a (k + 1) → wp_X8_number_b73 K (wp_X8_number_L17 K (m + 1)) V lo hi (nI a) x := by
        intro x ex
        subst ex
        unfold wp_X8_number_b73
        rw [e9, nI_1]
        intro V17 v17
        refine ih (k + 1) V17 (by rw [v17]; exact F.up (by decide)) ?_ ?_ ?_ (fun i hi => ?_) (by omega) (by rw [show a + (k + 1) = a + k + 1 by omega]; omega)
        · rw [v17, up2_selfn (by decide)]; exact e8
        · rw [v17, up2_self]; rfl
        · rw [v17, up2_selfn (by decide)]; exact e10
        · rw [v17, up2_ne (by decide)]; exact e7 i hi
      rw [e9, pk_sub (by omega), show a + k - a = k by omega, show (2 : Int32) = nI 2 from rfl, nI_leI (by omega) (by decide)]
      refine ⟨fun c => m_here e8 e9 e7 (by omega) ht (nx _ ?_), fun c => nx _ ?_⟩
      · rw [vm, if_pos c]
      · rw [vm, if_neg c]
    · refine in_out (lo := 48) (hi := 57) rfl rfl r ⟨fun _ => done ?_, fun c => absurd rfl c⟩
      by_cases r1 : b (a + k) < 48
      · rw [if_pos r1] at hr; omega
      · rw [if_neg r1, if_pos (Int32.not_le.mp (r.resolve_left r1))] at hr; omega
theorem m_number {lo hi : Int32} {K : Int32 → VT → Prop} (P : PM b t V p) (h : ∀ (V' : VT) (r : Int32), FM V V' → PM b t V' (nmP b t lo hi p) → ((nmP b t lo hi p).2 = 0 → r = nv b t p) → K r V') : wp_X8_number V lo hi K := by
  obtain ⟨e1, e2, e3, e4, e5, e6, e7, e8⟩ := id P
  have hl := @rl_le b t p.1
  unfold nmP at h
  unfold wp_X8_number
  rw [e2]
  by_cases f : p.2 = 0
  · rw [if_pos f] at h
    have z : nI p.2 = 0 := by rw [f]; rfl
    have e9 := e3 f
    refine ⟨fun _ => ?_, fun q => absurd z q⟩
    rw [e9]
    refine ⟨t - p.1 + 1, m_num_L (a := p.1) V e8 (fun V1 F1 g8 g9 g10 g7 => ?_) (t - p.1) 0 V FM.rf e1 (by rw [Nat.add_zero]; exact e9) (by rw [e2]; exact z) e5 (by omega) (by rw [Nat.add_zero, Nat.add_zero]; rfl)⟩
    have Pq : PM b t V1 (p.1 + rl b t p.1, 0) := ⟨g8, g10, fun _ => g9, fun q => absurd rfl q, g7, by show p.1 + rl b t p.1 ≤ t; omega, by show 0 ≤ 3; omega, e8⟩
    have bad : ∀ n, n ≤ 3 → ¬ n = 0 → (∀ (V' : VT) (r : Int32), FM V V' → PM b t V' (p.1, n) → ((p.1, n).2 = 0 → r = nv b t p) → K r V') → wp_X8_wrong V1 (nI n) (nI p.1) (fun V18 => K (vm b p.1 (rl b t p.1)) V18) := by
      intro n hn n0 hh
      unfold wp_X8_wrong
      rw [g10]
      refine ⟨fun q => absurd rfl q, fun _ => ?_⟩
      intro V2 v2 V3 v3
      refine hh V3 _ (by rw [v3, v2]; exact (F1.up (by decide)).up (by decide)) ⟨?_, ?_, fun y => absurd y n0, fun _ => ?_, fun i hi => ?_, e6, hn, e8⟩ (fun y => absurd y n0)
      · rw [v3, up2_selfn (by decide), v2, up2_selfn (by decide)]; exact g8
      · rw [v3, up2_selfn (by decide), v2, up2_self]
      · rw [v3, up2_self]
      · rw [v3, up2_ne (by decide), v2, up2_ne (by decide)]; exact g7 i hi
    unfold wp_X8_number_b88 wp_X8_number_b106
    rw [g9]
    refine ⟨fun c => ?_, fun c => ?_⟩
    · have c' := (nI_eq (by omega) (by omega)).mp c
      rw [if_pos (by omega)] at h
      exact bad 1 (by decide) (by decide) h
    · have c0 : ¬ rl b t p.1 = 0 := fun q => c (by rw [q]; rfl)
      rw [if_neg c0] at h
      rw [pk_sub (by omega), show p.1 + rl b t p.1 - p.1 = rl b t p.1 by omega, show (2 : Int32) = nI 2 from rfl, nI_leI (by omega) (by decide)]
      refine ⟨fun c2 => ?_, fun c2 => ?_⟩
      · rw [if_neg (by omega)] at h
        have ev : vm b p.1 (rl b t p.1) = nv b t p := vm_vx _ (by omega)
        rw [ev] at bad ⊢
        rcases in_or (nv b t p) lo hi with ⟨r1, r2⟩ | r
        · rw [if_neg r1, if_pos r2] at h
          exact in_in rfl rfl r1 r2 ⟨fun _ => h V1 _ F1 Pq (fun _ => rfl), fun q => absurd q (by decide)⟩
        · refine in_out rfl rfl r ⟨fun q => absurd rfl q, fun _ => bad 2 (by decide) (by decide) ?_⟩
          by_cases r1 : nv b t p < lo
          · rw [if_pos r1] at h; exact h
          · rw [if_neg r1, if_neg (r.resolve_left r1)] at h; exact h
      · rw [if_pos (by omega)] at h
        exact bad 1 (by decide) (by decide) h
  · rw [if_neg f] at h
    exact ⟨fun q => absurd q (nI_ne0 (by omega) (by omega)), fun _ => h V lo FM.rf P (fun q => absurd q f)⟩
end LANEM
theorem m_readLaw {b : Nat → Int32} {t : Nat} {V : VT} {K : VT → Prop} (P : PM b t V (0, 0)) (h : ∀ V' : VT, (∀ q, q ≠ 0 → q ≠ 6 → V' q = V q) → (∀ j, j ≠ 9 → j ≠ 10 → j ≠ 11 → j ≠ 13 → j ≠ 14 → V' 0 j = V 0 j) → (∀ j, j ≠ 2 → j ≠ 3 → V' 6 j = V 6 j) → PM b t V' (lw9 b t) → ((lw9 b t).2 = 0 → V' 6 2 = nv b t (lw5 b t) ∧ V' 6 3 = nv b t (lw7 b t) ∧ V' 0 13 = nv b t (lw1 b t) ∧ V' 0 14 = nv b t (lw3 b t) - 2) → K V') : wp_X8_readLaw V K := by
  refine m_must P (fun V1 f1 P1 => m_number P1 (fun V2 r2 f2 P2 g2 => ?_))
  intro V4 v4
  have P4 := P2.cg (V' := V4) (fun j h1 h2 => by rw [v4, up2_selfn (by omega)]) (by rw [v4, up2_ne (by decide)])
  refine m_must P4 (fun V5 f5 P5 => m_number P5 (fun V6 r6 f6 P6 g6 => ?_))
  intro V8 v8
  have P8 := P6.cg (V' := V8) (fun j h1 h2 => by rw [v8, up2_selfn (by omega)]) (by rw [v8, up2_ne (by decide)])
  refine m_must P8 (fun V9 f9 P9 => m_number P9 (fun V10 r10 f10 P10 g10 => ⟨vin (by decide), ?_⟩))
  rw [cn2]
  intro V13 v13
  have P13 := P10.cg (V' := V13) (fun j h1 h2 => by rw [v13, up2_ne (by decide)]) (by rw [v13, up2_ne (by decide)])
  refine m_must P13 (fun V14 f14 P14 => m_number P14 (fun V15 r15 f15 P15 g15 => ⟨vin (by decide), ?_⟩))
  rw [cn3]
  intro V18 v18
  have P18 := P15.cg (V' := V18) (fun j h1 h2 => by rw [v18, up2_ne (by decide)]) (by rw [v18, up2_ne (by decide)])
  refine m_must P18 (fun V19 f19 P19 => ?_)
  have o6 : ∀ q, q ≠ 0 → V10 q = V q := fun q hq => by rw [f10.1 q hq, f9.1 q hq, v8, up2_ne hq, f6.1 q hq, f5.1 q hq, v4, up2_ne hq, f2.1 q hq, f1.1 q hq]
  have o19 : ∀ j, j ≠ 9 → j ≠ 10 → j ≠ 11 → V19 0 j = V8 0 j := fun j h1 h2 h3 => by rw [f19.2 j h1 h2 h3, v18, up2_ne (by decide), f15.2 j h1 h2 h3, f14.2 j h1 h2 h3, v13, up2_ne (by decide), f10.2 j h1 h2 h3, f9.2 j h1 h2 h3]
  have x6 : V19 6 = up2 V15 6 3 r15 6 := by rw [f19.1 6 (by decide), v18]
  have x15 : V15 6 = up2 V10 6 2 r10 6 := by rw [f15.1 6 (by decide), f14.1 6 (by decide), v13]
  refine h V19 (fun q q0 q6 => ?_) (fun j h1 h2 h3 h4 h5 => ?_) (fun j h1 h2 => ?_) P19 (fun z => ?_)
  · rw [f19.1 q q0, v18, up2_ne q6, f15.1 q q0, f14.1 q q0, v13, up2_ne q6]; exact o6 q q0
  · rw [o19 j h1 h2 h3, v8, up2_selfn h5, f6.2 j h1 h2 h3, f5.2 j h1 h2 h3, v4, up2_selfn h4, f2.2 j h1 h2 h3, f1.2 j h1 h2 h3]
  · rw [x6, up2_selfn h2, x15, up2_selfn h1, o6 6 (by decide)]
  · obtain ⟨z8, z6, z4, z2⟩ := lw_0 z
    refine ⟨?_, ?_, ?_, ?_⟩
    · rw [x6, up2_selfn (by decide), x15, up2_self]; exact g10 z6
    · rw [x6, up2_self]; exact g15 z8
    · rw [o19 13 (by decide) (by decide) (by decide), v8, up2_selfn (by decide), f6.2 13 (by decide) (by decide) (by decide), f5.2 13 (by decide) (by decide) (by decide), v4, up2_self]; exact g2 z2
    · rw [o19 14 (by decide) (by decide) (by decide), v8, up2_self, g6 z4]; rfl
theorem m_groundOf {V : VT} {x : Int32} {K : Int32 → VT → Prop} (h : K (gk x) V) : wp_X8_groundOf V x K := by
  unfold gk at h
  refine ⟨fun c0 => ⟨fun c1 => ⟨fun c2 => ⟨fun c3 => ⟨fun c4 => ⟨fun c5 => ?_, fun c5 => ?_⟩, fun c4 => ?_⟩, fun c3 => ?_⟩, fun c2 => ?_⟩, fun c1 => ?_⟩, fun c0 => ?_⟩
  · rw [if_neg c0, if_neg c1, if_neg c2, if_neg c3, if_neg c4, if_neg c5] at h; exact h
  · rw [if_neg c0, if_neg c1, if_neg c2, if_neg c3, if_neg c4, if_pos c5] at h; exact h
  · rw [if_neg c0, if_neg c1, if_neg c2, if_neg c3, if_pos c4] at h; exact h
  · rw [if_neg c0, if_neg c1, if_neg c2, if_pos c3] at h; exact h
  · rw [if_neg c0, if_neg c1, if_pos c2] at h; exact h
  · rw [if_neg c0, if_pos c1] at h; exact h
  · rw [if_pos c0] at h; exact h
theorem m_kindOf {V : VT} {x : Int32} {K : Int32 → VT → Prop} (h1 : sk x < 0 → K (-1) V) (h2 : ¬ sk x < 0 → K (1 + sk x) V) : wp_X8_kindOf V x K := by
  unfold sk at h1 h2
  refine ⟨fun c0 => ⟨fun c1 => ⟨fun c2 => ⟨fun c3 => ⟨fun c4 => ?_, fun c4 => ?_⟩, fun c3 => ?_⟩, fun c2 => ?_⟩, fun c1 => ?_⟩, fun c0 => ?_⟩
  · rw [if_neg c0, if_neg c1, if_neg c2, if_neg c3, if_neg c4] at h1; exact h1 (by decide)
  · rw [if_neg c0, if_neg c1, if_neg c2, if_neg c3, if_pos c4] at h2; exact h2 (by decide)
  · rw [if_neg c0, if_neg c1, if_neg c2, if_pos c3] at h2; exact h2 (by decide)
  · rw [if_neg c0, if_neg c1, if_pos c2] at h2; exact h2 (by decide)
  · rw [if_neg c0, if_pos c1] at h2; exact h2 (by decide)
  · rw [if_pos c0] at h2; exact h2 (by decide)
section GROUNDM
variable {b : Nat → Int32} {t a : Nat} {K : VT → Prop} {V0 : VT}
def GM (V0 V : VT) : Prop := (∀ q, q ≠ 0 → q ≠ 6 → V q = V0 q) ∧ (∀ j, j ≠ 9 → j ≠ 10 → j ≠ 11 → V 0 j = V0 0 j) ∧ ∀ j, j = 1 ∨ j = 2 ∨ j = 3 ∨ 28 ≤ j → V 6 j = V0 6 j
theorem GM.fm {A B C : VT} (h : GM A B) (f : FM B C) : GM A C := ⟨fun q q0 q6 => (f.1 q q0).trans (h.1 q q0 q6), fun j h1 h2 h3 => (f.2 j h1 h2 h3).trans (h.2.1 j h1 h2 h3), fun j hj => by rw [f.1 6 (by decide)]; exact h.2.2 j hj⟩
theorem m_gr_end {V : VT} {p : Nat × Nat} {g : Nat} (P : PM b t V p) (hg : V 6 0 = nI g) (g24 : g ≤ 24) (h : ∀ V' : VT, FM V V' → PM b t V' (sgP b t 59 (if p.2 = 0 then (if g = 0 then (p.1, 1) else p) else p)) → K V') : wp_X8_readGrounds_b95 K V := by
  unfold wp_X8_readGrounds_b95 wp_X8_readGrounds_b120
  rw [cn0, hg, P.2.1]
  by_cases f : p.2 = 0
  · rw [if_pos f] at h
    have z : nI p.2 = 0 := by rw [f]; rfl
    refine ⟨fun c => absurd z c, fun _ => ⟨vin (by decide), fun c => ?_, fun c => ?_⟩⟩
    · rw [if_neg (fun q => c (by rw [q]; rfl))] at h
      exact m_must P h
    · have : g = 0 := (nI_eq (a := g) (b := 0) (by omega) (by decide)).mp c
      rw [if_pos this] at h
      exact m_wrong0 (n := 1) P f (by decide) (by decide) (P.2.2.1 f) (fun V2 f2 P2 => m_must P2 (fun V3 f3 P3 => h V3 (f2.tr f3) P3))
  · rw [if_neg f] at h
    exact ⟨fun _ => m_must P h, fun q => absurd q (nI_ne0 (by omega) (by have := P.2.2.2.2.2.2.1; omega))⟩
theorem m_gr_L (ha : a ≤ t) (h : ∀ V' : VT, GM V0 V' → PM b t V' (sgP b t 59 (grP b t (a, 0))) → V' 6 0 = nI (gc b t a) → (∀ i, i < gc b t a → V' 6 (4 + i) = gk (b (a + i))) → K V') : ∀ (m k : Nat) (V : VT), m + k = min 24 (t - a) → gn b m (a + k) + k = gc b t a → GM V0 V → PM b t V (a + k, 0) → V 6 0 = nI k → (∀ i, i < k → V 6 (4 + i) = gk (b (a + i))) → wp_X8_readGrounds_L13 K (m + 1) V := by
  have fin : ∀ (k : Nat) (V : VT), k = gc b t a → GM V0 V → PM b t V (a + k, 0) → V 6 0 = nI k → (∀ i, i < k → V 6 (4 + i) = gk (b (a + i))) → wp_X8_readGrounds_b95 K V := by
    intro k V hk f1 P e g
    have gl := @gc_le b t a
    refine m_gr_end P e (by omega) (fun V2 f3 P2 => h V2 (f1.fm f3) ?_ (by rw [f3.1 6 (by decide), e, hk]) (fun i hi => by rw [f3.1 6 (by decide)]; exact g i (by omega)))
    rw [if_pos rfl] at P2
    unfold grP
    rw [if_pos rfl]
    show PM b t V2 (sgP b t 59 (if gc b t a = 0 then (a, 1) else (a + gc b t a, 0)))
    rw [← hk]
    by_cases z : k = 0
    · rw [if_pos z] at P2 ⊢
      rw [z] at P2
      exact P2
    · rw [if_neg z] at P2 ⊢
      exact P2
  intro m
  induction m with
  | zero =>
    intro k V hm hg f1 P e g
    rw [gn, Nat.zero_add] at hg
    have z3 : V 0 10 = 0 := P.2.1
    have e9 := P.2.2.1 rfl
    refine ⟨fun c => absurd z3 c, fun _ => ⟨vin (by decide), fun _ => fin k V hg f1 P e g, fun d => ⟨fun _ => fin k V hg f1 P e g, fun c => ?_⟩⟩⟩
    have t8 := P.2.2.2.2.2.2.2
    rw [cn0, e] at d
    rw [P.1, e9] at c
    by_cases q : t ≤ a + k
    · exact absurd (nI_le q (by show a + k < 2 ^ 31; omega)) c
    · exact absurd (nI_le (a := 24) (by omega) (by omega)) d
  | succ m ih =>
    intro k V hm hg f1 P e g
    have z3 : V 0 10 = 0 := P.2.1
    have e9 := P.2.2.1 rfl
    obtain ⟨e1, e2, e3, e4, e5, e6, e7, e8⟩ := id P
    have lt : a + k < t := by omega
    rw [gn] at hg
    unfold wp_X8_readGrounds_L13
    rw [cn0, e1, e9, e]
    refine ⟨fun c => absurd z3 c, fun _ => ⟨vin (by decide), fun d => absurd d (nI_ge (b := 24) (by omega) (by decide)), fun _ => ⟨fun c => absurd c (nI_ge lt (by omega)), fun _ => ?_⟩⟩⟩
    refine m_here e1 e9 e5 lt e8 (m_groundOf ⟨fun c => ?_, fun c => ⟨vin (by decide), m_here e1 e9 e5 lt e8 (m_groundOf ?_)⟩⟩)
    · rw [if_pos c] at hg
      exact fin k V (by omega) f1 P e g
    · rw [if_neg c] at hg
      rw [e, show (4 : Int32) = nI 4 from rfl, nI_add]
      refine ⟨vpn (by omega) (by decide), ?_⟩
      rw [nI_c (by omega)]
      intro V19 v19
      refine ⟨vin (by decide), vin (by decide), ?_⟩
      intro V22 v22 V23 v23
      have e19 : V19 6 0 = nI k := by rw [v19, up2_selfn (by omega)]; exact e
      rw [e19, nI_1] at v22
      have e22 : V22 0 9 = nI (a + k) := by rw [v22, up2_ne (by decide), v19, up2_ne (by decide)]; exact e9
      rw [e22, nI_1] at v23
      have o0 : ∀ j, j ≠ 9 → V23 0 j = V 0 j := fun j hj => by rw [v23, up2_selfn hj, v22, up2_ne (by decide), v19, up2_ne (by decide)]
      have oq : ∀ q, q ≠ 0 → q ≠ 6 → V23 q = V q := fun q q0 q6 => by rw [v23, up2_ne q0, v22, up2_ne q6, v19, up2_ne q6]
      have o6 : ∀ j, j ≠ 0 → j ≠ 4 + k → V23 6 j = V 6 j := fun j j0 j4 => by rw [v23, up2_ne (by decide), v22, up2_selfn j0, v19, up2_selfn j4]
      refine ih (k + 1) V23 (by omega) (by rw [show a + (k + 1) = a + k + 1 by omega]; omega) ⟨fun q q0 q6 => (oq q q0 q6).trans (f1.1 q q0 q6), fun j h1 h2 h3 => (o0 j h1).trans (f1.2.1 j h1 h2 h3), fun j hj => (o6 j (by omega) (by omega)).trans (f1.2.2 j hj)⟩ ⟨by rw [o0 8 (by decide)]; exact e1, by rw [o0 10 (by decide)]; exact e2, fun _ => by rw [v23, up2_self]; rfl, fun y => absurd rfl y, fun i hi => by rw [oq 7 (by decide) (by decide)]; exact e5 i hi, by show a + (k + 1) ≤ t; omega, by show 0 ≤ 3; omega, e8⟩ (by rw [v23, up2_ne (by decide), v22, up2_self]) (fun i hi => ?_)
      by_cases z : i = k
      · rw [z, v23, up2_ne (by decide), v22, up2_selfn (by omega), v19, up2_self]
      · rw [o6 (4 + i) (by omega) (by omega)]; exact g i (by omega)
theorem m_readGrounds {V : VT} {p0 : Nat × Nat} (P : PM b t V p0) (h : ∀ V' : VT, GM V V' → PM b t V' (sgP b t 59 (grP b t (sgP b t 103 p0))) → ((sgP b t 59 (grP b t (sgP b t 103 p0))).2 = 0 → V' 6 0 = nI (gc b t (sgP b t 103 p0).1) ∧ ∀ i, i < gc b t (sgP b t 103 p0).1 → V' 6 (4 + i) = gk (b ((sgP b t 103 p0).1 + i))) → K V') : wp_X8_readGrounds V K := by
  refine m_must P (fun V1 f1 P1 => ⟨vin (by decide), ?_⟩)
  generalize sgP b t 103 p0 = pz at h P1
  obtain ⟨a, fz⟩ := pz
  rw [cn0]
  intro V3 v3
  have P3 := P1.cg (V' := V3) (fun j h1 h2 => by rw [v3, up2_ne (by decide)]) (by rw [v3, up2_ne (by decide)])
  have g0 : GM V V3 := ⟨fun q q0 q6 => by rw [v3, up2_ne q6]; exact f1.1 q q0, fun j h1 h2 h3 => by rw [v3, up2_ne (by decide)]; exact f1.2 j h1 h2 h3, fun j hj => by rw [v3, up2_selfn (by omega), f1.1 6 (by decide)]⟩
  have e4 : V3 6 0 = nI 0 := by rw [v3, up2_self]; rfl
  have f3 : fz ≤ 3 := P3.2.2.2.2.2.2.1
  by_cases f : fz = 0
  · subst f
    exact ⟨min 24 (t - a) + 1, m_gr_L (V0 := V) (a := a) P3.2.2.2.2.2.1 (fun V5 g1 g3 g4 g5 => h V5 g1 g3 (fun _ => ⟨g4, g5⟩)) (min 24 (t - a)) 0 V3 (by omega) (by rw [Nat.add_zero, Nat.add_zero]; rfl) g0 P3 e4 (fun i hi => absurd hi (Nat.not_lt_zero i))⟩
  · refine ⟨1, fun _ => ?_, fun c => absurd c ?_⟩
    · refine m_gr_end P3 e4 (by decide) (fun V5 f5 P5 => h V5 (g0.fm f5) ?_ (fun z => absurd (gr0 (sg0 z)).1 f))
      have ng : ¬ (a, fz).2 = 0 := f
      rw [if_neg ng] at P5
      unfold grP
      rw [if_neg ng]
      exact P5
    · rw [P3.2.1]
      exact nI_ne0 (Nat.pos_of_ne_zero f) (by show fz < 2 ^ 31; omega)
end GROUNDM
section TAPM
variable {b : Nat → Int32} {t : Nat} {K : VT → Prop}
def TM (b : Nat → Int32) (t : Nat) (V0 V : VT) (s : TQ) : Prop := (∀ q, q ≠ 0 → q ≠ 6 → V q = V0 q) ∧ (∀ j, j ≠ 9 → j ≠ 10 → j ≠ 11 → V 0 j = V0 0 j) ∧ (∀ j, j ≠ 1 → j < 28 → V 6 j = V0 6 j) ∧ PM b t V s.1 ∧ (s.1.2 = 0 → V 6 1 = nI s.2.1 ∧ ∀ i, i < s.2.1 → V 6 (28 + 2 * i) = s.2.2.1 i ∧ V 6 (29 + 2 * i) = s.2.2.2 i)
theorem m_readTap {V0 V : VT} {s : TQ} (A : TM b t V0 V s) (f : s.1.2 = 0) (lt : s.1.1 < t) (n5 : s.2.1 ≤ 5) (h : ∀ V' : VT, TM b t V0 V' (tst b t s) → K V') : wp_X8_readTap V K := by
  obtain ⟨a1, a2, a3, P, a5⟩ := A
  obtain ⟨e1, e2, e3, e4, e5, e6, e7, e8⟩ := id P
  obtain ⟨n1, cells⟩ := a5 f
  have e9 := e3 f
  unfold tst at h
  have flt : ∀ (n : Nat) (x : Int32), n ≤ 3 → ¬ n = 0 → (∀ V' : VT, TM b t V0 V' ((s.1.1, n), s.2) → K V') → wp_X8_wrong V (nI n) (V 0 9) (fun V8 => wp_X8_readTap_b43 K V8 x) := by
    intro n x hn n0 hh
    refine m_wrong0 P f hn n0 e9 (fun V2 f2 P2 => ⟨fun _ => hh V2 ⟨fun q q0 q6 => (f2.1 q q0).trans (a1 q q0 q6), fun j h1 h2 h3 => (f2.2 j h1 h2 h3).trans (a2 j h1 h2 h3), fun j j1 j2 => by rw [f2.1 6 (by decide)]; exact a3 j j1 j2, P2, fun z => absurd z n0⟩, fun q => absurd q ?_⟩)
    rw [P2.2.1]
    exact nI_ne0 (Nat.pos_of_ne_zero n0) (by omega)
  refine m_here e1 e9 e5 lt e8 (m_kindOf (fun c => ?_) (fun c => ?_))
  · rw [if_pos c] at h
    exact ⟨fun q => absurd q (by decide), fun _ => flt 1 _ (by decide) (by decide) h⟩
  · rw [if_neg c] at h
    have r := sk_rng c
    refine ⟨fun _ => ⟨vin (by decide), ?_⟩, fun q => absurd ?_ q⟩
    · rw [cn1, n1]
      refine ⟨fun d => ?_, fun d => ?_⟩
      · have d' : s.2.1 < 5 := by
          rcases Nat.lt_or_ge s.2.1 5 with y | y
          · exact y
          · exact absurd (by rw [show s.2.1 = 5 by omega]; rfl) d
        rw [if_neg (by omega)] at h
        unfold wp_X8_readTap_b43
        rw [e2, f, e9, nI_1]
        refine ⟨fun q => absurd rfl q, fun _ => ?_⟩
        intro V11 v11
        have P11 : PM b t V11 (s.1.1 + 1, 0) := by
          refine ⟨?_, ?_, fun _ => ?_, fun q => absurd rfl q, fun i hi => ?_, lt, by show 0 ≤ 3; omega, e8⟩
          · rw [v11, up2_selfn (by decide)]; exact e1
          · rw [v11, up2_selfn (by decide), e2, f]
          · rw [v11, up2_self]
          · rw [v11, up2_ne (by decide)]; exact e5 i hi
        have n11 : V11 6 1 = nI s.2.1 := by rw [v11, up2_ne (by decide)]; exact n1
        rw [cn1, n11, ix28]
        refine ⟨vin (by decide), vpn (by omega) (by decide), ?_⟩
        rw [nI_c (by omega)]
        intro V14 v14
        refine ⟨vin (by decide), ?_⟩
        have P14 := P11.cg (V' := V14) (fun j h1 h2 => by rw [v14, up2_ne (by decide)]) (by rw [v14, up2_ne (by decide)])
        have n14 : V14 6 1 = nI s.2.1 := by rw [v14, up2_selfn (by omega)]; exact n11
        refine m_number P14 (fun V16 r16 f16 P16 g16 => ?_)
        rw [n14, ix28, nI_1]
        refine ⟨vpn (by omega) (by decide), ?_⟩
        rw [nI_c (by omega)]
        intro V19 v19
        have P19 := P16.cg (V' := V19) (fun j h1 h2 => by rw [v19, up2_ne (by decide)]) (by rw [v19, up2_ne (by decide)])
        refine m_must P19 (fun V20 f20 P20 => ⟨vin (by decide), vin (by decide), ?_⟩)
        intro V23 v23
        have n20 : V20 6 1 = nI s.2.1 := by rw [f20.1 6 (by decide), v19, up2_selfn (by omega), f16.1 6 (by decide)]; exact n14
        rw [n20, nI_1] at v23
        have x6 : ∀ j, j ≠ 1 → V23 6 j = up2 V16 6 (28 + 2 * s.2.1 + 1) r16 6 j := fun j hj => by rw [v23, up2_selfn hj, f20.1 6 (by decide), v19]
        have x16 : V16 6 = up2 V11 6 (28 + 2 * s.2.1) (1 + sk (b s.1.1)) 6 := by rw [f16.1 6 (by decide), v14]
        have x11 : V11 6 = V 6 := by rw [v11, up2_ne (by decide)]
        refine h V23 ⟨fun q q0 q6 => ?_, fun j h1 h2 h3 => ?_, fun j j1 j2 => ?_, P20.cg (fun j h1 h2 => by rw [v23, up2_ne (by decide)]) (by rw [v23, up2_ne (by decide)]), fun z => ⟨?_, fun i hi => ?_⟩⟩
        · rw [v23, up2_ne q6, f20.1 q q0, v19, up2_ne q6, f16.1 q q0, v14, up2_ne q6, v11, up2_ne q0]; exact a1 q q0 q6
        · rw [v23, up2_ne (by decide), f20.2 j h1 h2 h3, v19, up2_ne (by decide), f16.2 j h1 h2 h3, v14, up2_ne (by decide), v11, up2_selfn h1]; exact a2 j h1 h2 h3
        · rw [x6 j j1, up2_selfn (by omega), x16, up2_selfn (by omega), x11]; exact a3 j j1 j2
        · rw [v23, up2_self]
        · have rr := g16 (sg0 z)
          have hi' : i < s.2.1 + 1 := hi
          show V23 6 (28 + 2 * i) = upI s.2.2.1 s.2.1 (1 + sk (b s.1.1)) i ∧ V23 6 (29 + 2 * i) = upI s.2.2.2 s.2.1 (nv b t (s.1.1 + 1, 0)) i
          rw [x6 _ (by omega), x6 _ (by omega), up2_selfn (show 28 + 2 * i ≠ 28 + 2 * s.2.1 + 1 by omega), x16]
          by_cases q : i = s.2.1
          · rw [q, upI_self, upI_self, up2_self, show 29 + 2 * s.2.1 = 28 + 2 * s.2.1 + 1 by omega, up2_self]
            exact ⟨rfl, rr⟩
          · rw [upI_ne q, upI_ne q, up2_selfn (by omega), up2_selfn (by omega), x16, up2_selfn (by omega), x11]
            exact cells i (by omega)
      · have d' : 5 ≤ s.2.1 := by
          have := (nI_eq (a := s.2.1) (b := 5) (by omega) (by decide)).mp d
          omega
        rw [if_pos d'] at h
        exact flt 3 _ (by decide) (by decide) h
    · rw [i_le, t0]; omega
theorem m_taps_M {V0 : VT} : ∀ (m k : Nat) (V : VT) (s : TQ) (K : Int32 → VT → Prop), m + k = 6 → (s.1.2 = 0 → s.2.1 = k ∧ k < 6) → TM b t V0 V s → (∀ V' : VT, TM b t V0 V' (tlp b t m s) → wp_X8_lane_b64 K V') → wp_X8_lane_L39 K (m + 1) V := by
  intro m
  induction m with
  | zero =>
    intro k V s K hm hk A h
    obtain ⟨e1, e2, e3, e4, e5, e6, e7, e8⟩ := A.2.2.2.1
    have f : ¬ s.1.2 = 0 := fun q => by have := hk q; omega
    refine ⟨fun _ => h V A, fun c => absurd c ?_⟩
    rw [e2]
    exact nI_ne0 (by omega) (by omega)
  | succ m ih =>
    intro k V s K hm hk A h
    obtain ⟨e1, e2, e3, e4, e5, e6, e7, e8⟩ := A.2.2.2.1
    unfold wp_X8_lane_L39
    rw [e1, e2]
    refine ⟨fun c => ?_, fun c => ?_⟩
    · have f : ¬ s.1.2 = 0 := fun q => c (by rw [q]; rfl)
      rw [tlp_f f] at h
      exact h V A
    · have f : s.1.2 = 0 := (nI_eq (a := s.1.2) (b := 0) (by omega) (by decide)).mp c
      rw [e3 f, nI_leI (by omega) (by omega)]
      refine ⟨fun d => ?_, fun d => ?_⟩
      · rw [tlp, if_pos f, if_pos d] at h
        exact h V A
      · rw [tlp, if_pos f, if_neg d] at h
        obtain ⟨k1, k2⟩ := hk f
        refine m_readTap A f (by omega) (by omega) (fun V2 A2 => ih (k + 1) V2 _ K (by omega) (fun z => ?_) A2 h)
        have := tst_n f k1 z
        exact ⟨this.2, by omega⟩
end TAPM
