/-! drawn, plan -/
theorem Ms.up {M M' : VT} {v : Int32} (h : Ms M M') : Ms (up2 M 0 4 v) (up2 M' 0 4 v) := by
  refine ⟨fun a ha => ?_, fun b hb => ?_⟩
  · rw [up2_ne (fun e => ha (by rw [e]; decide)), up2_ne (fun e => ha (by rw [e]; decide))]; exact h.1 a ha
  · by_cases c : b = 4
    · subst c; rw [up2_self, up2_self]
    · rw [up2_selfn c, up2_selfn c]; exact h.2 b hb
def lcg (y : Int64) : Int64 := y * 16807 - y * 16807 / 2147483647 * 2147483647
def lz (seed : Int64) : Nat → Int64
  | 0 => seed
  | k + 1 => lcg (lz seed k)
def lt8 (y : Int64) : Int32 := (y - y / 8 * 8).toInt32
def dts (T : Nat) (seed : Int64) (k : Nat) : Int32 := if lt8 (lz seed (k + 1)) < 0 then -1 else if lt8 (lz seed (k + 1)) ≤ nI T - 1 then lt8 (lz seed (k + 1)) else -1
theorem dts_T {T : Nat} (hT : T ≤ 5) (seed : Int64) (k : Nat) : isT T (dts T seed k) := by
  unfold dts
  split
  · exact Or.inl rfl
  · rename_i h1
    split
    · rename_i h2
      obtain ⟨j, hj, e⟩ := nI_in_lt (by omega) h1 h2
      exact Or.inr ⟨j, hj, e⟩
    · exact Or.inl rfl
theorem x_kindD {X M : VT} {Y T : Nat} {K : Int32 → VT → Prop} {seed : Int64} {k : Nat} (hL : LR X 16 (M 5) (fun i => M 0 (16 + i)) Y T) (h : K (tk M (dts T seed k)) X) : wp_X3_kindAt X 16 (lt8 (lz seed (k + 1))) K := by
  have e5 := hL.2.2.1.1
  unfold dts at h
  split at h
  · rename_i c; exact x_kindNo (Or.inl c) h
  · rename_i c
    split at h
    · rename_i d
      obtain ⟨j, hj, e⟩ := nI_in_lt (by have := hL.1.2.1; omega) c d
      exact x_kindT hL (Or.inr ⟨j, hj, e⟩) h
    · rename_i d; exact x_kindNo (Or.inr (by rw [e5]; exact d)) h
theorem x_forceD {X M : VT} {Y T : Nat} {K : Int32 → VT → Prop} {seed : Int64} {k : Nat} (hL : LR X 16 (M 5) (fun i => M 0 (16 + i)) Y T) (h : K (tf M (dts T seed k)) X) : wp_X3_forceAt X 16 (lt8 (lz seed (k + 1))) K := by
  have e5 := hL.2.2.1.1
  unfold dts at h
  split at h
  · rename_i c; exact x_forceNo (Or.inl c) h
  · rename_i c
    split at h
    · rename_i d
      obtain ⟨j, hj, e⟩ := nI_in_lt (by have := hL.1.2.1; omega) c d
      exact x_forceT hL (Or.inr ⟨j, hj, e⟩) h
    · rename_i d; exact x_forceNo (Or.inr (by rw [e5]; exact d)) h
theorem x_drawn_L {X M : VT} {Y T n : Nat} {w : Int32} {seed : Int64} {K : Int32 → VT → Prop} (hL : LR X 16 (M 5) (fun i => M 0 (16 + i)) Y T) (hY : 0 < Y) (hn : n ≤ 40) : ∀ (m i : Nat) (X' : VT) (s : H4), i + m = n → fr X X' 15 → hp X' 15 = s → es Y s →
    (∀ X'', fr X X'' 15 → hp X'' 15 = (pr M (dts T seed) m i s).2 → wp_X7_drawn_b139 K X'' w (nI (pr M (dts T seed) m i s).1)) → wp_X7_drawn_L67 K (m + 1) X' (nI n) w (lz seed i) (nI i) := by
  intro m
  induction m with
  | zero =>
    intro i X' s hi f g he h
    exact ⟨fun _ => h X' f g, fun c => absurd (nI_le (by omega) (by omega)) c⟩
  | succ m ih =>
    intro i X' s hi f g he h
    refine ⟨fun c => absurd c (nI_ge (by omega) (by omega)), fun _ => ?_⟩
    have e3 : X' 15 3 = s.2.2.2 := by rw [← g]; rfl
    rw [e3]
    refine ⟨fun e => ?_, fun e => ?_⟩
    · rw [pr_end e] at h
      exact h X' f g
    · rw [pr, if_pos e] at h
      intro z hz
      have ez : z = lz seed (i + 1) := hz
      subst ez
      rw [nI_1]
      refine x_kindD (seed := seed) (k := i) (hL.sc f (by decide)) (x_forceD (seed := seed) (k := i) (hL.sc f (by decide)) ?_)
      exact x_pass (hL.sc f (by decide)) hY (dts_T hL.1.2.1 _ _) (by decide) (he e) g (fun X2 f2 g2 => ih (i + 1) X2 _ (by omega) (f.tr f2) g2 (es_nxt hL.1.1 hL.2.1.2 (hL.2.2.2.2.2.2.2.2.2 hY).1 (he e)) h)
theorem m_drawn_L {M : VT} {Y T n : Nat} {w : Int32} {seed : Int64} {K : Int32 → VT → Prop} (hY : Y ≤ 24) (hT : T ≤ 5) (h0 : M 5 0 = nI Y) (h1 : M 5 1 = nI T) (fv : FV Y T (M 5)) (hn : n ≤ 40) : ∀ (m i : Nat) (M' : VT) (s : H4), i + m = n → Mq M M' s → es Y s →
    (∀ M'', Mq M M'' (pr M (dts T seed) m i s).2 → wp_X8_drawn_b117 K M'' w (nI (pr M (dts T seed) m i s).1)) → wp_X8_drawn_L58 K (m + 1) M' (nI n) w (lz seed i) (nI i) := by
  intro m
  induction m with
  | zero =>
    intro i M' s hi g he h
    exact ⟨fun _ => h M' g, fun c => absurd (nI_le (by omega) (by omega)) c⟩
  | succ m ih =>
    intro i M' s hi g he h
    refine ⟨fun c => absurd c (nI_ge (by omega) (by omega)), fun _ => ?_⟩
    have e19 : M' 0 19 = s.2.2.2 := by rw [← g.2.2.2]; rfl
    rw [e19]
    refine ⟨fun e => ?_, fun e => ?_⟩
    · rw [pr_end e] at h
      exact h M' g
    · rw [pr, if_pos e] at h
      intro z hz
      have ez : z = lz seed (i + 1) := hz
      subst ez
      unfold wp_X8_drawn_b108
      rw [nI_1]
      have e51 : M' 5 1 = nI T := by rw [g.1 5 (by decide)]; exact h1
      have go : wp_X8_goesWith M' (dts T seed i) (fun V20 => wp_X8_drawn_L58 K (m + 1) V20 (nI n) w (lz seed (i + 1)) (nI (i + 1))) := m_step hY hT h0 fv (dts_T hT _ _) (he e) g (fun M'' _ g2 => ih (i + 1) M'' _ (by omega) g2 (es_nxt hY h0 fv (he e)) h)
      show wp_X8_isTap M' (lt8 (lz seed (i + 1))) _
      unfold dts at go
      split at go
      · rename_i c
        exact isTap_out (Or.inl c) ⟨fun _ => go, fun q => absurd rfl q⟩
      · rename_i c
        split at go
        · rename_i d
          exact isTap_in c (by rw [e51]; exact d) ⟨fun q => absurd q (by decide), fun _ => go⟩
        · rename_i d
          exact isTap_out (Or.inr (by rw [e51]; exact d)) ⟨fun _ => go, fun q => absurd rfl q⟩
theorem q_drawn {X M : VT} (H : RR X M) (a b d : Int32) : wp_X7_drawn X a b d (fun r X' => wp_X8_drawn M a b d (EQ r X')) := by
  obtain ⟨hs, Y, T, h0⟩ := id H
  obtain ⟨hL, isl⟩ := id h0.2.2.1
  unfold wp_X7_drawn
  refine x_there hL.2.1.1 hL.1.1 ?_
  by_cases hY : 0 < Y
  · rw [if_pos hY]
    rw [if_pos hY] at isl
    obtain ⟨fv, hv⟩ := hL.2.2.2.2.2.2.2.2.2 hY
    refine ⟨fun _ => ?_, fun c => absurd c (by decide)⟩
    rcases in_or a 0 40 with ⟨p1, p2⟩ | hp'
    · refine isOut_in p1 p2 ⟨fun c => absurd rfl c, fun _ => ?_⟩
      rcases in_or b 1 999999 with ⟨q1, q2⟩ | hq
      · refine isOut_in q1 q2 ⟨fun c => absurd rfl c, fun _ => ?_⟩
        rcases in_or d 0 1 with ⟨r1, r2⟩ | hr
        · refine isOut_in r1 r2 ⟨fun _ => ?_, fun c => absurd rfl c⟩
          obtain ⟨n, hn, rfl⟩ := nI_in_of (n := 40) rfl p1 p2
          refine s_be (by decide) (fun X1 f1 g1 => ⟨n + 1, x_drawn_L (seed := b.toInt64) hL hY hn n 0 X1 (hm M) (by omega) f1 ((hp_of g1).trans (hp20 hL)) (es_hm hv) (fun X2 f2 g2 => ?_)⟩)
          have fin : ∀ r, (d = 0 → r = X2 15 0) → (¬ d = 0 → r = nI (pr M (dts T b.toInt64) n 0 (hm M)).1) → wp_X8_drawn M (nI n) b d (EQ r X2) := by
            intro r z1 z2
            unfold wp_X8_drawn
            rw [isl]
            refine ⟨fun _ => in_in (lo := 0) (hi := 40) rfl rfl p1 p2 ⟨fun c => absurd c (by decide), fun _ => in_in (lo := 1) (hi := 999999) rfl rfl q1 q2 ⟨fun c => absurd c (by decide), fun _ => in_in (lo := 0) (hi := 1) rfl rfl r1 r2 ⟨fun _ => s_asides (fun M1 _ g => ⟨n + 1, m_drawn_L (seed := b.toInt64) hL.1.1 hL.1.2.1 hL.2.1.2 hL.2.2.1.2 fv hn n 0 M1 (hm M) (by omega) g (es_hm hv) (fun M2 g' => s_backs g' (fun M3 _ _ _ _ ms => ⟨fun c => ⟨z2 c, H.cg (Xs_of f2) ms⟩, fun c => ⟨(z1 c).trans ?_, H.cg (Xs_of f2) ms⟩⟩))⟩), fun c => absurd c (by decide)⟩⟩⟩, fun c => absurd c (by decide)⟩
            have e := g2.trans g'.2.2.2.symm
            simp only [hp, hm, Prod.mk.injEq] at e
            exact e.1
          exact ⟨fun c => fin _ (fun q => absurd q c) (fun _ => rfl), fun c => fin _ (fun _ => rfl) (fun q => absurd c q)⟩
        · refine isOut_out hr ⟨fun c => absurd c (by decide), fun _ => ?_⟩
          unfold wp_X8_drawn
          rw [isl]
          exact ⟨fun _ => in_in (lo := 0) (hi := 40) rfl rfl p1 p2 ⟨fun c => absurd c (by decide), fun _ => in_in (lo := 1) (hi := 999999) rfl rfl q1 q2 ⟨fun c => absurd c (by decide), fun _ => in_out (lo := 0) (hi := 1) rfl rfl hr ⟨fun c => absurd rfl c, fun _ => ⟨rfl, H⟩⟩⟩⟩, fun c => absurd c (by decide)⟩
      · refine isOut_out hq ⟨fun _ => ?_, fun c => absurd c (by decide)⟩
        unfold wp_X8_drawn
        rw [isl]
        exact ⟨fun _ => in_in (lo := 0) (hi := 40) rfl rfl p1 p2 ⟨fun c => absurd c (by decide), fun _ => in_out (lo := 1) (hi := 999999) rfl rfl hq ⟨fun _ => ⟨rfl, H⟩, fun c => absurd rfl c⟩⟩, fun c => absurd c (by decide)⟩
    · refine isOut_out hp' ⟨fun _ => ?_, fun c => absurd c (by decide)⟩
      unfold wp_X8_drawn
      rw [isl]
      exact ⟨fun _ => in_out (lo := 0) (hi := 40) rfl rfl hp' ⟨fun _ => ⟨rfl, H⟩, fun c => absurd rfl c⟩, fun c => absurd c (by decide)⟩
  · rw [if_neg hY]
    rw [if_neg hY] at isl
    refine ⟨fun c => absurd rfl c, fun _ => ?_⟩
    unfold wp_X8_drawn
    rw [isl]
    exact ⟨fun c => absurd rfl c, fun _ => ⟨rfl, H⟩⟩
-- taps in a row
def cT (ts : Nat → Int32) : Nat → Nat
  | 0 => 0
  | n + 1 => cT ts n + if ts n = -1 then 0 else 1
theorem cT_le (ts : Nat → Int32) : ∀ n, cT ts n ≤ n
  | 0 => Nat.le_refl 0
  | n + 1 => by
    have := cT_le ts n
    rw [cT]
    split <;> omega
theorem isT_neg {T : Nat} {t : Int32} (hT : T ≤ 5) (h : isT T t) : t < 0 ↔ t = -1 := by
  rcases h with rfl | ⟨j, hj, rfl⟩
  · exact ⟨fun _ => rfl, fun _ => by decide⟩
  · exact ⟨fun c => absurd c (nI_pos (by omega)), fun c => absurd (by rw [c]; decide) (nI_pos (n := j) (by omega))⟩
theorem isT_in {T : Nat} {t : Int32} (hT : T ≤ 5) (h : isT T t) : ¬ t < -1 ∧ t ≤ nI T - 1 := by
  have hs := @i_sub (nI T) 1 (by rw [nI_toInt (by omega), t1]; omega)
  rw [nI_toInt (by omega), t1] at hs
  rw [i_lt, i_le, hs, tm1]
  rcases h with rfl | ⟨j, hj, rfl⟩
  · rw [tm1]; omega
  · rw [nI_toInt (by omega)]; omega
theorem x_taps_L {X : VT} {r i0 n T : Nat} {ts : Nat → Int32} {K : Int32 → VT → Prop} (hT : T ≤ 5) (e5 : X 16 5 = nI T) (hi : i0 + n ≤ 40) (hts : ∀ q, q < n → X (r + 1) (i0 + q) = ts q) (hy : (∀ q, q < n → isT T (ts q)) → K (nI (cT ts n)) X) (hno : (∃ q, q < n ∧ ¬ isT T (ts q)) → K (-1000000) X) : ∀ (m k : Nat), k + m = n → (∀ q, q < k → isT T (ts q)) → wp_X7_tapsIn_L6 K (m + 1) X r (nI i0) (nI n) (nI (cT ts k)) (nI (i0 + k)) := by
  intro m
  induction m with
  | zero =>
    intro k hk h
    have : k = n := by omega
    subst this
    refine ⟨fun _ => hy h, fun c => absurd ?_ c⟩
    rw [nI_add]
    exact nI_le (Nat.le_refl _) (by omega)
  | succ m ih =>
    intro k hk h
    unfold wp_X7_tapsIn_L6
    rw [show nI i0 + nI n = nI (i0 + n) from nI_add _ _]
    refine ⟨fun c => absurd c (nI_ge (by omega) (by omega)), fun _ => ?_⟩
    rw [nI_c (by omega), hts k (by omega), e5]
    refine ⟨vpn (by omega) (by decide), ?_⟩
    by_cases ok : isT T (ts k)
    · obtain ⟨b1, b2⟩ := isT_in hT ok
      have h' : ∀ q, q < k + 1 → isT T (ts q) := fun q hq => by
        rcases Nat.lt_or_ge q k with z | z
        · exact h q z
        · have : q = k := by omega
          rw [this]; exact ok
      have := ih (k + 1) (by omega) h'
      rw [cT] at this
      refine isOut_in b1 b2 ⟨fun _ => ⟨vpn (by omega) (by decide), ?_⟩, fun c => absurd rfl c⟩
      unfold wp_X7_tapsIn_b53
      rw [hts k (by omega), isT_neg hT ok, nI_1, nI_1]
      refine ⟨fun c => ?_, fun c => ?_⟩
      · rw [if_pos c] at this; exact this
      · rw [if_neg c] at this; exact this
    · refine isOut_out ?_ ⟨fun c => absurd c (by decide), fun _ => hno ⟨k, by omega, ok⟩⟩
      by_cases c1 : ts k < -1
      · exact Or.inl c1
      · exact Or.inr (fun c2 => ok (isT_of hT c1 c2))
theorem m_are_bad {M : VT} {f n : Nat} {most : Int32} {K : Int32 → VT → Prop} (hf : f + n ≤ 320) (h : K 0 M) : ∀ (m k : Nat) (c : Int32), k + m = n → wp_X8_areTaps_L9 K (m + 1) M (nI f) (nI n) most c 0 (nI (f + k)) := by
  intro m
  induction m with
  | zero =>
    intro k c hk
    have : k = n := by omega
    subst this
    refine ⟨fun _ => ⟨fun _ => h, fun q => absurd rfl q⟩, fun q => absurd ?_ q⟩
    rw [nI_add]
    exact nI_le (Nat.le_refl _) (by omega)
  | succ m ih =>
    intro k c hk
    unfold wp_X8_areTaps_L9
    rw [show nI f + nI n = nI (f + n) from nI_add _ _]
    refine ⟨fun q => absurd q (nI_ge (by omega) (by omega)), fun _ => ⟨fun _ => ?_, fun q => absurd rfl q⟩⟩
    unfold wp_X8_areTaps_b51 wp_X8_areTaps_b52 wp_X8_areTaps_b72
    rw [nI_1]
    exact ⟨vpn (by omega) (by decide), fun _ => ih (k + 1) _ (by omega), fun _ => ih (k + 1) _ (by omega)⟩
theorem m_are_L {M : VT} {f n T most : Nat} {ts : Nat → Int32} {K : Int32 → VT → Prop} (hT : T ≤ 5) (e5 : M 5 1 = nI T) (hf : f + n ≤ 320) (hm : most ≤ 1000) (hts : ∀ q, q < n → M 3 (f + q) = ts q) (hy : (∀ q, q < n → isT T (ts q)) → cT ts n ≤ most → K 1 M) (hno : (∃ q, q < n ∧ ¬ isT T (ts q)) ∨ most < cT ts n → K 0 M) : ∀ (m k : Nat), k + m = n → (∀ q, q < k → isT T (ts q)) → wp_X8_areTaps_L9 K (m + 1) M (nI f) (nI n) (nI most) (nI (cT ts k)) 1 (nI (f + k)) := by
  intro m
  induction m with
  | zero =>
    intro k hk h
    have : k = n := by omega
    subst this
    have hc := cT_le ts k
    refine ⟨fun _ => ⟨fun q => absurd q (by decide), fun _ => ⟨fun q => hno (Or.inr ?_), fun q => hy h ?_⟩⟩, fun q => absurd ?_ q⟩
    · rw [nI_ltI (by omega) (by omega)] at q; exact q
    · rw [nI_ltI (by omega) (by omega)] at q; omega
    · rw [nI_add]
      exact nI_le (Nat.le_refl _) (by omega)
  | succ m ih =>
    intro k hk h
    unfold wp_X8_areTaps_L9
    rw [show nI f + nI n = nI (f + n) from nI_add _ _]
    refine ⟨fun q => absurd q (nI_ge (by omega) (by omega)), fun _ => ⟨fun q => absurd q (by decide), fun _ => ⟨vpn (by omega) (by decide), ?_⟩⟩⟩
    unfold wp_X8_areTaps_b51 wp_X8_areTaps_b47 wp_X8_areTaps_b52 wp_X8_areTaps_b72
    rw [nI_c (by omega), hts k (by omega), nI_1, nI_1, Int32.add_zero]
    have v : vp_in (nI (f + k)) 320 := vpn (by omega) (by decide)
    by_cases ok : isT T (ts k)
    · have h' : ∀ q, q < k + 1 → isT T (ts q) := fun q hq => by
        rcases Nat.lt_or_ge q k with z | z
        · exact h q z
        · have : q = k := by omega
          rw [this]; exact ok
      have := ih (k + 1) (by omega) h'
      rw [cT] at this
      refine ⟨fun c => ⟨v, fun c2 => absurd c c2, fun _ => ?_⟩, fun c => ⟨v, ?_⟩⟩
      · rw [if_pos c] at this; exact this
      · rw [if_neg c] at this
        rcases ok with e | ⟨j, hj, e⟩
        · exact absurd e c
        · obtain ⟨l1, l2⟩ := nI_in_lt' (j := j) (Y := T) (by omega) hj
          rw [← e] at l1 l2
          exact isTap_in l1 (by rw [e5]; exact l2) ⟨fun q => absurd q (by decide), fun _ => ⟨v, fun _ => this, fun q => absurd ((hts k (by omega)).symm.trans q) c⟩⟩
    · have c : ts k ≠ -1 := fun e => ok (Or.inl e)
      have g : ts k < 0 ∨ ¬ ts k ≤ M 5 1 - 1 := by
        by_cases c1 : ts k < 0
        · exact Or.inl c1
        · refine Or.inr (fun c2 => ok ?_)
          rw [e5] at c2
          obtain ⟨j, hj, e⟩ := nI_in_lt (by omega) c1 c2
          exact Or.inr ⟨j, hj, e⟩
      have bad := hno (Or.inl ⟨k, by omega, ok⟩)
      refine ⟨fun q => absurd q c, fun _ => ⟨v, isTap_out g ⟨fun _ => ⟨v, fun _ => m_are_bad hf bad m (k + 1) _ (by omega), fun q => absurd ((hts k (by omega)).symm.trans q) c⟩, fun q => absurd rfl q⟩⟩⟩
