/-! the reference's works, way -/
theorem Mq.puts {M M' M'' : VT} {s s' : H4} (g : Mq M M' s) (h1 : ∀ q, q ≠ 0 → M'' q = M' q) (h2 : ∀ q, (q < 16 ∨ 19 < q) → M'' 0 q = M' 0 q) (h3 : hm M'' = s') : Mq M M'' s' := by
  obtain ⟨q1, q2, q3, q4⟩ := g
  refine ⟨fun a ha => ?_, fun b hb => ?_, fun i hi => ?_, h3⟩
  · rw [h1 a (fun e => ha (by rw [e]; decide))]; exact q1 a ha
  · have hb' := hb
    simp only [List.mem_cons, List.not_mem_nil, or_false] at hb'
    rw [h2 b (by omega)]; exact q2 b hb
  · rw [h2 _ (by omega)]; exact q3 i hi
theorem Mq.u9 {M M' : VT} {s : H4} {j : Nat} {v : Int32} {k : Nat} (hk : k = 9 ∨ k = 10) (g : Mq M M' s) : Mq M (up2 M' k j v) s := by
  obtain ⟨q1, q2, q3, q4⟩ := g
  have e0 : up2 M' k j v 0 = M' 0 := up2_ne (by omega)
  refine ⟨fun a ha => ?_, fun b hb => by rw [e0]; exact q2 b hb, fun i hi => by rw [e0]; exact q3 i hi, ?_⟩
  · have ha' := ha
    simp only [List.mem_cons, List.not_mem_nil, or_false, not_or] at ha'
    rw [up2_ne (by omega)]; exact q1 a ha
  · rw [← q4]; simp only [hm, e0]
theorem m_costs {M M' : VT} {Y T k j : Nat} {bt : Bool} {s : H4} {K : Int32 → VT → Prop} (hY : Y ≤ 24) (hT : T ≤ 5) (h0 : M 5 0 = nI Y) (fv : FV Y T (M 5)) (hk : k < 110 * Y) (hj : j < T + 1) (g : Mq M M' s) (hA : ∀ p, k < p → p < 110 * Y → M' 9 p = nI (DD M T bt 24 (st0 p))) (h : ∀ M'' s'', (∀ a, a ≠ 0 → M'' a = M' a) → Mq M M'' s'' → K (nI (cJ M bt (DD M T bt 24) (st0 k) j)) M'') : wp_X8_costs M' (nI k) (tJ j) (oT bt) K := by
  have ss := st0_sv hY hk
  refine m_puts (fun M1 p1 p2 p3 => ?_)
  have g1 := g.puts p1 p2 (p3.trans (su0 (by omega)))
  refine m_step hY hT h0 fv (tJ_T hj) ss g1 (fun M2 o2 g2 => ?_)
  have hh := g2.2.2.2
  have e16 : M2 0 16 = (nxt M (tJ j) (st0 k)).1 := by rw [← hh]; rfl
  have e17 : M2 0 17 = (nxt M (tJ j) (st0 k)).2.1 := by rw [← hh]; rfl
  have e18 : M2 0 18 = (nxt M (tJ j) (st0 k)).2.2.1 := by rw [← hh]; rfl
  have e19 : M2 0 19 = (nxt M (tJ j) (st0 k)).2.2.2 := by rw [← hh]; rfl
  have r := nxt_rng (t := tJ j) hY h0 fv ss
  have oth : ∀ a, a ≠ 0 → M2 a = M' a := fun a ha => by rw [o2 a ha, p1 a ha]
  have tail : wp_X8_costs_b40 K M2 (nI (wJ bt j)) := by
    have K2 := h M2 _ oth g2
    unfold wp_X8_costs_b40 wp_X8_place
    unfold cJ at K2
    rw [e16, e17, e18, e19]
    refine ⟨fun c2 => ⟨fun c1 => ?_, fun c1 => ?_⟩, fun c2 => ?_⟩
    · rw [if_neg c2, if_neg c1] at K2
      have z0 : (nxt M (tJ j) (st0 k)).2.2.2 = 0 := by
        rcases r.1 with e | e | e
        · exact e
        · exact absurd e c1
        · exact absurd e c2
      have s1 := nxt_sv hY h0 fv ss z0
      have lt := rk0_lt s1
      have up := rk0_up hY h0 fv hk z0
      rw [pl0 hY s1]
      refine ⟨vpn (by omega) (by decide), ?_⟩
      rw [nI_c (by omega), oth 9 (by decide), hA _ up lt, st0_rk hY s1, nI_add]
      exact K2
    · rw [if_neg c2, if_pos c1] at K2
      exact K2
    · rw [if_pos c2] at K2
      exact K2
  have e := tJ_i (j := j) (by omega)
  refine ⟨fun c => ?_, fun c => ⟨fun d => ?_, fun d => ?_⟩⟩
  · have w1 : wJ bt j = 1 := by
      cases bt with
      | false => rfl
      | true => exact absurd c (by decide)
    rw [w1] at tail
    exact tail
  · have w1 : wJ bt j = 1 := by
      unfold wJ
      rw [i_le, t0, e] at d
      rw [if_neg (by omega)]
    rw [w1] at tail
    exact tail
  · have w1 : wJ bt j = 0 := by
      unfold wJ
      rw [i_le, t0, e] at d
      cases bt with
      | false => exact absurd rfl c
      | true => rw [if_pos ⟨rfl, by omega⟩]
    rw [w1] at tail
    exact tail
theorem cJ_bd {M : VT} {bt : Bool} {T : Nat} {s : H4} {j : Nat} : cJ M bt (DD M T bt 24) s j ≤ 10000 := by
  have := DD_le M T bt 24 (nxt M (tJ j) s)
  have := wJ_le bt j
  unfold cJ
  split
  · omega
  · split <;> omega
theorem m_works_in {M : VT} {Y T k : Nat} {bt : Bool} {K : VT → Prop} {KL : VT → Int32 → Int32 → Prop} (hY : Y ≤ 24) (hT : T ≤ 5) (h0 : M 5 0 = nI Y) (h1 : M 5 1 = nI T) (fv : FV Y T (M 5)) (hk : k < 110 * Y) : ∀ (m j : Nat) (M' : VT) (s : H4), j + m = T + 1 → Mq M M' s → (∀ p, k < p → p < 110 * Y → M' 9 p = nI (DD M T bt 24 (st0 p))) →
    (∀ M'' s'', Mq M M'' s'' → (∀ p, k < p → p < 110 * Y → M'' 9 p = nI (DD M T bt 24 (st0 p))) → M'' 9 k = nI (mnc 9999 (cJ M bt (DD M T bt 24) (st0 k)) (T + 1)) → KL M'' (oT bt) (nI k + (-1))) → wp_X8_works_L27 K KL (m + 1) M' (oT bt) (nI k) (nI (mnc 9999 (cJ M bt (DD M T bt 24) (st0 k)) j)) (tJ j) := by
  intro m
  induction m with
  | zero =>
    intro j M' s hj g hA h
    have : j = T + 1 := by omega
    subst this
    refine ⟨vin (by decide), fun _ => ⟨vpn (by omega) (by decide), ?_⟩, fun c => absurd ?_ c⟩
    · rw [nI_c (by omega)]
      intro V8 e8
      refine h V8 s (by rw [e8]; exact g.u9 (Or.inl rfl)) (fun p u1 u2 => by rw [e8, up2_selfn (by omega)]; exact hA p u1 u2) (by rw [e8, up2_self])
    · rw [cn1, g.1 5 (by decide), h1, tJ_s]
      exact nI_le (Nat.le_refl _) (by omega)
  | succ m ih =>
    intro j M' s hj g hA h
    have hjT : j < T + 1 := by omega
    refine ⟨vin (by decide), fun c => absurd c ?_, fun _ => ?_⟩
    · rw [cn1, g.1 5 (by decide), h1, i_le, nI_toInt (by omega), tJ_i (by omega)]; omega
    · refine m_costs hY hT h0 fv hk hjT g hA (fun M2 s2 o2 g2 => ?_)
      unfold wp_X8_works_b60
      have b1 := mnc_le 9999 (cJ M bt (DD M T bt 24) (st0 k)) j
      have b2 := cJ_bd (M := M) (bt := bt) (T := T) (s := st0 k) (j := j)
      have hA2 : ∀ p, k < p → p < 110 * Y → M2 9 p = nI (DD M T bt 24 (st0 p)) := fun p u1 u2 => by rw [o2 9 (by decide)]; exact hA p u1 u2
      have nx := ih (j + 1) M2 s2 (by omega) g2 hA2 h
      rw [nI_leI (by omega) (by omega), tJ_1]
      refine ⟨fun c => ?_, fun c => ?_⟩
      · rw [mnc, Nat.min_eq_left c] at nx
        exact nx
      · rw [mnc, Nat.min_eq_right (by omega)] at nx
        exact nx
theorem m_works_L {M : VT} {Y T : Nat} {bt : Bool} {K : VT → Prop} (hY : Y ≤ 24) (hT : T ≤ 5) (h0 : M 5 0 = nI Y) (h1 : M 5 1 = nI T) (fv : FV Y T (M 5)) : ∀ (k : Nat) (M' : VT) (s : H4), k ≤ 110 * Y → Mq M M' s → (∀ p, k ≤ p → p < 110 * Y → M' 9 p = nI (DD M T bt 24 (st0 p))) →
    (∀ M'' s'', Mq M M'' s'' → (∀ p, p < 110 * Y → M'' 9 p = nI (DD M T bt 24 (st0 p))) → wp_X8_backs M'' K) → wp_X8_works_L16 K (k + 1) M' (oT bt) (tJ k) := by
  intro k
  induction k with
  | zero =>
    intro M' s hk g hA h
    exact ⟨fun _ => h M' s g (fun p u => hA p (Nat.zero_le _) u), fun c => absurd (by decide) c⟩
  | succ k ih =>
    intro M' s hk g hA h
    rw [tJ_s]
    refine ⟨fun c => absurd c (nI_pos (by omega)), fun _ => ⟨T + 2, m_works_in (KL := wp_X8_works_L16 K (k + 1)) (k := k) hY hT h0 h1 fv (by omega) (T + 1) 0 M' s (by omega) g (fun p u1 u2 => hA p (by omega) u2) (fun M2 s2 g2 a1 a2 => ?_)⟩⟩
    have e : nI k + (-1) = tJ k := by
      cases k with
      | zero => rfl
      | succ k => exact pk_m1 k
    rw [e]
    refine ih M2 s2 (by omega) g2 (fun p u1 u2 => ?_) h
    rcases Nat.lt_or_ge k p with z | z
    · exact a1 p z u2
    · have : p = k := by omega
      subst this
      rw [a2, ← DD_24 hY h0 fv (st0_sv hY (by omega))]
/-- works: the table -/
theorem m_works {M : VT} {Y T : Nat} {bt : Bool} {K : VT → Prop} (hY : Y ≤ 24) (hY0 : 0 < Y) (hT : T ≤ 5) (h0 : M 5 0 = nI Y) (h1 : M 5 1 = nI T) (fv : FV Y T (M 5)) (h : ∀ M', Mq M M' (hm M) → Ms M M' → (∀ p, p < 110 * Y → M' 9 p = nI (DD M T bt 24 (st0 p))) → K M') : wp_X8_works M (oT bt) K := by
  refine s_asidesM (fun M1 g gs => ⟨vin (by decide), 110 * Y + 1, ?_⟩)
  rw [cn0, g.1 5 (by decide), h0, show (110 : Int32) = nI 110 from rfl, pk_mul, show (1 : Int32) = nI 1 from rfl, pk_sub (by omega)]
  have e : nI (110 * Y - 1) = tJ (110 * Y) := by unfold tJ; rw [if_neg (by omega)]
  rw [e]
  exact m_works_L hY hT h0 h1 fv (110 * Y) M1 (hm M) (Nat.le_refl _) g (fun p u1 u2 => absurd u2 (by omega)) (fun M2 s2 g2 a2 => s_backs g2 (fun M3 o3 p1 p2 _ ms => h M3 (Mq.back ms p1 p2) ms (fun p hp => by rw [o3 9 (by decide)]; exact a2 p hp)))
/-- way: the least cost, what is done first -/
theorem m_way_L {M : VT} {Y T k jm : Nat} {bt : Bool} {K : Int32 → VT → Prop} (hY : Y ≤ 24) (hT : T ≤ 5) (h0 : M 5 0 = nI Y) (fv : FV Y T (M 5)) (hk : k < 110 * Y) (hj : jm < T + 1) (e1 : cJ M bt (DD M T bt 24) (st0 k) jm = DD M T bt 24 (st0 k)) (e2 : ∀ i, i < jm → ¬ cJ M bt (DD M T bt 24) (st0 k) i = DD M T bt 24 (st0 k))
    (h : ∀ M', Ms M M' → K (if jm = 0 then -1000000 else nI (jm - 1)) M') : ∀ (m j : Nat) (M' : VT) (s : H4), j + m = jm → Mq M M' s → (∀ p, p < 110 * Y → M' 9 p = nI (DD M T bt 24 (st0 p))) → wp_X8_way_L76 K (m + 1) M' (oT bt) (nI k) (tJ j) := by
  intro m
  induction m with
  | zero =>
    intro j M' s hjm g hA
    have : j = jm := by omega
    subst this
    refine m_costs hY hT h0 fv hk hj g (fun p _ u => hA p u) (fun M2 s2 o2 g2 => ⟨vpn (by omega) (by decide), fun _ => s_backs g2 (fun M3 _ _ _ _ ms => ?_), fun c => absurd ?_ c⟩)
    · have h3 := h M3 ms
      have e := tJ_i (j := j) (by omega)
      refine ⟨fun c => ?_, fun c => ?_⟩
      · rw [i_le, t0, e] at c
        rw [if_neg (by omega)] at h3
        unfold tJ
        rw [if_neg (by omega)]
        exact h3
      · rw [i_le, t0, e] at c
        rw [if_pos (by omega)] at h3
        exact h3
    · rw [nI_c (by omega), o2 9 (by decide), hA k hk, e1]
  | succ m ih =>
    intro j M' s hjm g hA
    refine m_costs hY hT h0 fv hk (by omega) g (fun p _ u => hA p u) (fun M2 s2 o2 g2 => ⟨vpn (by omega) (by decide), fun c => absurd ?_ (e2 j (by omega)), fun _ => ?_⟩)
    · rw [nI_c (by omega), o2 9 (by decide), hA k hk] at c
      have b1 := DD_le M T bt 24 (st0 k)
      have b2 := cJ_bd (M := M) (bt := bt) (T := T) (s := st0 k) (j := j)
      exact (nI_eq (by omega) (by omega)).mp c
    · rw [tJ_1, ← tJ_s]
      exact ih (j + 1) M2 s2 (by omega) g2 (fun p u => by rw [o2 9 (by decide)]; exact hA p u)
theorem m_way {M : VT} {Y T : Nat} {bt : Bool} {w : Int32} {K : Int32 → VT → Prop} (hY : Y ≤ 24) (hY0 : 0 < Y) (hT : T ≤ 5) (h0 : M 5 0 = nI Y) (h1 : M 5 1 = nI T) (fv : FV Y T (M 5)) (hs : sv1 Y (hm M))
    (hy : ∀ M', Ms M M' → DD M T bt 24 (hm M) < 9999 → w = 0 → K (nI (DD M T bt 24 (hm M))) M')
    (hf : ∀ M' j, Ms M M' → DD M T bt 24 (hm M) < 9999 → ¬ w = 0 → EE M T bt (hm M) = 8 * DD M T bt 24 (hm M) + j → j < T + 1 → K (if j = 0 then -1000000 else nI (j - 1)) M')
    (hn : ∀ M', Ms M M' → ¬ DD M T bt 24 (hm M) < 9999 → K (-1000000) M') : wp_X8_way M (oT bt) w K := by
  have e19 : M 0 19 = 0 := hs.1.1
  refine ⟨fun _ => m_works (bt := bt) hY hY0 hT h0 h1 fv (fun M2 g2 ms a2 => ?_), fun c => absurd e19 c⟩
  have hh := g2.2.2.2
  simp only [hm, Prod.mk.injEq] at hh
  have pl := pl0 hY hs.1
  have pl' : 110 * M 0 16 + 11 * M 0 17 + M 0 18 + 5 = nI (rk0 (hm M)) := pl
  have lt := rk0_lt hs.1
  have b1 := DD_le M T bt 24 (hm M)
  unfold wp_X8_place
  rw [hh.1, hh.2.1, hh.2.2.1, pl']
  show vp_in (nI (rk0 (hm M))) 2640 ∧ _
  rw [nI_c (by omega), a2 _ lt, st0_rk hY hs.1, show (9999 : Int32) = nI 9999 from rfl, nI_ltI (by omega) (by decide)]
  refine ⟨vpn (by omega) (by decide), fun c => ⟨fun cw => ?_, fun cw => ⟨vpn (by omega) (by decide), hy M2 ms c cw⟩⟩, fun c => hn M2 ms c⟩
  obtain ⟨j, j1, j2, j3, j4⟩ := EE_val hY hT h0 fv hs.1 c
  have es := st0_rk hY hs.1
  refine ⟨j + 1, m_way_L (jm := j) hY hT h0 fv lt j1 (by rw [es]; exact j2) (fun i hi => by rw [es]; exact j3 i hi) (fun M3 ms3 => hf M3 j ms3 c cw j4 j1) j 0 M2 (hm M) (by omega) g2 a2⟩
