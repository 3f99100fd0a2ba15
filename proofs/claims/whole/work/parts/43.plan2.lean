/-! plan -/
theorem LR.st {X M : VT} {h : Nat → Int32} {Y T : Nat} {v : Int32} (H : LR X 16 (M 5) h Y T) : LR (up2 X 0 10 v) 16 (M 5) h Y T :=
  H.cg (up2_ne (by decide)) (up2_ne (by decide)) (up2_ne (by decide)) (up2_ne (by decide)) (up2_ne (by decide)) rfl (fun _ _ => rfl)
theorem x_plan_L {X M : VT} {Y T n i0 r : Nat} {w : Int32} {ts : Nat → Int32} {K : Int32 → VT → Prop} (hL : LR X 16 (M 5) (fun i => M 0 (16 + i)) Y T) (hY : 0 < Y) (hn : i0 + n ≤ 40) (hr : r < 8) (hts : ∀ q, q < n → X (36 + 2 * r + 1) (i0 + q) = ts q) (hT : ∀ q, q < n → isT T (ts q)) : ∀ (m i : Nat) (X' : VT) (s : H4), i + m = n → fr X X' 15 → hp X' 15 = s → es Y s →
    (∀ X'', fr X X'' 15 → hp X'' 15 = (pr M ts m i s).2 → wp_X7_plan_b176 K X'' w (nI (pr M ts m i s).1)) → wp_X7_plan_L113 K (m + 1) X' (nI i0) (nI n) w (36 + 2 * r) (nI i) := by
  intro m
  induction m with
  | zero =>
    intro i X' s hi f g he h
    exact ⟨fun _ => h X' f g, fun c => absurd (nI_le (by omega) (by omega)) c⟩
  | succ m ih =>
    intro i X' s hi f g he h
    refine ⟨fun c => absurd c (nI_ge (by omega) (by omega)), fun _ => ?_⟩
    have e3 : X' 15 3 = s.2.2.2 := by rw [← g]; rfl
    rw [e3]
    refine ⟨fun e => ?_, fun e => ?_⟩
    · rw [pr_end e] at h
      exact h X' f g
    · rw [pr, if_pos e] at h
      rw [nI_add, nI_1]
      refine ⟨vpn (by omega) (by decide), ?_⟩
      rw [nI_c (by omega), f _ (by omega), hts i (by omega)]
      refine x_kindT (hL.sc f (by decide)) (hT i (by omega)) (x_forceT (hL.sc f (by decide)) (hT i (by omega)) ?_)
      exact x_pass (hL.sc f (by decide)) hY (hT i (by omega)) (by decide) (he e) g (fun X2 f2 g2 => ih (i + 1) X2 _ (by omega) (f.tr f2) g2 (es_nxt hL.1.1 hL.2.1.2 (hL.2.2.2.2.2.2.2.2.2 hY).1 (he e)) h)
theorem m_plan_L {M : VT} {Y T n b : Nat} {w : Int32} {ts : Nat → Int32} {K : Int32 → VT → Prop} (hY : Y ≤ 24) (hT5 : T ≤ 5) (h0 : M 5 0 = nI Y) (fv : FV Y T (M 5)) (hn : b + n ≤ 320) (hts : ∀ q, q < n → M 3 (b + q) = ts q) (hT : ∀ q, q < n → isT T (ts q)) : ∀ (m i : Nat) (M' : VT) (s : H4), i + m = n → Mq M M' s → es Y s →
    (∀ M'', Mq M M'' (pr M ts m i s).2 → wp_X8_plan_b127 K M'' w (nI (pr M ts m i s).1)) → wp_X8_plan_L94 K (m + 1) M' (nI n) w (nI b) (nI i) := by
  intro m
  induction m with
  | zero =>
    intro i M' s hi g he h
    exact ⟨fun _ => h M' g, fun c => absurd (nI_le (by omega) (by omega)) c⟩
  | succ m ih =>
    intro i M' s hi g he h
    refine ⟨fun c => absurd c (nI_ge (by omega) (by omega)), fun _ => ?_⟩
    have e19 : M' 0 19 = s.2.2.2 := by rw [← g.2.2.2]; rfl
    rw [e19]
    refine ⟨fun e => ?_, fun e => ?_⟩
    · rw [pr_end e] at h
      exact h M' g
    · rw [pr, if_pos e] at h
      rw [nI_add, nI_1]
      refine ⟨vpn (by omega) (by decide), ?_⟩
      rw [nI_c (by omega), g.1 3 (by decide), hts i (by omega)]
      exact m_step hY hT5 h0 fv (hT i (by omega)) (he e) g (fun M'' _ g2 => ih (i + 1) M'' _ (by omega) g2 (es_nxt hY h0 fv (he e)) h)
theorem ts_all {T n : Nat} {ts : Nat → Int32} (h : ¬ ∀ q, q < n → isT T (ts q)) : ∃ q, q < n ∧ ¬ isT T (ts q) := by
  apply Classical.byContradiction
  intro c
  exact h (fun q hq => Classical.byContradiction (fun z => c ⟨q, hq, z⟩))
theorem row_ts {X M : VT} {r i0 n : Nat} (H : Rrow X M) (hr : r < 8) (hm : M 1 r ≠ -1) (hi : i0 + n ≤ 40) : (∀ q, q < n → X (36 + 2 * r + 1) (i0 + q) = M 3 (40 * r + i0 + q)) := by
  intro q hq
  rw [show 36 + 2 * r + 1 = 37 + 2 * r by omega, Nat.add_assoc]
  exact ((H r hr).2.2 hm).2.2 _ (by omega)
theorem q_plan {X M : VT} (H : RR X M) (a i n w : Int32) : wp_X7_plan X a i n w (fun r X' => wp_X8_plan M a i n w (EQ r X')) := by
  obtain ⟨hs, Y, T, h0⟩ := id H
  obtain ⟨hL, isl⟩ := id h0.2.2.1
  unfold wp_X7_plan
  refine x_there hL.2.1.1 hL.1.1 ?_
  by_cases hY : 0 < Y
  · rw [if_pos hY]
    rw [if_pos hY] at isl
    obtain ⟨fv, hv⟩ := hL.2.2.2.2.2.2.2.2.2 hY
    refine ⟨fun _ => ?_, fun c => absurd c (by decide)⟩
    have head : ∀ {K : Int32 → VT → Prop}, (wp_X8_isRow M a (fun r3 V2 => (r3 = 0 → K (-1000001) V2) ∧ (¬ r3 = 0 → wp_X8_in V2 n.toInt64 0 24 (fun r6 V5 => (r6 = 0 → K (-1000001) V5) ∧ (¬ r6 = 0 → wp_X8_in V5 w.toInt64 0 1 (fun r9 V8 => (¬ r9 = 0 → wp_X8_partOf V8 a i n (fun r12 V11 => (r12 ≤ 0 → wp_X8_areTaps V11 (40 * a + i) n 24 (fun r15 V14 => (¬ r15 = 0 → wp_X8_asides V14 (fun V17 => ∃ n94 : Nat, wp_X8_plan_L94 K n94 V17 n w (40 * a + i) 0)) ∧ (r15 = 0 → K (-1000001) V14))) ∧ (¬ r12 ≤ 0 → wp_X8_finds V11 r12 (fun r19 V18 => K r19 V18)))) ∧ (r9 = 0 → K (-1000001) V8)))))) ) → wp_X8_plan M a i n w K := by
      intro K hh
      unfold wp_X8_plan
      rw [isl]
      exact ⟨fun _ => hh, fun c => absurd c (by decide)⟩
    rcases in_or a 0 7 with ⟨p1, p2⟩ | hp'
    · refine isOut_in p1 p2 ⟨fun c => absurd rfl c, fun _ => ?_⟩
      rcases in_or n 0 24 with ⟨q1, q2⟩ | hq
      · refine isOut_in q1 q2 ⟨fun c => absurd rfl c, fun _ => ?_⟩
        rcases in_or w 0 1 with ⟨r1, r2⟩ | hr
        · refine isOut_in r1 r2 ⟨fun _ => ?_, fun c => absurd rfl c⟩
          obtain ⟨r, hr7, rfl⟩ := nI_in_of (n := 7) rfl p1 p2
          have cr : (nI r).toNatClampNeg = r := nI_c (by omega)
          rw [cr]
          refine ⟨vpn (by omega) (by decide), x_find h0.1 (by omega) ⟨fun f => ?_, fun f => ?_⟩⟩
          · obtain ⟨i0, n0, s0, rfl, rfl, e3, e4, e5, e6⟩ := FA_0 h0.1 (by omega) f
            have n24 : n0 ≤ 24 := by
              rw [i_le, nI_toInt (by omega)] at q2
              have : (24 : Int32).toInt = 24 := rfl
              omega
            have hts := row_ts (n := n0) h0.1 (by omega : r < 8) e6 (by omega : i0 + n0 ≤ 40)
            have ix : (40 : Int32) * nI r + nI i0 = nI (40 * r + i0) := nI_ix (c := 40)
            have mid : ∀ {K : Int32 → VT → Prop}, wp_X8_areTaps M (nI (40 * r + i0)) (nI n0) 24 (fun r15 V14 => (¬ r15 = 0 → wp_X8_asides V14 (fun V17 => ∃ n94 : Nat, wp_X8_plan_L94 K n94 V17 (nI n0) w (nI (40 * r + i0)) 0)) ∧ (r15 = 0 → K (-1000001) V14)) → wp_X8_plan M (nI r) (nI i0) (nI n0) w K := by
              intro K hh
              refine head (isRow_in p1 p2 ⟨fun c => absurd c (by decide), fun _ => in_in (lo := 0) (hi := 24) rfl rfl q1 q2 ⟨fun c => absurd c (by decide), fun _ => in_in (lo := 0) (hi := 1) rfl rfl r1 r2 ⟨fun _ => m_partOf h0.1 (by omega) ?_, fun c => absurd c (by decide)⟩⟩⟩)
              rw [f, ix]
              exact ⟨fun _ => hh, fun c => absurd (by decide) c⟩
            refine ⟨n0 + 1, x_taps_L (T := T) (i0 := i0) (n := n0) (ts := fun q => M 3 (40 * r + i0 + q)) hL.1.2.1 hL.2.2.1.1 (by omega) hts (fun ok => ?_) (fun bad => ?_) n0 0 (by omega) (fun q hq => absurd hq (by omega))⟩
            · refine ⟨fun _ => ?_, fun c => ?_⟩
              · intro X1 e1
                refine s_be (by decide) (fun X2 f2 g2 => ?_)
                have hL1 : LR X1 16 (M 5) (fun i => M 0 (16 + i)) Y T := by rw [e1]; exact hL.st
                have h20 : hp X1 20 = hm M := hp20 hL1
                refine ⟨n0 + 1, x_plan_L (ts := fun q => M 3 (40 * r + i0 + q)) hL1 hY (by omega) (by omega) (fun q hq => by rw [e1, up2_ne (by omega)]; exact hts q hq) ok n0 0 X2 (hm M) (by omega) f2 ((hp_of g2).trans h20) (es_hm hv) (fun X3 f3 g3 => ?_)⟩
                have fin : ∀ x, (w = 0 → x = nI (pr M (fun q => M 3 (40 * r + i0 + q)) n0 0 (hm M)).1) → (¬ w = 0 → x = X3 15 3) → wp_X8_plan M (nI r) (nI i0) (nI n0) w (EQ x X3) := by
                  intro x z1 z2
                  have nobad : ((∃ q, q < n0 ∧ ¬ isT T (M 3 (40 * r + i0 + q))) ∨ 24 < cT (fun q => M 3 (40 * r + i0 + q)) n0) → False := by
                    rintro (⟨q, hq, z⟩ | z)
                    · exact z (ok q hq)
                    · have := cT_le (fun q => M 3 (40 * r + i0 + q)) n0
                      omega
                  refine mid ⟨n0 + 1, m_are_L (T := T) (most := 24) (ts := fun q => M 3 (40 * r + i0 + q)) hL.1.2.1 hL.2.2.1.2 (by omega) (by decide) (fun q _ => rfl) (fun _ _ => ⟨fun _ => s_asides (fun M1 _ g => ⟨n0 + 1, m_plan_L (ts := fun q => M 3 (40 * r + i0 + q)) hL.1.1 hL.1.2.1 hL.2.1.2 fv (by omega) (fun q _ => rfl) ok n0 0 M1 (hm M) (by omega) g (es_hm hv) (fun M2 g' => s_backs g' (fun M3 _ _ _ _ ms => ?_))⟩), fun c => absurd c (by decide)⟩) (fun bad => (nobad bad).elim) n0 0 (by omega) (fun q hq => absurd hq (by omega))⟩
                  have hR : RR X3 (up2 M3 0 4 0) := by
                    have := H.st (u := 0)
                    rw [← e1] at this
                    exact this.cg (Xs_of f3) ms.up
                  have e := g3.trans g'.2.2.2.symm
                  simp only [hp, hm, Prod.mk.injEq] at e
                  refine ⟨fun c => ?_, fun c => ?_⟩
                  · intro V1 v1; subst v1
                    exact ⟨(z2 c).trans e.2.2.2, hR⟩
                  · intro V1 v1; subst v1
                    exact ⟨z1 c, hR⟩
                exact ⟨fun c => fin _ (fun q => absurd q c) (fun _ => rfl), fun c => fin _ (fun _ => rfl) (fun q => absurd c q)⟩
              · have := cT_le (fun q => M 3 (40 * r + i0 + q)) n0
                exact absurd (show nI (cT (fun q => M 3 (40 * r + i0 + q)) n0) < 0 by rw [c]; decide +kernel) (nI_pos (by omega))
            · refine ⟨fun c => absurd rfl c, fun _ => mid ⟨n0 + 1, m_are_L (T := T) (most := 24) (ts := fun q => M 3 (40 * r + i0 + q)) hL.1.2.1 hL.2.2.1.2 (by omega) (by decide) (fun q _ => rfl) (fun ok _ => ?_) (fun _ => ⟨fun c => absurd rfl c, fun _ => ⟨rfl, H⟩⟩) n0 0 (by omega) (fun q hq => absurd hq (by omega))⟩⟩
              obtain ⟨q, hq, z⟩ := bad
              exact absurd (ok q hq) z
          · refine q_found H _ (fun X1 hR => head (isRow_in p1 p2 ⟨fun c => absurd c (by decide), fun _ => in_in (lo := 0) (hi := 24) rfl rfl q1 q2 ⟨fun c => absurd c (by decide), fun _ => in_in (lo := 0) (hi := 1) rfl rfl r1 r2 ⟨fun _ => m_partOf h0.1 (by omega) ⟨fun c => ?_, fun _ M1 m1 => ?_⟩, fun c => absurd c (by decide)⟩⟩⟩))
            · rcases FA_or M r i n with z | z | z
              · exact absurd z f
              · rw [z] at c; exact absurd c (by decide)
              · rw [z] at c; exact absurd c (by decide)
            · subst m1; exact ⟨rfl, hR⟩
        · exact isOut_out hr ⟨fun c => absurd c (by decide), fun _ => head (isRow_in p1 p2 ⟨fun c => absurd c (by decide), fun _ => in_in (lo := 0) (hi := 24) rfl rfl q1 q2 ⟨fun c => absurd c (by decide), fun _ => in_out (lo := 0) (hi := 1) rfl rfl hr ⟨fun c => absurd rfl c, fun _ => ⟨rfl, H⟩⟩⟩⟩)⟩
      · exact isOut_out hq ⟨fun _ => head (isRow_in p1 p2 ⟨fun c => absurd c (by decide), fun _ => in_out (lo := 0) (hi := 24) rfl rfl hq ⟨fun _ => ⟨rfl, H⟩, fun c => absurd rfl c⟩⟩), fun c => absurd c (by decide)⟩
    · exact isOut_out hp' ⟨fun _ => head (isRow_out hp' ⟨fun _ => ⟨rfl, H⟩, fun c => absurd rfl c⟩), fun c => absurd c (by decide)⟩
  · rw [if_neg hY]
    rw [if_neg hY] at isl
    refine ⟨fun c => absurd rfl c, fun _ => ?_⟩
    unfold wp_X8_plan
    rw [isl]
    exact ⟨fun c => absurd rfl c, fun _ => ⟨rfl, H⟩⟩
