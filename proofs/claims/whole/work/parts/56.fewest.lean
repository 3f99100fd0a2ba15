/-! fewest, soonest, heldFrom, righted -/
theorem n1M : (1000000 : Int32) = nI 1000000 := by decide +kernel
theorem WX.xs {X X' : VT} {sp : Nat} {w : WS} (h : WX X X' sp w) : Xs X X' := by
  refine ⟨fun a ha => ?_, by rw [h.1 3 (by decide) (by decide) (by decide)]⟩
  simp only [List.mem_cons, List.not_mem_nil, or_false, not_or] at ha
  exact h.1 a ha.2.1 ha.2.2.1 ha.2.2.2.1
theorem x_walkE {X : VT} {k : Nat} {a b c : Int32} {K : VT → Prop} (hk : k ≠ 10) (he : ¬ X k 3 = 0) (h : ∀ X' : VT, (∀ a, a ≠ 10 → X' a = X a) → X' 10 3 = (if X k 3 = 2 then 0 else 8000000) → X' 10 4 = 0 → K X') : wp_X4_walk X 16 k a b c K := by
  have b15 : ∀ v : Int32, v = (if X k 3 = 2 then 0 else 8000000) → wp_X4_walk_b15 K X 16 k a b c v := by
    intro v ev V2 e2 V3 e3
    have f3 : ∀ a, a ≠ 10 → V3 a = X a := fun a ha => by rw [e3, up2_ne ha, e2, up2_ne ha]
    rw [f3 k hk]
    exact ⟨fun q => absurd q he, fun _ => h V3 f3 (by rw [e3, up2_selfn (by decide), e2, up2_self]; exact ev) (by rw [e3, up2_self])⟩
  exact ⟨fun q => b15 _ (by rw [if_neg q]), fun q => b15 _ (by rw [if_pos q])⟩
theorem Xs.of10 {X X' : VT} (h : ∀ a, a ≠ 10 → X' a = X a) : Xs X X' := by
  refine ⟨fun a ha => ?_, by rw [h 3 (by decide)]⟩
  simp only [List.mem_cons, List.not_mem_nil, or_false, not_or] at ha
  exact h a ha.2.1
theorem HV_sv1 {M : VT} {Y : Nat} (hv : HV Y (fun i => M 0 (16 + i))) (e0 : M 0 19 = 0) : sv1 Y (hm M) := ⟨HV_sv hv e0, (hv.2.1 e0).2.2.1⟩
theorem x_walkF {X M : VT} {k Y T : Nat} {s : H4} {bt : Bool} {K : VT → Prop} (hL : LR X 16 (M 5) (fun i => M 0 (16 + i)) Y T) (hY : 0 < Y) (hk : k ≠ 10 ∧ k ≠ 11 ∧ k ≠ 12) (hX : hp X k = s) (hs : sv1 Y s) (h : ∀ X', WX X X' (rk9 s) (wkE M Y T bt s 1000000) → WB (wkE M Y T bt s 1000000) → K X') : wp_X4_walk X 16 k (oT bt) (oM bt) 1000000 K := by
  rw [n1M]
  exact x_walk hL hY hk hX hs (by decide) h
theorem x_cost {V : VT} {c : Nat} {K : Int32 → VT → Prop} (e : V 10 3 / 8 = nI c) (h : K (nI c) V) : wp_X4_cost V K := by
  unfold wp_X4_cost
  rw [e]
  exact h
theorem x_first {V : VT} {j : Nat} {K : Int32 → VT → Prop} (e : V 10 3 - V 10 3 / 8 * 8 = nI j) (hj : j < 8) (h : K (if j = 0 then -1000000 else nI (j - 1)) V) : wp_X4_first V K := by
  unfold wp_X4_first
  rw [e]
  refine ⟨fun c => ?_, fun c => ?_⟩
  · have : j ≠ 0 := fun z => c (by rw [z]; rfl)
    rw [if_neg this] at h
    rw [show (1 : Int32) = nI 1 from rfl, pk_sub (by omega)]
    exact h
  · have : j = 0 := (nI_eq (a := j) (b := 0) (by omega) (by decide)).mp c
    rw [if_pos this] at h
    exact h
theorem ne_far {c : Nat} (h : c < 1000000) : ¬ nI c = 1000000 := by
  rw [n1M]
  intro z
  have := (nI_eq (by omega) (by decide)).mp z
  omega
theorem q_lc {X M : VT} (H : RR X M) (bt : Bool) (w : Int32) : wp_X7_leastCost X w (oT bt) (oM bt) (fun r X' => (¬ M 0 15 = 0 → wp_X8_in M w.toInt64 0 1 (fun r3 V2 => (r3 = 0 → EQ r X' (-1000001) V2) ∧ (¬ r3 = 0 → wp_X8_way V2 (oT bt) w (fun r6 V5 => EQ r X' r6 V5)))) ∧ (M 0 15 = 0 → EQ r X' (-1000002) M)) := by
  obtain ⟨hs, Y, T, h0⟩ := id H
  obtain ⟨hL, isl⟩ := id h0.2.2.1
  unfold wp_X7_leastCost
  refine x_there hL.2.1.1 hL.1.1 ?_
  by_cases hY : 0 < Y
  · rw [if_pos hY]
    rw [if_pos hY] at isl
    obtain ⟨fv, hv⟩ := hL.2.2.2.2.2.2.2.2.2 hY
    refine ⟨fun _ => ?_, fun c => absurd c (by decide)⟩
    rcases in_or w 0 1 with ⟨r1, r2⟩ | hr
    · refine isOut_in r1 r2 ⟨fun _ => ?_, fun c => absurd rfl c⟩
      have e20 : X 20 3 = M 0 19 := hL.2.2.2.2.2.2.2.2.1 3 (by decide)
      have mid : ∀ (x : Int32) (X3 : VT), wp_X8_way M (oT bt) w (fun r6 V5 => EQ x X3 r6 V5) → (¬ M 0 15 = 0 → wp_X8_in M w.toInt64 0 1 (fun r3 V2 => (r3 = 0 → EQ x X3 (-1000001) V2) ∧ (¬ r3 = 0 → wp_X8_way V2 (oT bt) w (fun r6 V5 => EQ x X3 r6 V5)))) ∧ (M 0 15 = 0 → EQ x X3 (-1000002) M) := fun x X3 hh => i_hd isl (in_in (lo := 0) (hi := 1) rfl rfl r1 r2 ⟨fun c => absurd c (by decide), fun _ => hh⟩)
      by_cases e0 : M 0 19 = 0
      · have s1 := HV_sv1 hv e0
        refine x_walkF (bt := bt) hL hY (by decide) (hp20 hL) s1 (fun X' W wb => ?_)
        have e := wk_far (bt := bt) hL.1.1 hL.1.2.1 hL.2.1.2 fv s1 wb
        have ehome : X' 10 3 = nI (EE M T bt (hm M)) := by rw [W.2.2.1, e]
        have ele := EE_le M T bt (hm M)
        have d8 : X' 10 3 / 8 = nI (EE M T bt (hm M) / 8) := by rw [ehome, show (8 : Int32) = nI 8 from rfl, pk_div (by omega) (by decide) (by decide)]
        have r8 : X' 10 3 - X' 10 3 / 8 * 8 = nI (EE M T bt (hm M) % 8) := by rw [ehome, show (8 : Int32) = nI 8 from rfl, pk_rem (by omega) (by decide) (by decide)]
        refine x_cost d8 ?_
        by_cases hd : DD M T bt 24 (hm M) < 9999
        · obtain ⟨j, j1, j2, j3, j4⟩ := EE_val hL.1.1 hL.1.2.1 hL.2.1.2 fv s1.1 hd
          have jT := hL.1.2.1
          have q8 : EE M T bt (hm M) / 8 = DD M T bt 24 (hm M) := by omega
          have m8 : EE M T bt (hm M) % 8 = j := by omega
          rw [m8] at r8
          rw [q8] at d8 ⊢
          refine ⟨fun _ => ⟨fun cw => ?_, fun cw => ?_⟩, fun c => absurd c (ne_far (by omega))⟩
          · refine x_first r8 (by omega) (mid _ _ ?_)
            refine m_way (bt := bt) hL.1.1 hY hL.1.2.1 hL.2.1.2 hL.2.2.1.2 fv s1 (fun M' _ _ z => absurd z cw) (fun M' i ms _ _ z z2 => ⟨?_, H.cg W.xs ms⟩) (fun M' _ z => absurd hd z)
            have : i = j := by omega
            rw [this]
          · refine x_cost d8 (mid _ _ (m_way (bt := bt) hL.1.1 hY hL.1.2.1 hL.2.1.2 hL.2.2.1.2 fv s1 (fun M' ms _ _ => ⟨rfl, H.cg W.xs ms⟩) (fun M' i _ _ z _ _ => absurd cw z) (fun M' _ z => absurd hd z)))
        · have ei := EE_inf (bt := bt) hL.1.1 hL.2.1.2 fv s1.1 hd
          rw [ei]
          refine ⟨fun c => absurd n1M.symm c, fun _ => mid _ _ (m_way (bt := bt) hL.1.1 hY hL.1.2.1 hL.2.1.2 hL.2.2.1.2 fv s1 (fun M' _ z _ => absurd z hd) (fun M' i _ z _ _ _ => absurd z hd) (fun M' ms _ => ⟨rfl, H.cg W.xs ms⟩))⟩
      · refine x_walkE (by decide) (by rw [e20]; exact e0) (fun X' W e3 _ => ?_)
        rw [e20] at e3
        have xs := Xs.of10 W
        by_cases e2 : M 0 19 = 2
        · rw [if_pos e2] at e3
          have d8 : X' 10 3 / 8 = nI 0 := by rw [e3]; decide
          have r8 : X' 10 3 - X' 10 3 / 8 * 8 = nI 0 := by rw [e3]; decide
          refine x_cost d8 ⟨fun _ => ⟨fun cw => x_first r8 (by decide) (mid _ _ ⟨fun c => absurd c e0, fun _ => ⟨fun c => absurd e2 c, fun _ => ⟨fun _ => ⟨rfl, H.cg xs Ms.rf⟩, fun c => absurd c cw⟩⟩⟩), fun cw => x_cost d8 (mid _ _ ⟨fun c => absurd c e0, fun _ => ⟨fun c => absurd e2 c, fun _ => ⟨fun c => absurd cw c, fun _ => ⟨rfl, H.cg xs Ms.rf⟩⟩⟩⟩)⟩, fun c => absurd c (ne_far (by decide))⟩
        · rw [if_neg e2] at e3
          have d8 : X' 10 3 / 8 = nI 1000000 := by rw [e3]; decide +kernel
          exact x_cost d8 ⟨fun c => absurd n1M.symm c, fun _ => mid _ _ ⟨fun c => absurd c e0, fun _ => ⟨fun _ => ⟨rfl, H.cg xs Ms.rf⟩, fun c => absurd c e2⟩⟩⟩
    · exact isOut_out hr ⟨fun c => absurd c (by decide), fun _ => i_hd isl (in_out (lo := 0) (hi := 1) rfl rfl hr ⟨fun _ => ⟨rfl, H⟩, fun c => absurd rfl c⟩)⟩
  · rw [if_neg hY]
    rw [if_neg hY] at isl
    exact ⟨fun c => absurd rfl c, fun _ => i_hd0 isl ⟨rfl, H⟩⟩
theorem q_fewest {X M : VT} (H : RR X M) (w : Int32) : wp_X7_fewest X w (fun r X' => wp_X8_fewest M w (EQ r X')) := q_lc H true w
theorem q_soonest {X M : VT} (H : RR X M) (w : Int32) : wp_X7_soonest X w (fun r X' => wp_X8_soonest M w (EQ r X')) := q_lc H false w
def XF (X X' : VT) : Prop := ∀ a, a ≠ 10 → a ≠ 11 → a ≠ 12 → a ≠ 15 → X' a = X a
theorem XF.xs {X X' : VT} (h : XF X X') : Xs X X' := by
  refine ⟨fun a ha => ?_, by rw [h 3 (by decide) (by decide) (by decide) (by decide)]⟩
  simp only [List.mem_cons, List.not_mem_nil, or_false, not_or] at ha
  exact h a ha.2.1 ha.2.2.1 ha.2.2.2.1 ha.2.2.2.2.1
theorem LR.xf {X X' M : VT} {h : Nat → Int32} {Y T : Nat} (H : LR X 16 (M 5) h Y T) (f : XF X X') : LR X' 16 (M 5) h Y T :=
  H.cg (f _ (by decide) (by decide) (by decide) (by decide)) (f _ (by decide) (by decide) (by decide) (by decide)) (f _ (by decide) (by decide) (by decide) (by decide)) (f _ (by decide) (by decide) (by decide) (by decide)) (f _ (by decide) (by decide) (by decide) (by decide)) rfl (fun _ _ => rfl)
theorem x_can {X M : VT} {Y T : Nat} {s : H4} {K : Int32 → VT → Prop} (hL : LR X 16 (M 5) (fun i => M 0 (16 + i)) Y T) (hY : 0 < Y) (hX : hp X 15 = s) (hs : sv1 Y s) (h : ∀ X', (∀ a, a ≠ 10 → a ≠ 11 → a ≠ 12 → X' a = X a) → K (if DD M T true 24 s < 9999 then 1 else 0) X') : wp_X7_canBeHome X 15 K := by
  obtain ⟨fv, hv⟩ := hL.2.2.2.2.2.2.2.2.2 hY
  unfold wp_X7_canBeHome
  rw [n1M]
  refine x_walk (bt := true) hL hY (by decide) hX hs (by decide) (fun X' W wb => ?_)
  have e := wk_far (bt := true) hL.1.1 hL.1.2.1 hL.2.1.2 fv hs wb
  have hh := h X' W.1
  unfold wp_X4_cost
  have ele := EE_le M T true s
  rw [W.2.2.1, e, show (8 : Int32) = nI 8 from rfl, pk_div (by omega) (by decide) (by decide)]
  by_cases hd : DD M T true 24 s < 9999
  · obtain ⟨j, j1, j2, j3, j4⟩ := EE_val hL.1.1 hL.1.2.1 hL.2.1.2 fv hs.1 hd
    have jT := hL.1.2.1
    rw [if_pos hd] at hh
    exact ⟨fun c => absurd ((nI_eq (by omega) (by decide)).mp c) (by omega), fun _ => hh⟩
  · have ei := EE_inf (bt := true) hL.1.1 hL.2.1.2 fv hs.1 hd
    rw [if_neg hd] at hh
    rw [ei]
    exact ⟨fun _ => hh, fun c => absurd rfl c⟩
def hfv (M : VT) (T : Nat) : Nat → Nat → Int32
  | 0, _ => -1000000
  | m + 1, p => if DD M T true 24 (M 0 16, nI p, M 0 18, 0) < 9999 then nI p else hfv M T m (p + 1)
theorem x_held_L {X M : VT} {Y T : Nat} {K : Int32 → VT → Prop} (hL : LR X 16 (M 5) (fun i => M 0 (16 + i)) Y T) (hY : 0 < Y) (hs : sv Y (hm M)) : ∀ (m p : Nat) (X' : VT), p + m = 10 → 0 < p → XF X X' → (∀ X'', XF X X'' → K (hfv M T m p) X'') → wp_X7_heldFrom_L31 K (m + 1) X' (nI p) := by
  intro m
  induction m with
  | zero =>
    intro p X' hpm p0 f h
    have : p = 10 := by omega
    subst this
    exact ⟨fun _ => h X' f, fun c => absurd (by decide) c⟩
  | succ m ih =>
    intro p X' hpm p0 f h
    have nk : ¬ (9 : Int32) < nI p := by
      rw [show (9 : Int32) = nI 9 from rfl, nI_ltI (by decide) (by omega)]; omega
    refine ⟨fun c => absurd c nk, fun _ => ?_⟩
    have h20 := hp20 hL
    simp only [hp, hm, Prod.mk.injEq] at h20
    rw [f 20 (by decide) (by decide) (by decide) (by decide), h20.1, h20.2.2.1]
    refine x_stand (fun X2 f2 g2 => ?_)
    have ep : (nI p).toInt = p := nI_toInt (by omega)
    have ss : sv1 Y (M 0 16, nI p, M 0 18, 0) := ⟨⟨rfl, hs.2.1, by show 0 ≤ (nI p).toInt ∧ (nI p).toInt ≤ 9; omega, hs.2.2.2⟩, by show 1 ≤ (nI p).toInt; omega⟩
    have f02 : XF X X2 := fun a u1 u2 u3 u4 => by rw [f2 a u4]; exact f a u1 u2 u3 u4
    refine x_can (hL.xf f02) hY g2 ss (fun X3 f3 => ?_)
    have f03 : XF X X3 := fun a u1 u2 u3 u4 => by rw [f3 a u1 u2 u3]; exact f02 a u1 u2 u3 u4
    unfold hfv at h
    rw [nI_1]
    by_cases hd : DD M T true 24 (M 0 16, nI p, M 0 18, 0) < 9999
    · rw [if_pos hd]
      rw [if_pos hd] at h
      exact ⟨fun c => absurd c (by decide), fun _ => h X3 f03⟩
    · rw [if_neg hd]
      rw [if_neg hd] at h
      exact ⟨fun _ => ih (p + 1) X3 (by omega) (by omega) f03 h, fun c => absurd rfl c⟩
theorem m_held_L {M M' : VT} {Y T : Nat} {K : Int32 → VT → Prop} (hY : Y ≤ 24) (hs : sv Y (hm M)) (g : Mq M M' (hm M)) (hA : ∀ p, p < 110 * Y → M' 9 p = nI (DD M T true 24 (st0 p))) : ∀ (m p : Nat), p + m = 10 → 0 < p → K (hfv M T m p) M' → wp_X8_heldFrom_L27 K (m + 1) M' (nI p) := by
  intro m
  induction m with
  | zero =>
    intro p hpm p0 h
    have : p = 10 := by omega
    subst this
    exact ⟨fun _ => h, fun c => absurd (by decide) c⟩
  | succ m ih =>
    intro p hpm p0 h
    have nk : ¬ (10 : Int32) ≤ nI p := by
      rw [show (10 : Int32) = nI 10 from rfl, nI_leI (by decide) (by omega)]; omega
    refine ⟨fun c => absurd c nk, fun _ => ?_⟩
    have hh := g.2.2.2
    simp only [hm, Prod.mk.injEq] at hh
    have ep : (nI p).toInt = p := nI_toInt (by omega)
    have ss : sv Y (M 0 16, nI p, M 0 18, 0) := ⟨rfl, hs.2.1, by show 0 ≤ (nI p).toInt ∧ (nI p).toInt ≤ 9; omega, hs.2.2.2⟩
    have pl0' := pl0 hY ss
    have pl : 110 * M 0 16 + 11 * nI p + M 0 18 + 5 = nI (rk0 (M 0 16, nI p, M 0 18, 0)) := pl0'
    have lt := rk0_lt ss
    unfold wp_X8_place
    rw [hh.1, hh.2.2.1, pl]
    show vp_in (nI (rk0 (M 0 16, nI p, M 0 18, 0))) 2640 ∧ _
    have b1 := DD_le M T true 24 (M 0 16, nI p, M 0 18, 0)
    rw [nI_c (by omega), hA _ lt, st0_rk hY ss, show (9999 : Int32) = nI 9999 from rfl, nI_leI (by decide) (by omega), nI_1]
    unfold hfv at h
    refine ⟨vpn (by omega) (by decide), fun c => ?_, fun c => ?_⟩
    · rw [if_neg (by omega)] at h
      exact ih (p + 1) (by omega) (by omega) h
    · rw [if_pos (by omega)] at h
      exact h
theorem q_heldFrom {X M : VT} (H : RR X M) : wp_X7_heldFrom X (fun r X' => wp_X8_heldFrom M (EQ r X')) := by
  obtain ⟨hs, Y, T, h0⟩ := id H
  obtain ⟨hL, isl⟩ := id h0.2.2.1
  unfold wp_X7_heldFrom
  refine x_there hL.2.1.1 hL.1.1 ?_
  by_cases hY : 0 < Y
  · rw [if_pos hY]
    rw [if_pos hY] at isl
    obtain ⟨fv, hv⟩ := hL.2.2.2.2.2.2.2.2.2 hY
    have e20 : X 20 3 = M 0 19 := hL.2.2.2.2.2.2.2.2.1 3 (by decide)
    rw [e20]
    refine ⟨fun _ => ⟨fun e0 => ?_, fun e0 => i_hd isl ⟨fun c => absurd c e0, fun _ => ⟨rfl, H⟩⟩⟩, fun c => absurd c (by decide)⟩
    have ss := HV_sv hv e0
    refine ⟨10, x_held_L hL hY ss 9 1 X (by decide) (by decide) (fun _ _ _ _ _ => rfl) (fun X2 f2 => i_hd isl ⟨fun _ => ?_, fun c => absurd e0 c⟩)⟩
    exact m_works (bt := true) hL.1.1 hY hL.1.2.1 hL.2.1.2 hL.2.2.1.2 fv (fun M2 g2 ms a2 => ⟨10, m_held_L hL.1.1 ss g2 a2 9 1 (by decide) (by decide) ⟨rfl, H.cg f2.xs ms⟩⟩)
  · rw [if_neg hY]
    rw [if_neg hY] at isl
    exact ⟨fun c => absurd rfl c, fun _ => i_hd0 isl ⟨rfl, H⟩⟩
def rgv (M : VT) (T : Nat) : Nat → Nat → Int32 → Int32
  | 0, _, acc => acc
  | m + 1, l, acc => rgv M T m (l + 1) (if DD M T true 24 (M 0 16, M 0 17, nI l, 0) < 9999 then acc + 1 else acc)
theorem x_right_L {X M : VT} {Y T hh : Nat} {K : Int32 → VT → Prop} (hL : LR X 16 (M 5) (fun i => M 0 (16 + i)) Y T) (hY : 0 < Y) (hs : sv1 Y (hm M)) (h5 : hh ≤ 5) (e2 : M 5 2 = nI hh) : ∀ (m l : Nat) (X' : VT) (acc : Int32), l + m = hh + 1 → XF X X' → (∀ X'', XF X X'' → K (rgv M T m l acc) X'') → wp_X7_righted_L43 K (m + 1) X' acc (nI l) := by
  intro m
  induction m with
  | zero =>
    intro l X' acc hl f h
    refine ⟨fun _ => h X' f, fun c => absurd ?_ c⟩
    rw [f 16 (by decide) (by decide) (by decide) (by decide), hL.2.2.2.1, e2]
    exact nI_lt (by omega) (by omega)
  | succ m ih =>
    intro l X' acc hl f h
    refine ⟨fun c => absurd c ?_, fun _ => ?_⟩
    · rw [f 16 (by decide) (by decide) (by decide) (by decide), hL.2.2.2.1, e2]
      exact nI_nlt (by omega) (by omega)
    · have h20 := hp20 hL
      simp only [hp, hm, Prod.mk.injEq] at h20
      rw [f 20 (by decide) (by decide) (by decide) (by decide), h20.1, h20.2.1]
      refine x_stand (fun X2 f2 g2 => ?_)
      have ep : (nI l).toInt = l := nI_toInt (by omega)
      have ss : sv1 Y (M 0 16, M 0 17, nI l, 0) := ⟨⟨rfl, hs.1.2.1, hs.1.2.2.1, by show -5 ≤ (nI l).toInt ∧ (nI l).toInt ≤ 5; omega⟩, hs.2⟩
      have f02 : XF X X2 := fun a u1 u2 u3 u4 => by rw [f2 a u4]; exact f a u1 u2 u3 u4
      refine x_can (hL.xf f02) hY g2 ss (fun X3 f3 => ?_)
      have f03 : XF X X3 := fun a u1 u2 u3 u4 => by rw [f3 a u1 u2 u3]; exact f02 a u1 u2 u3 u4
      unfold rgv at h
      unfold wp_X7_righted_b96
      rw [nI_1]
      by_cases hd : DD M T true 24 (M 0 16, M 0 17, nI l, 0) < 9999
      · rw [if_pos hd]
        rw [if_pos hd] at h
        exact ⟨fun c => absurd c (by decide), fun _ => ih (l + 1) X3 _ (by omega) f03 h⟩
      · rw [if_neg hd]
        rw [if_neg hd] at h
        exact ⟨fun _ => ih (l + 1) X3 _ (by omega) f03 h, fun c => absurd rfl c⟩
theorem m_right_L {M M' : VT} {Y T hh : Nat} {K : Int32 → VT → Prop} (hY : Y ≤ 24) (hs : sv Y (hm M)) (h5 : hh ≤ 5) (e2 : M 5 2 = nI hh) (g : Mq M M' (hm M)) (hA : ∀ p, p < 110 * Y → M' 9 p = nI (DD M T true 24 (st0 p))) : ∀ (m l : Nat) (acc : Int32), l + m = hh + 1 → K (rgv M T m l acc) M' → wp_X8_righted_L38 K (m + 1) M' acc (nI l) := by
  intro m
  induction m with
  | zero =>
    intro l acc hl h
    refine ⟨vin (by decide), fun _ => h, fun c => absurd ?_ c⟩
    rw [cn2, g.1 5 (by decide), e2]
    exact nI_lt (by omega) (by omega)
  | succ m ih =>
    intro l acc hl h
    refine ⟨vin (by decide), fun c => absurd c ?_, fun _ => ?_⟩
    · rw [cn2, g.1 5 (by decide), e2]
      exact nI_nlt (by omega) (by omega)
    · have hh := g.2.2.2
      simp only [hm, Prod.mk.injEq] at hh
      have ep : (nI l).toInt = l := nI_toInt (by omega)
      have ss : sv Y (M 0 16, M 0 17, nI l, 0) := ⟨rfl, hs.2.1, hs.2.2.1, by show -5 ≤ (nI l).toInt ∧ (nI l).toInt ≤ 5; omega⟩
      have pl0' := pl0 hY ss
      have pl : 110 * M 0 16 + 11 * M 0 17 + nI l + 5 = nI (rk0 (M 0 16, M 0 17, nI l, 0)) := pl0'
      have lt := rk0_lt ss
      unfold wp_X8_place
      rw [hh.1, hh.2.1, pl]
      show vp_in (nI (rk0 (M 0 16, M 0 17, nI l, 0))) 2640 ∧ _
      have b1 := DD_le M T true 24 (M 0 16, M 0 17, nI l, 0)
      unfold wp_X8_righted_b77
      rw [nI_c (by omega), hA _ lt, st0_rk hY ss, show (9999 : Int32) = nI 9999 from rfl, nI_leI (by decide) (by omega), nI_1, Int32.add_zero]
      unfold rgv at h
      refine ⟨vpn (by omega) (by decide), fun c => ?_, fun c => ?_⟩
      · rw [if_neg (by omega)] at h
        exact ih (l + 1) acc (by omega) h
      · rw [if_pos (by omega)] at h
        exact ih (l + 1) _ (by omega) h
theorem q_righted {X M : VT} (H : RR X M) : wp_X7_righted X (fun r X' => wp_X8_righted M (EQ r X')) := by
  obtain ⟨hs, Y, T, h0⟩ := id H
  obtain ⟨hL, isl⟩ := id h0.2.2.1
  unfold wp_X7_righted
  refine x_there hL.2.1.1 hL.1.1 ?_
  by_cases hY : 0 < Y
  · rw [if_pos hY]
    rw [if_pos hY] at isl
    obtain ⟨fv, hv⟩ := hL.2.2.2.2.2.2.2.2.2 hY
    have e20 : X 20 3 = M 0 19 := hL.2.2.2.2.2.2.2.2.1 3 (by decide)
    have eT : X 16 5 = M 5 1 := hL.2.2.1.1.trans hL.2.2.1.2.symm
    rw [e20, eT]
    refine ⟨fun _ => ⟨fun z => ?_, fun z => ⟨fun e0 => ?_, fun e0 => i_hd isl ⟨fun _ => ⟨rfl, H⟩, fun c => absurd c e0⟩⟩⟩, fun c => absurd c (by decide)⟩
    · by_cases e0 : M 0 19 = 0
      · exact i_hd isl ⟨fun c => absurd e0 c, fun _ => ⟨vin (by decide), fun c => absurd z c, fun _ => ⟨rfl, H⟩⟩⟩
      · exact i_hd isl ⟨fun _ => ⟨rfl, H⟩, fun c => absurd c e0⟩
    · have ss := HV_sv1 hv e0
      obtain ⟨hh, hh1, hh2, e2⟩ := FV_h fv
      refine ⟨hh + 2, x_right_L hL hY ss hh2 e2 (hh + 1) 0 X 0 (by omega) (fun _ _ _ _ _ => rfl) (fun X2 f2 => i_hd isl ⟨fun c => absurd e0 c, fun _ => ⟨vin (by decide), fun _ => ?_, fun c => absurd c z⟩⟩)⟩
      exact m_works (bt := true) hL.1.1 hY hL.1.2.1 hL.2.1.2 hL.2.2.1.2 fv (fun M2 g2 ms a2 => ⟨hh + 2, m_right_L hL.1.1 ss.1 hh2 e2 g2 a2 (hh + 1) 0 0 (by omega) ⟨rfl, H.cg f2.xs ms⟩⟩)
  · rw [if_neg hY]
    rw [if_neg hY] at isl
    exact ⟨fun c => absurd rfl c, fun _ => i_hd0 isl ⟨rfl, H⟩⟩
