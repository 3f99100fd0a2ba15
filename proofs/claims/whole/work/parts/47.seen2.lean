/-! seen, who: the bits gathered -/
theorem s_asidesM {M : VT} {K : VT → Prop} (h : ∀ M', Mq M M' (hm M) → Ms M M' → K M') : wp_X8_asides M K := by
  intro V1 e1 V2 e2 V3 e3 V4 e4 V5 e5
  have lo : ∀ b, (b < 23 ∨ 27 < b) → V5 0 b = M 0 b := fun b hb => by rw [e5, up2_selfn (by omega), e4, up2_selfn (by omega), e3, up2_selfn (by omega), e2, up2_selfn (by omega), e1, up2_selfn (by omega)]
  have oth : ∀ a, a ≠ 0 → V5 a = M a := fun a ha => by rw [e5, up2_ne ha, e4, up2_ne ha, e3, up2_ne ha, e2, up2_ne ha, e1, up2_ne ha]
  refine (s_asides (K := fun M' => M' = V5 → K M') (fun M' o g e => h M' g ?_)) V1 e1 V2 e2 V3 e3 V4 e4 V5 e5 rfl
  subst e
  refine ⟨fun a ha => ?_, fun b hb => ?_⟩
  · simp only [List.mem_cons, List.not_mem_nil, or_false, not_or] at ha
    exact oth a ha.1
  · simp only [List.mem_cons, List.not_mem_nil, or_false] at hb
    exact lo b (by omega)
theorem Mq.back {M M' : VT} (m : Ms M M') (h1 : ∀ i, i < 5 → M' 0 (23 + i) = M 0 (16 + i)) (h2 : hm M' = hm M) : Mq M M' (hm M) := by
  refine ⟨m.1, fun b hb => m.2 b ?_, h1, h2⟩
  simp only [List.mem_cons, List.not_mem_nil, or_false] at hb ⊢
  omega
theorem Mq.p17 {M M' : VT} {s : H4} {v : Int32} (g : Mq M M' s) : Mq M (up2 M' 0 17 v) (s.1, v, s.2.2.1, s.2.2.2) := by
  refine g.goes (frM_up (by decide)) ?_
  rw [← g.2.2.2]
  simp only [hm, up2_self, up2_selfn (show (16 : Nat) ≠ 17 by decide), up2_selfn (show (18 : Nat) ≠ 17 by decide), up2_selfn (show (19 : Nat) ≠ 17 by decide)]
theorem Mq.p18 {M M' : VT} {s : H4} {v : Int32} (g : Mq M M' s) : Mq M (up2 M' 0 18 v) (s.1, s.2.1, v, s.2.2.2) := by
  refine g.goes (frM_up (by decide)) ?_
  rw [← g.2.2.2]
  simp only [hm, up2_self, up2_selfn (show (16 : Nat) ≠ 18 by decide), up2_selfn (show (17 : Nat) ≠ 18 by decide), up2_selfn (show (19 : Nat) ≠ 18 by decide)]
def sF (M : VT) (ts : Nat → Int32) (n : Nat) (sts : Nat → H4) (sh : Nat → Int32) (k : Nat) : Int32 := if cb M ts n 0 (sts k) = true then (1 : Int32) <<< (sh k &&& 31) else 0
def sP (M : VT) (k : Nat) : H4 := nxt M (-1) (M 0 16, nI k, M 0 18, 0)
def vL (h k : Nat) : Int32 := nI k - nI h
def sL (M : VT) (h k : Nat) : H4 := nxt M (-1) (M 0 16, M 0 17, vL h k, 0)
theorem vL_i {h k : Nat} (h1 : h ≤ 1000) (h2 : k ≤ 1000) : (vL h k).toInt = (k : Int) - h := pk_sub_toInt (by omega) (by omega)
theorem vL_s {h k : Nat} (h1 : h ≤ 1000) (h2 : k < 1000) : vL h k + 1 = vL h (k + 1) := by
  refine i_ext ?_
  have e1 := vL_i (h := h) (k := k) h1 (by omega)
  rw [i_add (by rw [e1, t1]; omega), e1, t1, vL_i h1 (by omega)]
  omega
theorem b2_0 {b : Bool} : b2 b = 0 ↔ ¬ b = true := by
  cases b
  · exact ⟨fun _ => by decide, fun _ => rfl⟩
  · exact ⟨fun c => absurd c (by decide), fun c => absurd rfl c⟩
theorem x_pacesS_L {X M : VT} {Y T n i0 r : Nat} {ts : Nat → Int32} {K : Int32 → VT → Prop} (hL : LR X 16 (M 5) (fun i => M 0 (16 + i)) Y T) (hY : 0 < Y) (hn : i0 + n ≤ 40) (hr : r < 8) (hts : ∀ q, q < n → X (36 + 2 * r + 1) (i0 + q) = ts q) (hs : sv Y (hm M)) : ∀ (m k : Nat) (X' : VT) (acc : Int32), k + m = 10 → 0 < k → fr X X' 15 →
    (∀ X'', fr X X'' 15 → K (fo (sF M ts n (sP M) nI) m k acc) X'') → wp_X7_pacesSeen_L6 K (m + 1) X' (36 + 2 * r) (nI i0) (nI n) acc (nI k) := by
  intro m
  induction m with
  | zero =>
    intro k X' acc hk k0 f h
    have : k = 10 := by omega
    subst this
    exact ⟨fun _ => h X' f, fun c => absurd (by decide) c⟩
  | succ m ih =>
    intro k X' acc hk k0 f h
    have nk : ¬ (9 : Int32) < nI k := by
      rw [show (9 : Int32) = nI 9 from rfl, nI_ltI (by decide) (by omega)]; omega
    refine ⟨fun c => absurd c nk, fun _ => ?_⟩
    have h20 := hp20 hL
    simp only [hp, hm, Prod.mk.injEq] at h20
    rw [f 20 (by decide), h20.1, h20.2.2.1]
    refine x_stand (fun X2 f2 g2 => ?_)
    have ss : sv Y (M 0 16, nI k, M 0 18, 0) := ⟨rfl, hs.2.1, by show 0 ≤ (nI k).toInt ∧ (nI k).toInt ≤ 9; rw [nI_toInt (by omega)]; omega, hs.2.2.2⟩
    have g02 := f.tr f2
    refine x_pass (t := -1) (hL.sc g02 (by decide)) hY (Or.inl rfl) (by decide) ss g2 (fun X3 f3 g3 => ⟨n + 1, x_comes_L hL hY hn hr hts n 0 X3 (sP M k) (by omega) (g02.tr f3) g3 (es_nxt hL.1.1 hL.2.1.2 (hL.2.2.2.2.2.2.2.2.2 hY).1 ss) (fun X4 f4 => ?_)⟩)
    unfold wp_X7_pacesSeen_b74
    rw [b2_0, nI_1]
    have := ih (k + 1) X4
    unfold fo sF at h
    refine ⟨fun c => ?_, fun c => ?_⟩
    · rw [if_neg c, Int32.or_zero] at h
      exact this acc (by omega) (by omega) f4 h
    · rw [if_pos (Classical.not_not.mp c)] at h
      exact this _ (by omega) (by omega) f4 h
theorem x_leansS_L {X M : VT} {Y T n i0 r hh : Nat} {ts : Nat → Int32} {K : Int32 → VT → Prop} (hL : LR X 16 (M 5) (fun i => M 0 (16 + i)) Y T) (hY : 0 < Y) (hn : i0 + n ≤ 40) (hr : r < 8) (hts : ∀ q, q < n → X (36 + 2 * r + 1) (i0 + q) = ts q) (hs : sv Y (hm M)) (h5 : hh ≤ 5) (e2 : M 5 2 = nI hh) : ∀ (m k : Nat) (X' : VT) (acc : Int32), k + m = 2 * hh + 1 → fr X X' 15 →
    (∀ X'', fr X X'' 15 → K (fo (sF M ts n (sL M hh) (fun k => vL hh k + 5)) m k acc) X'') → wp_X7_leansSeen_L14 K (m + 1) X' (36 + 2 * r) (nI i0) (nI n) acc (vL hh k) := by
  intro m
  induction m with
  | zero =>
    intro k X' acc hk f h
    refine ⟨fun _ => h X' f, fun c => absurd ?_ c⟩
    rw [f 16 (by decide), hL.2.2.2.1, e2, i_lt, vL_i (by omega) (by omega), nI_toInt (by omega)]
    omega
  | succ m ih =>
    intro k X' acc hk f h
    have ev := vL_i (h := hh) (k := k) (by omega) (by omega)
    have nk : ¬ X' 16 6 < vL hh k := by
      rw [f 16 (by decide), hL.2.2.2.1, e2, i_lt, ev, nI_toInt (by omega)]; omega
    refine ⟨fun c => absurd c nk, fun _ => ?_⟩
    have h20 := hp20 hL
    simp only [hp, hm, Prod.mk.injEq] at h20
    rw [f 20 (by decide), h20.1, h20.2.1]
    refine x_stand (fun X2 f2 g2 => ?_)
    have ss : sv Y (M 0 16, M 0 17, vL hh k, 0) := ⟨rfl, hs.2.1, hs.2.2.1, by show -5 ≤ (vL hh k).toInt ∧ (vL hh k).toInt ≤ 5; rw [ev]; omega⟩
    have g02 := f.tr f2
    refine x_pass (t := -1) (hL.sc g02 (by decide)) hY (Or.inl rfl) (by decide) ss g2 (fun X3 f3 g3 => ⟨n + 1, x_comes_L hL hY hn hr hts n 0 X3 (sL M hh k) (by omega) (g02.tr f3) g3 (es_nxt hL.1.1 hL.2.1.2 (hL.2.2.2.2.2.2.2.2.2 hY).1 ss) (fun X4 f4 => ?_)⟩)
    unfold wp_X7_leansSeen_b89
    rw [b2_0, vL_s (by omega) (by omega)]
    have := ih (k + 1) X4
    unfold fo sF at h
    refine ⟨fun c => ?_, fun c => ?_⟩
    · rw [if_neg c, Int32.or_zero] at h
      exact this acc (by omega) f4 h
    · rw [if_pos (Classical.not_not.mp c)] at h
      exact this _ (by omega) f4 h
theorem m_pacesS_L {M : VT} {Y T n r i0 : Nat} {ts : Nat → Int32} {K : Int32 → VT → Prop} (hY : Y ≤ 24) (h0 : M 5 0 = nI Y) (fv : FV Y T (M 5)) (hn : 40 * r + i0 + n ≤ 320) (n0 : 0 < n) (hts : ∀ q, q < n → M 3 (40 * r + i0 + q) = ts q) (hs : sv Y (hm M)) : ∀ (m k : Nat) (M' : VT) (acc : Int32), k + m = 10 → 0 < k → Mq M M' (hm M) → Ms M M' →
    (∀ M'', Ms M M'' → wp_X8_well M'' (fo (sF M ts n (sP M) nI) m k acc) K) → wp_X8_seen_L99 K (m + 1) M' (nI r) (nI i0) (nI n) 0 acc (nI k) := by
  intro m
  induction m with
  | zero =>
    intro k M' acc hk k0 g gs h
    have : k = 10 := by omega
    subst this
    exact ⟨fun c => absurd rfl c, fun _ => ⟨fun _ => h M' gs, fun c => absurd (by decide) c⟩⟩
  | succ m ih =>
    intro k M' acc hk k0 g gs h
    have nk : ¬ (9 : Int32) < nI k := by
      rw [show (9 : Int32) = nI 9 from rfl, nI_ltI (by decide) (by omega)]; omega
    refine ⟨fun c => absurd rfl c, fun _ => ⟨fun c => absurd c nk, fun _ => ⟨fun c => absurd rfl c, fun _ => ?_⟩⟩⟩
    intro V26 e26
    refine ⟨fun c => absurd rfl c, fun _ => ?_⟩
    intro V28 e28
    have ss : sv Y (M 0 16, nI k, M 0 18, 0) := ⟨rfl, hs.2.1, by show 0 ≤ (nI k).toInt ∧ (nI k).toInt ≤ 9; rw [nI_toInt (by omega)]; omega, hs.2.2.2⟩
    have g26 := g.p17 (v := nI k)
    rw [← e26] at g26
    have g28 := g26.p18 (v := V26 0 18)
    rw [← e28] at g28
    have q18 : V26 0 18 = M 0 18 := by
      have := g26.2.2.2
      simp only [hm, Prod.mk.injEq] at this
      exact this.2.2.1
    have q19 : M 0 19 = 0 := hs.1
    rw [q18] at g28
    simp only [hm, q19] at g28
    rw [show (40 : Int32) * nI r + nI i0 = nI (40 * r + i0) from nI_ix (c := 40)]
    have e0 : nxK M 0 0 (M 0 16, nI k, M 0 18, 0) = sP M k := nxK_0 _ _ _
    refine m_isSeen (s := (M 0 16, nI k, M 0 18, 0)) hY h0 fv ⟨by decide, by decide⟩ ⟨by decide, by decide⟩ hn n0 hts ss g28 (fun M2 s2 g2 => ?_)
    unfold wp_X8_seen_b187 wp_X8_seen_b193
    rw [b2_0, e0, nI_1, Int32.add_zero]
    have := ih (k + 1)
    unfold fo sF at h
    refine ⟨fun c => ?_, fun c => ⟨fun d => absurd rfl d, fun _ => ?_⟩⟩
    · rw [if_neg c] at h
      exact s_backs g2 (fun M3 _ p1 p2 _ ms => this M3 _ (by omega) (by omega) (Mq.back ms p1 p2) ms h)
    · rw [if_pos (Classical.not_not.mp c)] at h
      exact s_backs g2 (fun M3 _ p1 p2 _ ms => this M3 _ (by omega) (by omega) (Mq.back ms p1 p2) ms h)
theorem m_leansS_L {M : VT} {Y T n r i0 hh : Nat} {w : Int32} {ts : Nat → Int32} {K : Int32 → VT → Prop} (hw : ¬ w = 0) (hY : Y ≤ 24) (h0 : M 5 0 = nI Y) (fv : FV Y T (M 5)) (hn : 40 * r + i0 + n ≤ 320) (n0 : 0 < n) (hts : ∀ q, q < n → M 3 (40 * r + i0 + q) = ts q) (hs : sv Y (hm M)) (h5 : hh ≤ 5) (e2 : M 5 2 = nI hh) : ∀ (m k : Nat) (M' : VT) (acc : Int32), k + m = 2 * hh + 1 → Mq M M' (hm M) → Ms M M' →
    (∀ M'', Ms M M'' → wp_X8_well M'' (fo (sF M ts n (sL M hh) (fun k => vL hh k + 5)) m k acc) K) → wp_X8_seen_L99 K (m + 1) M' (nI r) (nI i0) (nI n) w acc (vL hh k) := by
  intro m
  induction m with
  | zero =>
    intro k M' acc hk g gs h
    refine ⟨fun _ => ⟨vin (by decide), fun _ => h M' gs, fun c => absurd ?_ c⟩, fun c => absurd c hw⟩
    rw [cn2, g.1 5 (by decide), e2, i_lt, vL_i (by omega) (by omega), nI_toInt (by omega)]
    omega
  | succ m ih =>
    intro k M' acc hk g gs h
    have ev := vL_i (h := hh) (k := k) (by omega) (by omega)
    have nk : ¬ M' 5 ((2 : Int32)).toNatClampNeg < vL hh k := by
      rw [cn2, g.1 5 (by decide), e2, i_lt, ev, nI_toInt (by omega)]; omega
    refine ⟨fun _ => ⟨vin (by decide), fun c => absurd c nk, fun _ => ⟨fun _ => ?_, fun c => absurd c hw⟩⟩, fun c => absurd c hw⟩
    intro V26 e26
    refine ⟨fun _ => ?_, fun c => absurd c hw⟩
    intro V28 e28
    have ss : sv Y (M 0 16, M 0 17, vL hh k, 0) := ⟨rfl, hs.2.1, hs.2.2.1, by show -5 ≤ (vL hh k).toInt ∧ (vL hh k).toInt ≤ 5; rw [ev]; omega⟩
    have q17 : M' 0 17 = M 0 17 := by
      have := g.2.2.2
      simp only [hm, Prod.mk.injEq] at this
      exact this.2.1
    have g26 := g.p17 (v := M' 0 17)
    rw [← e26] at g26
    have g28 := g26.p18 (v := vL hh k)
    rw [← e28] at g28
    have q19 : M 0 19 = 0 := hs.1
    rw [q17] at g28
    simp only [hm, q19] at g28
    rw [show (40 : Int32) * nI r + nI i0 = nI (40 * r + i0) from nI_ix (c := 40)]
    have e0 : nxK M 0 0 (M 0 16, M 0 17, vL hh k, 0) = sL M hh k := nxK_0 _ _ _
    refine m_isSeen (s := (M 0 16, M 0 17, vL hh k, 0)) hY h0 fv ⟨by decide, by decide⟩ ⟨by decide, by decide⟩ hn n0 hts ss g28 (fun M2 s2 g2 => ?_)
    unfold wp_X8_seen_b187 wp_X8_seen_b193
    rw [b2_0, e0, vL_s (by omega) (by omega)]
    have := ih (k + 1)
    unfold fo sF at h
    refine ⟨fun c => ?_, fun c => ⟨fun _ => ?_, fun d => absurd d hw⟩⟩
    · rw [if_neg c] at h
      exact s_backs g2 (fun M3 _ p1 p2 _ ms => this M3 _ (by omega) (Mq.back ms p1 p2) ms h)
    · rw [if_pos (Classical.not_not.mp c)] at h
      exact s_backs g2 (fun M3 _ p1 p2 _ ms => this M3 _ (by omega) (Mq.back ms p1 p2) ms h)
