/-! who -/
def sW (M : VT) (force : Int32) (k : Nat) : H4 := nxK M (nI k) force (hm M)
theorem x_who_L {X M : VT} {Y T n i0 r tj : Nat} {ts : Nat → Int32} {K : Int32 → VT → Prop} (hL : LR X 16 (M 5) (fun i => M 0 (16 + i)) Y T) (hY : 0 < Y) (hj : tj < T) (hn : i0 + n ≤ 40) (hr : r < 8) (hts : ∀ q, q < n → X (36 + 2 * r + 1) (i0 + q) = ts q) (hs : sv Y (hm M)) : ∀ (m k : Nat) (X' : VT) (acc : Int32), k + m = 6 → 0 < k → fr X X' 15 →
    (∀ X'', fr X X'' 15 → K (fo (sF M ts n (sW M (tf M (nI tj))) nI) m k acc) X'') → wp_X7_who_L94 K (m + 1) X' (nI tj) (nI r) (nI i0) (nI n) acc (nI k) := by
  intro m
  induction m with
  | zero =>
    intro k X' acc hk k0 f h
    have : k = 6 := by omega
    subst this
    exact ⟨fun _ => h X' f, fun c => absurd (by decide) c⟩
  | succ m ih =>
    intro k X' acc hk k0 f h
    have nk : ¬ (5 : Int32) < nI k := by
      rw [show (5 : Int32) = nI 5 from rfl, nI_ltI (by decide) (by omega)]; omega
    refine ⟨fun c => absurd c nk, fun _ => s_be (by decide) (fun X2 f2 g2 => ?_)⟩
    have g02 := f.tr f2
    have h20 : hp X2 15 = hm M := by
      rw [hp_of g2, ← hp20 hL]
      simp only [hp, f 20 (by decide)]
    refine x_forceT (hL.sc g02 (by decide)) (Or.inr ⟨tj, hj, rfl⟩) ?_
    refine x_passK (hL.sc g02 (by decide)) (by decide) hs h20 (fun X3 f3 g3 => ⟨vpn (by omega) (by decide), ?_⟩)
    rw [nI_c (by omega)]
    refine ⟨n + 1, x_comes_L hL hY hn hr hts n 0 X3 (sW M (tf M (nI tj)) k) (by omega) (g02.tr f3) g3 (nxK_es hL.1.1 hL.2.1.2 (hL.2.2.2.2.2.2.2.2.2 hY).1 hs) (fun X4 f4 => ?_)⟩
    unfold wp_X7_who_b160
    rw [b2_0, nI_1]
    have := ih (k + 1) X4
    unfold fo sF at h
    refine ⟨fun c => ?_, fun c => ?_⟩
    · rw [if_neg c, Int32.or_zero] at h
      exact this acc (by omega) (by omega) f4 h
    · rw [if_pos (Classical.not_not.mp c)] at h
      exact this _ (by omega) (by omega) f4 h
theorem m_who_L {M : VT} {Y T n r i0 tj : Nat} {ts : Nat → Int32} {K : Int32 → VT → Prop} (hY : Y ≤ 24) (hT : T ≤ 5) (hj : tj < T) (h0 : M 5 0 = nI Y) (fv : FV Y T (M 5)) (hn : 40 * r + i0 + n ≤ 320) (n0 : 0 < n) (hts : ∀ q, q < n → M 3 (40 * r + i0 + q) = ts q) (hs : sv Y (hm M)) : ∀ (m k : Nat) (M' : VT) (acc : Int32), k + m = 6 → 0 < k → Mq M M' (hm M) → Ms M M' →
    (∀ M'', Ms M M'' → wp_X8_well M'' (fo (sF M ts n (sW M (tf M (nI tj))) nI) m k acc) K) → wp_X8_who_L73 K (m + 1) M' (nI tj) (nI r) (nI i0) (nI n) acc (nI k) := by
  intro m
  induction m with
  | zero =>
    intro k M' acc hk k0 g gs h
    have : k = 6 := by omega
    subst this
    exact ⟨fun _ => h M' gs, fun c => absurd (by decide) c⟩
  | succ m ih =>
    intro k M' acc hk k0 g gs h
    have nk : ¬ (6 : Int32) ≤ nI k := by
      rw [show (6 : Int32) = nI 6 from rfl, nI_leI (by decide) (by omega)]; omega
    refine ⟨fun c => absurd c nk, fun _ => m_forceAt (by omega) ?_⟩
    have et : M' 5 (29 + 2 * tj) = tf M (nI tj) := by rw [tf_nI (by omega), g.1 5 (by decide)]
    rw [et, show (40 : Int32) * nI r + nI i0 = nI (40 * r + i0) from nI_ix (c := 40)]
    have rg := tap_rng (t := nI tj) hT fv (Or.inr ⟨tj, hj, rfl⟩)
    refine m_isSeen (s := hm M) hY h0 fv (by rw [nI_toInt (by omega)]; omega) rg.2 hn n0 hts hs g (fun M2 s2 g2 => ?_)
    have e0 : nxK M (nI k) (tf M (nI tj)) (hm M) = sW M (tf M (nI tj)) k := rfl
    unfold wp_X8_who_b112
    rw [b2_0, nI_1, e0]
    have := ih (k + 1)
    unfold fo sF at h
    refine ⟨fun c => ?_, fun c => ?_⟩
    · rw [if_neg c] at h
      exact s_backs g2 (fun M3 _ p1 p2 _ ms => this M3 _ (by omega) (by omega) (Mq.back ms p1 p2) ms h)
    · rw [if_pos (Classical.not_not.mp c)] at h
      exact s_backs g2 (fun M3 _ p1 p2 _ ms => this M3 _ (by omega) (by omega) (Mq.back ms p1 p2) ms h)
theorem q_who {X M : VT} (H : RR X M) (t a i n : Int32) : wp_X7_who X t a i n (fun r X' => wp_X8_who M t a i n (EQ r X')) := by
  obtain ⟨hs, Y, T, h0⟩ := id H
  obtain ⟨hL, isl⟩ := id h0.2.2.1
  unfold wp_X7_who
  have y5 := hL.2.2.1.1
  have y5' := hL.2.2.1.2
  rw [y5]
  rcases in_or t 0 (nI T - 1) with ⟨t1, t2⟩ | ht
  · refine isOut_in t1 t2 ⟨fun c => absurd rfl c, fun _ => ?_⟩
    obtain ⟨tj, hj, rfl⟩ := nI_in_lt (by have := hL.1.2.1; omega) t1 t2
    have hY : 0 < Y := by
      rcases Nat.eq_zero_or_pos Y with z | z
      · have := hL.1.2.2 z; omega
      · exact z
    obtain ⟨fv, hv⟩ := hL.2.2.2.2.2.2.2.2.2 hY
    have e20 : X 20 3 = M 0 19 := hL.2.2.2.2.2.2.2.2.1 3 (by decide)
    have t2' : nI tj ≤ M 5 1 - 1 := by rw [y5']; exact t2
    rcases in_or a 0 7 with ⟨p1, p2⟩ | hp'
    · refine isOut_in p1 p2 ⟨fun c => absurd rfl c, fun _ => ?_⟩
      rcases in_or n 1 8 with ⟨q1, q2⟩ | hq
      · refine isOut_in q1 q2 ⟨fun _ => ?_, fun c => absurd rfl c⟩
        obtain ⟨r, hr7, rfl⟩ := nI_in_of (n := 7) rfl p1 p2
        have cr : (nI r).toNatClampNeg = r := nI_c (by omega)
        rw [cr, e20]
        have head2 : ∀ {K : Int32 → VT → Prop}, ((M 0 19 = 0 → wp_X8_partOf M (nI r) i n (fun r12 V11 => (r12 ≤ 0 → wp_X8_asides V11 (fun V14 => ∃ n73 : Nat, wp_X8_who_L73 K n73 V14 (nI tj) (nI r) i n 0 1)) ∧ (¬ r12 ≤ 0 → wp_X8_finds V11 r12 (fun r16 V15 => K r16 V15)))) ∧ (¬ M 0 19 = 0 → K (-1000002) M)) → wp_X8_who M (nI tj) (nI r) i n K := by
          intro K hh
          exact isTap_in t1 t2' ⟨fun c => absurd c (by decide), fun _ => isRow_in p1 p2 ⟨fun c => absurd c (by decide), fun _ => in_in (lo := 1) (hi := 8) rfl rfl q1 q2 ⟨fun _ => hh, fun c => absurd c (by decide)⟩⟩⟩
        refine ⟨fun e0 => ?_, fun e0 => head2 ⟨fun c => absurd c e0, fun _ => ⟨rfl, H⟩⟩⟩
        have ss : sv Y (hm M) := HV_sv hv e0
        refine ⟨vpn (by omega) (by decide), x_find h0.1 (by omega) ⟨fun f => ?_, fun f => ?_⟩⟩
        · obtain ⟨i0, n0, s0, rfl, rfl, e3, e4, e5, e6⟩ := FA_0 h0.1 (by omega) f
          have n8 : 1 ≤ n0 ∧ n0 ≤ 8 := by
            have z1 : (1 : Int32).toInt = 1 := rfl
            have z8 : (8 : Int32).toInt = 8 := rfl
            rw [i_le, nI_toInt (by omega)] at q2
            rw [i_lt, nI_toInt (by omega), z1] at q1
            omega
          have hts := row_ts (n := n0) h0.1 (by omega : r < 8) e6 (by omega : i0 + n0 ≤ 40)
          intro X1 e1
          have hL1 : LR X1 16 (M 5) (fun i => M 0 (16 + i)) Y T := by rw [e1]; exact hL.st
          have hts1 : ∀ q, q < n0 → X1 (36 + 2 * r + 1) (i0 + q) = M 3 (40 * r + i0 + q) := fun q hq => by rw [e1, up2_ne (by omega)]; exact hts q hq
          refine ⟨6, ?_⟩
          refine x_who_L (M := M) (ts := fun q => M 3 (40 * r + i0 + q)) hL1 hY hj (by omega) (by omega) hts1 ss 5 1 X1 0 (by omega) (by omega) fr_rf (fun X3 f3 => head2 ⟨fun _ => m_partOf h0.1 (by omega) ?_, fun c => absurd e0 c⟩)
          rw [f]
          refine ⟨fun _ => s_asidesM (fun M1 g gs => ⟨6, m_who_L (ts := fun q => M 3 (40 * r + i0 + q)) hL.1.1 hL.1.2.1 hj hL.2.1.2 fv (by omega) (by omega) (fun _ _ => rfl) ss 5 1 M1 0 (by omega) (by omega) g gs (fun M2 ms V1 v1 => ?_)⟩), fun c => absurd (by decide) c⟩
          subst v1
          have := H.st (u := 0)
          rw [← e1] at this
          exact ⟨rfl, this.cg (Xs_of f3) ms.up⟩
        · refine q_found H _ (fun X1 hR => head2 ⟨fun _ => m_partOf h0.1 (by omega) ⟨fun c => ?_, fun _ M1 m1 => ?_⟩, fun c => absurd e0 c⟩)
          · rcases FA_or M r i n with z | z | z
            · exact absurd z f
            · rw [z] at c; exact absurd c (by decide)
            · rw [z] at c; exact absurd c (by decide)
          · subst m1; exact ⟨rfl, hR⟩
      · exact isOut_out hq ⟨fun c => absurd c (by decide), fun _ => isTap_in t1 t2' ⟨fun c => absurd c (by decide), fun _ => isRow_in p1 p2 ⟨fun c => absurd c (by decide), fun _ => in_out (lo := 1) (hi := 8) rfl rfl hq ⟨fun c => absurd rfl c, fun _ => ⟨rfl, H⟩⟩⟩⟩⟩
    · exact isOut_out hp' ⟨fun _ => isTap_in t1 t2' ⟨fun c => absurd c (by decide), fun _ => isRow_out hp' ⟨fun _ => ⟨rfl, H⟩, fun c => absurd rfl c⟩⟩, fun c => absurd c (by decide)⟩
  · exact isOut_out ht ⟨fun _ => isTap_out (by rw [y5']; exact ht) ⟨fun _ => ⟨rfl, H⟩, fun c => absurd rfl c⟩, fun c => absurd c (by decide)⟩
