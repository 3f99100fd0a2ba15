/-! seen -/
theorem FV_h {M : VT} {Y T : Nat} (fv : FV Y T (M 5)) : ∃ hh : Nat, 1 ≤ hh ∧ hh ≤ 5 ∧ M 5 2 = nI hh := by
  obtain ⟨z1, z2, -⟩ := fv
  refine ⟨(M 5 2).toInt.toNat, by omega, by omega, i_ext ?_⟩
  rw [nI_toInt (by omega)]; omega
theorem i_hd {A B : Prop} {x : Int32} (e : x = 1) (h : A) : (¬ x = 0 → A) ∧ (x = 0 → B) := ⟨fun _ => h, fun c => absurd (e.symm.trans c) (by decide)⟩
theorem i_hd0 {A B : Prop} {x : Int32} (e : x = 0) (h : B) : (¬ x = 0 → A) ∧ (x = 0 → B) := ⟨fun c => absurd e c, fun _ => h⟩
theorem q_seen {X M : VT} (H : RR X M) (a i n w : Int32) : wp_X7_seen X a i n w (fun r X' => wp_X8_seen M a i n w (EQ r X')) := by
  obtain ⟨hs, Y, T, h0⟩ := id H
  obtain ⟨hL, isl⟩ := id h0.2.2.1
  unfold wp_X7_seen
  refine x_there hL.2.1.1 hL.1.1 ?_
  by_cases hY : 0 < Y
  · rw [if_pos hY]
    rw [if_pos hY] at isl
    obtain ⟨fv, hv⟩ := hL.2.2.2.2.2.2.2.2.2 hY
    refine ⟨fun _ => ?_, fun c => absurd c (by decide)⟩
    have e20 : X 20 3 = M 0 19 := hL.2.2.2.2.2.2.2.2.1 3 (by decide)
    rcases in_or a 0 7 with ⟨p1, p2⟩ | hp'
    · refine isOut_in p1 p2 ⟨fun c => absurd rfl c, fun _ => ?_⟩
      rcases in_or n 1 8 with ⟨q1, q2⟩ | hq
      · refine isOut_in q1 q2 ⟨fun c => absurd rfl c, fun _ => ?_⟩
        rcases in_or w 0 1 with ⟨r1, r2⟩ | hr
        · refine isOut_in r1 r2 ⟨fun _ => ?_, fun c => absurd rfl c⟩
          obtain ⟨r, hr7, rfl⟩ := nI_in_of (n := 7) rfl p1 p2
          have cr : (nI r).toNatClampNeg = r := nI_c (by omega)
          rw [cr, e20]
          have head2 : ∀ {K : Int32 → VT → Prop}, ((M 0 19 = 0 → wp_X8_partOf M (nI r) i n (fun r13 V12 => (r13 ≤ 0 → wp_X8_asides V12 (fun V15 => (¬ w = 0 → vp_in (2 : Int32) 38 ∧ wp_X8_seen_b97 K V15 (nI r) i n w 0 (-(V15 5 ((2 : Int32)).toNatClampNeg))) ∧ (w = 0 → wp_X8_seen_b97 K V15 (nI r) i n w 0 1))) ∧ (¬ r13 ≤ 0 → wp_X8_finds V12 r13 (fun r19 V18 => K r19 V18)))) ∧ (¬ M 0 19 = 0 → K (-1000002) M)) → wp_X8_seen M (nI r) i n w K := by
            intro K hh
            exact i_hd isl (isRow_in p1 p2 ⟨fun c => absurd c (by decide), fun _ => in_in (lo := 1) (hi := 8) rfl rfl q1 q2 ⟨fun c => absurd c (by decide), fun _ => in_in (lo := 0) (hi := 1) rfl rfl r1 r2 ⟨fun _ => hh, fun c => absurd c (by decide)⟩⟩⟩)
          refine ⟨fun e0 => ?_, fun e0 => head2 ⟨fun c => absurd c e0, fun _ => ⟨rfl, H⟩⟩⟩
          have ss : sv Y (hm M) := HV_sv hv e0
          refine ⟨vpn (by omega) (by decide), x_find h0.1 (by omega) ⟨fun f => ?_, fun f => ?_⟩⟩
          · obtain ⟨i0, n0, s0, rfl, rfl, e3, e4, e5, e6⟩ := FA_0 h0.1 (by omega) f
            have n8 : 1 ≤ n0 ∧ n0 ≤ 8 := by
              rw [i_le, nI_toInt (by omega)] at q2
              rw [i_lt, nI_toInt (by omega), t1] at q1
              have : (8 : Int32).toInt = 8 := rfl
              omega
            have hts := row_ts (n := n0) h0.1 (by omega : r < 8) e6 (by omega : i0 + n0 ≤ 40)
            obtain ⟨hh, hh1, hh2, e2⟩ := FV_h fv
            intro X1 e1
            have hL1 : LR X1 16 (M 5) (fun i => M 0 (16 + i)) Y T := by rw [e1]; exact hL.st
            have hts1 : ∀ q, q < n0 → X1 (36 + 2 * r + 1) (i0 + q) = M 3 (40 * r + i0 + q) := fun q hq => by rw [e1, up2_ne (by omega)]; exact hts q hq
            have fin : ∀ (x : Int32) (X3 : VT), fr X1 X3 15 → ∀ M3 : VT, Ms M M3 → wp_X8_well M3 x (EQ x X3) := by
              intro x X3 f3 M3 ms
              intro V1 v1; subst v1
              have := H.st (u := 0)
              rw [← e1] at this
              exact ⟨rfl, this.cg (Xs_of f3) ms.up⟩
            refine ⟨fun hw => ⟨vpn (by omega) (by decide), ?_⟩, fun hw => ⟨vpn (by omega) (by decide), ?_⟩⟩
            · refine ⟨2 * hh + 2, ?_⟩
              rw [hL1.2.2.2.1, e2, show (0 : Int32) - nI hh = vL hh 0 from rfl]
              refine x_leansS_L (M := M) (ts := fun q => M 3 (40 * r + i0 + q)) hL1 hY (by omega) (by omega) hts1 ss hh2 e2 (2 * hh + 1) 0 X1 0 (by omega) fr_rf (fun X3 f3 => head2 ⟨fun _ => m_partOf h0.1 (by omega) ?_, fun c => absurd e0 c⟩)
              rw [f]
              refine ⟨fun _ => s_asidesM (fun M1 g gs => ⟨fun _ => ⟨vin (by decide), ?_⟩, fun c => absurd c hw⟩), fun c => absurd (by decide) c⟩
              rw [cn2, g.1 5 (by decide), e2, show -nI hh = vL hh 0 from (Int32.zero_sub _).symm]
              exact ⟨2 * hh + 2, m_leansS_L (ts := fun q => M 3 (40 * r + i0 + q)) hw hL.1.1 hL.2.1.2 fv (by omega) (by omega) (fun _ _ => rfl) ss hh2 e2 (2 * hh + 1) 0 M1 0 (by omega) g gs (fun M2 ms => fin _ X3 f3 M2 ms)⟩
            · subst hw
              refine ⟨10, ?_⟩
              refine x_pacesS_L (M := M) (ts := fun q => M 3 (40 * r + i0 + q)) hL1 hY (by omega) (by omega) hts1 ss 9 1 X1 0 (by omega) (by omega) fr_rf (fun X3 f3 => head2 ⟨fun _ => m_partOf h0.1 (by omega) ?_, fun c => absurd e0 c⟩)
              rw [f]
              refine ⟨fun _ => s_asidesM (fun M1 g gs => ⟨fun c => absurd rfl c, fun _ => ?_⟩), fun c => absurd (by decide) c⟩
              exact ⟨10, m_pacesS_L (ts := fun q => M 3 (40 * r + i0 + q)) hL.1.1 hL.2.1.2 fv (by omega) (by omega) (fun _ _ => rfl) ss 9 1 M1 0 (by omega) (by omega) g gs (fun M2 ms => fin _ X3 f3 M2 ms)⟩
          · refine q_found H _ (fun X1 hR => head2 ⟨fun _ => m_partOf h0.1 (by omega) ⟨fun c => ?_, fun _ M1 m1 => ?_⟩, fun c => absurd e0 c⟩)
            · rcases FA_or M r i n with z | z | z
              · exact absurd z f
              · rw [z] at c; exact absurd c (by decide)
              · rw [z] at c; exact absurd c (by decide)
            · subst m1; exact ⟨rfl, hR⟩
        · exact isOut_out hr ⟨fun c => absurd c (by decide), fun _ => i_hd isl (isRow_in p1 p2 ⟨fun c => absurd c (by decide), fun _ => in_in (lo := 1) (hi := 8) rfl rfl q1 q2 ⟨fun c => absurd c (by decide), fun _ => in_out (lo := 0) (hi := 1) rfl rfl hr ⟨fun c => absurd rfl c, fun _ => ⟨rfl, H⟩⟩⟩⟩)⟩
      · exact isOut_out hq ⟨fun _ => i_hd isl (isRow_in p1 p2 ⟨fun c => absurd c (by decide), fun _ => in_out (lo := 1) (hi := 8) rfl rfl hq ⟨fun _ => ⟨rfl, H⟩, fun c => absurd rfl c⟩⟩), fun c => absurd c (by decide)⟩
    · exact isOut_out hp' ⟨fun _ => i_hd isl (isRow_out hp' ⟨fun _ => ⟨rfl, H⟩, fun c => absurd rfl c⟩), fun c => absurd c (by decide)⟩
  · rw [if_neg hY]
    rw [if_neg hY] at isl
    refine ⟨fun c => absurd rfl c, fun _ => ?_⟩
    exact i_hd0 isl ⟨rfl, H⟩
