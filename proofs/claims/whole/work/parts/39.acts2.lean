/-! moment, setUp, lay, undo -/
theorem LR.hoop {X X' : VT} {k : Nat} {f h h' : Nat → Int32} {Y T : Nat} (H : LR X k f h Y T) (h1 : X' (k + 1) = X (k + 1)) (h2 : X' (k + 2) = X (k + 2)) (h3 : X' (k + 3) = X (k + 3)) (hk : ∀ i, 4 ≤ i → i < 8 → X' k i = X k i) (h8 : X' k 8 = h' 4) (hh : ∀ i, i < 4 → X' (k + 4) i = h' i) (hv : 0 < Y → HV Y h') : LR X' k f h' Y T := by
  obtain ⟨a, ⟨b, b'⟩, ⟨c, c'⟩, d, e, g, i1, i2, i3, i4⟩ := H
  rw [LR, h1, h2, h3, hk 4 (by decide) (by decide), hk 5 (by decide) (by decide), hk 6 (by decide) (by decide), hk 7 (by decide) (by decide)]
  exact ⟨a, ⟨b, b'⟩, ⟨c, c'⟩, d, e, h8, i1, i2, hh, fun q => ⟨(i4 q).1, hv q⟩⟩
theorem R0.act {X X' M M' : VT} {Y T : Nat} (H : R0 X M Y T) (hx : ∀ a, a ∉ [5, 7, 8, 9, 16, 17, 20] → a < 52 → X' a = X a) (hm : ∀ a, a ∉ [0, 5, 8] → M' a = M a) (hm0 : ∀ b, (b < 16 ∨ 20 < b) → b ≠ 22 → M' 0 b = M 0 b) (hl : Rlane X' M' Y T) (ha : Ract X' M' Y) : R0 X' M' Y T := by
  obtain ⟨h1, h2, h3, h4, h5, h6, h7⟩ := H
  have big : ∀ a : Nat, 21 ≤ a → a < 52 → X' a = X a := fun a q1 q2 => hx a (by simp only [List.mem_cons, List.not_mem_nil, or_false]; omega) q2
  refine ⟨h1.cg (fun a _ _ => big a (by omega) (by omega)) (hm 1 (by decide)) (hm 2 (by decide)) (hm 3 (by decide)), h2.cg (congrFun (hx 3 (by decide) (by decide)) 1) (hx 4 (by decide) (by decide)) (hm0 8 (by decide) (by decide)) (hm 7 (by decide)), hl, ha, h5.cg (fun a _ _ => big a (by omega) (by omega)) (hm 11 (by decide)) (hm0 15 (by decide) (by decide)), h6.cg (congrFun (hx 13 (by decide) (by decide)) 1) (hx 14 (by decide) (by decide)) (hm0 32 (by decide) (by decide)) (hm 12 (by decide)), ?_⟩
  rw [hx 0 (by decide) (by decide), hm0 12 (by decide) (by decide)]
  exact h7
theorem HV_sv {M : VT} {Y : Nat} (hv : HV Y (fun i => M 0 (16 + i))) (e0 : M 0 19 = 0) : sv Y (hm M) := by
  obtain ⟨-, h2, -, -⟩ := hv
  obtain ⟨a, b, c, d, e, f⟩ := h2 e0
  exact ⟨e0, ⟨a, b⟩, ⟨Int.le_trans (by decide) c, d⟩, ⟨e, f⟩⟩
theorem nxt_cg {M M' : VT} {t : Int32} {s : H4} (h : M' 5 = M 5) : nxt M' t s = nxt M t s := by
  unfold nxt tk tf
  rw [h]
theorem isT_of {T : Nat} {t : Int32} (hT : T ≤ 5) (h1 : ¬ t < -1) (h2 : t ≤ nI T - 1) : isT T t := by
  by_cases c : t = -1
  · exact Or.inl c
  · have h0 : ¬ t < 0 := by
      rw [i_lt, tm1] at h1
      rw [i_eq, tm1] at c
      rw [i_lt, t0]
      omega
    obtain ⟨j, hj, e⟩ := nI_in_lt (by omega) h0 h2
    exact Or.inr ⟨j, hj, e⟩
theorem q_moment {X M : VT} (H : RR X M) (t : Int32) : wp_X7_moment X t (fun r X' => wp_X8_moment M t (EQ r X')) := by
  obtain ⟨hs, Y, T, h0⟩ := id H
  obtain ⟨hL, isl⟩ := id h0.2.2.1
  obtain ⟨⟨y1, y2, y3⟩, ⟨y4, y4'⟩, ⟨y5, y5'⟩, y6, y7, m8, y9, y10, hh, vv⟩ := id hL
  obtain ⟨nx, c, a1, a2, a3, a4, a5, a7, a6⟩ := id h0.2.2.2.1
  unfold wp_X7_moment
  refine x_there y4 y1 ?_
  by_cases hY : 0 < Y
  · rw [if_pos hY]
    rw [if_pos hY] at isl
    obtain ⟨fv, hv1, hv2, hv3, hv4⟩ := vv hY
    refine ⟨fun _ => ?_, fun c => absurd c (by decide)⟩
    rw [y5]
    rcases in_or t (-1) (nI T - 1) with ⟨b1, b2⟩ | hb
    · have ht := isT_of y2 b1 b2
      refine isOut_in b1 b2 ⟨fun _ => ?_, fun c => absurd rfl c⟩
      have mm : ∀ {K : Int32 → VT → Prop}, wp_X8_moment_b26 K M t → wp_X8_moment M t K := by
        intro K hK
        unfold wp_X8_moment
        rw [isl]
        refine ⟨fun _ => ⟨fun _ => hK, fun c => ?_⟩, fun c => absurd c (by decide)⟩
        rcases ht with rfl | ⟨j, hj, rfl⟩
        · exact absurd rfl c
        · obtain ⟨l1, l2⟩ := nI_in_lt' (j := j) (Y := T) (by omega) hj
          exact isTap_in l1 (by rw [y5']; exact l2) ⟨fun _ => hK, fun c => absurd c (by decide)⟩
      have e20 : X 20 3 = M 0 19 := hh 3 (by decide)
      have e8 : X 16 8 = M 0 20 := m8
      rw [e20, e8]
      have e999 : (999 : Int32).toInt = 999 := rfl
      refine ⟨fun e0 => ⟨fun el => ?_, fun el => ?_⟩, fun e0 => ?_⟩
      · have hs4 : sv Y (hm M) := HV_sv ⟨hv1, hv2, hv3, hv4⟩ e0
        rw [show (0 : Int32) = nI 0 from rfl]
        refine s_keep a3 a4 a2 a1 (by decide) (fun X1 k => ?_)
        obtain ⟨k1, k2, k3, k4, k5, k6, k7⟩ := id k
        have L1 : LR X1 16 (M 5) (fun i => M 0 (16 + i)) Y T := hL.cg (k1 16 (by decide) (by decide) (by decide) (by decide) (by omega)) (k1 17 (by decide) (by decide) (by decide) (by decide) (by omega)) (k1 18 (by decide) (by decide) (by decide) (by decide) (by omega)) (k1 19 (by decide) (by decide) (by decide) (by decide) (by omega)) (k1 20 (by decide) (by decide) (by decide) (by decide) (by omega)) rfl (fun _ _ => rfl)
        refine x_kindT L1 ht (x_forceT L1 ht ?_)
        refine x_pass L1 hY ht (by decide) hs4 ?_ (fun X2 f2 g2 X3 e3 => mm ?_)
        · have := L1.2.2.2.2.2.2.2.2.1
          simp only [hp, hm, Prod.mk.injEq]
          exact ⟨this 0 (by decide), this 1 (by decide), this 2 (by decide), this 3 (by decide)⟩
        · refine ⟨fun _ => ⟨fun _ => m_notes a1 a5 (fun M1 n => ?_), fun q => ?_⟩, fun q => absurd e0 q⟩
          · obtain ⟨n1, n2, n3, n4, n5, n6⟩ := id n
            have m15 : M1 5 = M 5 := n1 5 (by decide) (by decide)
            have mhm : hm M1 = hm M := by simp only [hm, n2 16 (by decide), n2 17 (by decide), n2 18 (by decide), n2 19 (by decide)]
            refine m_goesWith (Y := Y) (T := T) y1 y2 (by rw [m15]; exact y4') (by rw [m15]; exact fv) ht ?_ (fun M2 f g g20 => ?_)
            · rw [n2 16 (by decide), n2 17 (by decide), n2 18 (by decide)]
              exact ⟨⟨hs4.2.1.1, by have := hs4.2.1.2; simp only [hm] at this; omega⟩, hs4.2.2.1, hs4.2.2.2⟩
            · rw [mhm, nxt_cg m15] at g
              rw [n2 20 (by decide)] at g20
              have gr := nxt_rng (t := t) y1 y4' fv hs4
              have x3 : hp X3 20 = nxt M t (hm M) := by
                rw [← g2]; simp only [hp, e3, up2_ne (show (20 : Nat) ≠ 16 by decide)]
              have x38 : X3 16 8 = M 0 20 + 1 := by rw [e3, up2_self, f2 16 (by decide), k1 16 (by decide) (by decide) (by decide) (by decide) (by omega)]; exact congrArg (· + 1) m8
              have xo : ∀ a, a ≠ 16 → a ≠ 20 → X3 a = X1 a := fun a q1 q2 => by rw [e3, up2_ne q1, f2 a q2]
              have x16 : ∀ i, i ≠ 8 → X3 16 i = X 16 i := fun i q => by rw [e3, up2_selfn q, f2 16 (by decide), k1 16 (by decide) (by decide) (by decide) (by decide) (by omega)]
              have mo : ∀ a, a ≠ 0 → M2 a = M1 a := f.1
              have eqh : hp X3 20 = hm M2 := x3.trans g.symm
              simp only [hp, hm, Prod.mk.injEq] at eqh
              obtain ⟨q0, q1, q2, q3⟩ := eqh
              have gg : M2 0 16 = (nxt M t (hm M)).1 ∧ M2 0 17 = (nxt M t (hm M)).2.1 ∧ M2 0 18 = (nxt M t (hm M)).2.2.1 ∧ M2 0 19 = (nxt M t (hm M)).2.2.2 := by rw [← g]; exact ⟨rfl, rfl, rfl, rfl⟩
              refine ⟨q0, by rw [xo 0 (by decide) (by decide), k1 0 (by decide) (by decide) (by decide) (by decide) (by omega), f.2 4 (by decide), n2 4 (by decide)]; exact hs, Y, T, h0.act (fun a q1 q2 => ?_) (fun a q => ?_) (fun b q1 q2 => by rw [f.2 b q1, n2 b q2]) ⟨?_, ?_⟩ ?_⟩
              · simp only [List.mem_cons, List.not_mem_nil, or_false, not_or] at q1
                rw [xo a q1.2.2.2.2.1 q1.2.2.2.2.2.2, k1 a q1.1 q1.2.1 q1.2.2.1 q1.2.2.2.1 (by omega)]
              · simp only [List.mem_cons, List.not_mem_nil, or_false, not_or] at q
                rw [mo a q.1, n1 a q.1 q.2.2]
              · have e5 : M2 5 = M 5 := by rw [mo 5 (by decide), m15]
                rw [e5]
                refine hL.hoop (by rw [xo _ (by decide) (by decide)]; exact k1 17 (by decide) (by decide) (by decide) (by decide) (by omega)) (by rw [xo _ (by decide) (by decide)]; exact k1 18 (by decide) (by decide) (by decide) (by decide) (by omega)) (by rw [xo _ (by decide) (by decide)]; exact k1 19 (by decide) (by decide) (by decide) (by decide) (by omega)) (fun i _ hi => x16 i (by omega)) (by rw [x38]; exact g20.symm) (fun i hi => ?_) (fun _ => ⟨?_, fun z => ?_, ?_⟩)
                · rcases (show i = 0 ∨ i = 1 ∨ i = 2 ∨ i = 3 by omega) with rfl | rfl | rfl | rfl
                  · exact q0
                  · exact q1
                  · exact q2
                  · exact q3
                · show M2 0 19 = 0 ∨ M2 0 19 = 1 ∨ M2 0 19 = 2
                  rw [gg.2.2.2]; exact gr.1
                · have z' : M2 0 19 = 0 := z
                  rw [gg.2.2.2] at z'
                  have := gr.2.1 z'
                  have b0 := hs4.2.1.1
                  show 0 ≤ (M2 0 16).toInt ∧ (M2 0 16).toInt < Y ∧ 1 ≤ (M2 0 17).toInt ∧ (M2 0 17).toInt ≤ 9 ∧ -5 ≤ (M2 0 18).toInt ∧ (M2 0 18).toInt ≤ 5
                  rw [gg.1, gg.2.1, gg.2.2.1]
                  omega
                · show 0 ≤ (M2 0 20).toInt ∧ (M2 0 20).toInt ≤ 999 ∧ 0 ≤ (M2 0 16).toInt ∧ (M2 0 16).toInt ≤ 24
                  have hv3' : 0 ≤ (M 0 20).toInt := hv3
                  have b0 := hs4.2.1.1
                  have b16 : 0 ≤ (M2 0 16).toInt ∧ (M2 0 16).toInt ≤ 24 := by
                    rw [gg.1]
                    rcases gr.1 with z | z | z
                    · have := gr.2.1 z; omega
                    · have := gr.2.2.1 z; omega
                    · rw [gr.2.2.2 z, nI_toInt (by omega)]; omega
                  rw [i_lt, e999] at el
                  refine ⟨?_, ?_, b16⟩
                  · rw [g20, i_add (by rw [t1]; omega), t1]; omega
                  · rw [g20, i_add (by rw [t1]; omega), t1]; omega
              · rw [if_pos hY, f.2 15 (by decide), n2 15 (by decide)]; exact isl
              · exact Ract.keep hL a1 a2 a6 hY k n (xo 5 (by decide) (by decide)) (xo 7 (by decide) (by decide)) (xo 8 (by decide) (by decide)) (xo 9 (by decide) (by decide)) (fun a _ _ => xo a (by omega) (by omega)) (mo 8 (by decide)) (f.2 22 (by decide)) (fun i _ _ => by rw [mo 5 (by decide), m15])
          · rw [i_lt, e999] at el
            exact absurd (congrArg Int32.toInt q) (by rw [e999]; omega)
      · have : M 0 20 = 999 := by
          have hv4' : (M 0 20).toInt ≤ 999 := hv4.1
          rw [i_lt, e999] at el
          exact i_ext (by rw [e999]; omega)
        exact mm ⟨fun _ => ⟨fun q => absurd this q, fun _ => ⟨rfl, H⟩⟩, fun q => absurd e0 q⟩
      · exact mm ⟨fun q => absurd q e0, fun _ => ⟨rfl, H⟩⟩
    · refine isOut_out hb ⟨fun c => absurd c (by decide), fun _ => ?_⟩
      unfold wp_X8_moment
      rw [isl]
      have hg : t ≠ -1 ∧ (t < 0 ∨ ¬ t ≤ M 5 1 - 1) := by
        rw [y5']
        have := @i_sub (nI T) 1 (by rw [nI_toInt (by omega), t1]; omega)
        rw [nI_toInt (by omega), t1] at this
        rw [i_lt, tm1, i_le, this] at hb
        rw [Ne, i_eq, tm1, i_lt, t0, i_le, this]
        omega
      exact ⟨fun _ => ⟨fun c => absurd c hg.1, fun _ => isTap_out hg.2 ⟨fun c => absurd rfl c, fun _ => ⟨rfl, H⟩⟩⟩, fun c => absurd c (by decide)⟩
  · rw [if_neg hY]
    rw [if_neg hY] at isl
    refine ⟨fun c => absurd rfl c, fun _ => ?_⟩
    unfold wp_X8_moment
    rw [isl]
    exact ⟨fun c => absurd rfl c, fun _ => ⟨rfl, H⟩⟩
