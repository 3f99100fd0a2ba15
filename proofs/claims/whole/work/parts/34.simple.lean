abbrev EQ (r : Int32) (X' : VT) : Int32 → VT → Prop := fun r' M' => r = r' ∧ RR X' M'
/-! the plain calls -/
theorem q_fault {X M : VT} (H : RR X M) : wp_X7_fault X (fun r X' => wp_X8_fault M (EQ r X')) := by
  obtain ⟨hs, Y, T, h0⟩ := id H
  exact ⟨h0.2.2.2.2.2.2, H⟩
theorem q_status {X M : VT} (H : RR X M) : wp_X7_status X (fun r X' => wp_X8_status M (EQ r X')) := ⟨H.1, H⟩
theorem x_there {X : VT} {k Y : Nat} {K : Int32 → VT → Prop} (hY : X k 4 = nI Y) (hb : Y ≤ 24) (h : K (if 0 < Y then 1 else 0) X) : wp_X3_isThere X k K := by
  unfold wp_X3_isThere
  rw [hY]
  refine ⟨fun c => ?_, fun c => ?_⟩
  · rw [i_le, nI_toInt (by omega), t0] at c
    rw [if_neg (by omega)] at h; exact h
  · rw [i_le, nI_toInt (by omega), t0] at c
    rw [if_pos (by omega)] at h; exact h
theorem nI_m1 {Y : Nat} (h : 0 < Y) : nI Y - 1 = nI (Y - 1) := pk_sub (a := Y) (b := 1) h
theorem nI_in_lt {a : Int32} {Y : Nat} (hY : Y ≤ 2000000) (h1 : ¬ a < 0) (h2 : a ≤ nI Y - 1) : ∃ j : Nat, j < Y ∧ a = nI j := by
  obtain ⟨j, hj, rfl⟩ := nI_of h1
  rw [i_le, i_sub (by rw [nI_toInt (by omega), t1]; omega), nI_toInt (by omega), nI_toInt (by omega), t1] at h2
  exact ⟨j, by omega, rfl⟩
theorem nI_in_lt' {j Y : Nat} (hY : Y ≤ 2000000) (h : j < Y) : ¬ nI j < 0 ∧ nI j ≤ nI Y - 1 := by
  rw [i_lt, i_le, i_sub (by rw [nI_toInt (by omega), t1]; omega), nI_toInt (by omega), nI_toInt (by omega), t0, t1]
  omega
theorem isTap_in {M : VT} {t : Int32} {K : Int32 → VT → Prop} (h1 : ¬ t < 0) (h2 : t ≤ M 5 1 - 1) (h : K 1 M) : wp_X8_isTap M t K := ⟨vin (by decide), in_in (lo := 0) (hi := M 5 1 - 1) rfl rfl h1 h2 ⟨Or.inr rfl, h⟩⟩
theorem isTap_out {M : VT} {t : Int32} {K : Int32 → VT → Prop} (h1 : t < 0 ∨ ¬ t ≤ M 5 1 - 1) (h : K 0 M) : wp_X8_isTap M t K := ⟨vin (by decide), in_out (lo := 0) (hi := M 5 1 - 1) rfl rfl h1 ⟨Or.inl rfl, h⟩⟩
theorem x_kindAt {X : VT} {k j T : Nat} {K : Int32 → VT → Prop} (hT : X k 5 = nI T) (h5 : T ≤ 5) (hj : j < T) (h : K (X (k + 2) j) X) : wp_X3_kindAt X k (nI j) K := by
  obtain ⟨a, b⟩ := nI_in_lt' (by omega : T ≤ 2000000) hj
  refine isOut_in a (by rw [hT]; exact b) ⟨fun _ => ⟨vpn (by omega) (by decide), by rw [nI_c (by omega)]; exact h⟩, fun c => absurd rfl c⟩
theorem x_forceAt {X : VT} {k j T : Nat} {K : Int32 → VT → Prop} (hT : X k 5 = nI T) (h5 : T ≤ 5) (hj : j < T) (h : K (X (k + 3) j) X) : wp_X3_forceAt X k (nI j) K := by
  obtain ⟨a, b⟩ := nI_in_lt' (by omega : T ≤ 2000000) hj
  refine isOut_in a (by rw [hT]; exact b) ⟨fun _ => ⟨vpn (by omega) (by decide), by rw [nI_c (by omega)]; exact h⟩, fun c => absurd rfl c⟩
theorem x_kindNo {X : VT} {k : Nat} {t : Int32} {K : Int32 → VT → Prop} (h1 : t < 0 ∨ ¬ t ≤ X k 5 - 1) (h : K 0 X) : wp_X3_kindAt X k t K := isOut_out h1 ⟨fun c => absurd c (by decide), fun _ => h⟩
theorem x_forceNo {X : VT} {k : Nat} {t : Int32} {K : Int32 → VT → Prop} (h1 : t < 0 ∨ ¬ t ≤ X k 5 - 1) (h : K 0 X) : wp_X3_forceAt X k t K := isOut_out h1 ⟨fun c => absurd c (by decide), fun _ => h⟩
theorem ix28 (j : Nat) : (28 : Int32) + 2 * nI j = nI (28 + 2 * j) := by
  rw [show (2 : Int32) = nI 2 from rfl, show (28 : Int32) = nI 28 from rfl, pk_mul, nI_add]
theorem m_kindAt {M : VT} {j : Nat} {K : Int32 → VT → Prop} (hj : j < 5) (h : K (M 5 (28 + 2 * j)) M) : wp_X8_kindAt M (nI j) K := by
  unfold wp_X8_kindAt
  rw [ix28]
  exact ⟨vpn (by omega) (by decide), by rw [nI_c (by omega)]; exact h⟩
theorem m_forceAt {M : VT} {j : Nat} {K : Int32 → VT → Prop} (hj : j < 5) (h : K (M 5 (29 + 2 * j)) M) : wp_X8_forceAt M (nI j) K := by
  unfold wp_X8_forceAt
  rw [ix28, nI_1]
  exact ⟨vpn (by omega) (by decide), by rw [nI_c (by omega), show 28 + 2 * j + 1 = 29 + 2 * j by omega]; exact h⟩
theorem m_hoopOf {M : VT} {w : Int32} {K : Int32 → VT → Prop} (h : K (if w = 0 then M 0 16 else if w = 1 then M 0 17 else if w = 2 then M 0 18 else if w = 3 then M 0 19 else M 0 20) M) : wp_X8_hoopOf M w K := by
  unfold wp_X8_hoopOf
  refine ⟨fun a => ⟨fun b => ⟨fun c => ⟨fun d => ?_, fun d => ?_⟩, fun c => ?_⟩, fun b => ?_⟩, fun a => ?_⟩
  · rw [if_neg a, if_neg b, if_neg c, if_neg d] at h; exact h
  · rw [if_neg a, if_neg b, if_neg c, if_pos d] at h; exact h
  · rw [if_neg a, if_neg b, if_pos c] at h; exact h
  · rw [if_neg a, if_pos b] at h; exact h
  · rw [if_pos a] at h; exact h
theorem x_tell {X : VT} {k : Nat} {w : Int32} {K : Int32 → VT → Prop} (h : K (if w = 0 then X k 0 else if w = 1 then X k 1 else if w = 2 then X k 2 else X k 3) X) : wp_X2_tell X k w K := by
  unfold wp_X2_tell
  refine ⟨fun a => ?_, fun b => ?_, fun c => ?_, fun a b c => ?_⟩
  · subst a; exact h
  · subst b; exact h
  · subst c; exact h
  · rw [if_neg a, if_neg b, if_neg c] at h; exact h
theorem q_hoop {X M : VT} (H : RR X M) (a : Int32) : wp_X7_hoop X a (fun r X' => wp_X8_hoop M a (EQ r X')) := by
  obtain ⟨hs, Y, T, h0⟩ := id H
  obtain ⟨⟨⟨y1, y2, y3⟩, ⟨y4, y5⟩, -, -, -, m8, -, -, hh, -⟩, isl⟩ := h0.2.2.1
  unfold wp_X7_hoop wp_X8_hoop
  refine x_there y4 y1 ?_
  rw [isl]
  by_cases hY : 0 < Y
  · rw [if_pos hY]
    refine ⟨fun _ => ?_, fun c => absurd c (by decide)⟩
    rcases in_or a 0 4 with ⟨a1, a2⟩ | ha
    · refine isOut_in a1 a2 ⟨fun _ => ⟨fun c => ?_, fun c => ?_⟩, fun c => absurd rfl c⟩
      · refine x_tell ⟨fun _ => in_in (lo := 0) (hi := 4) rfl rfl a1 a2 ⟨fun c => absurd c (by decide), fun _ => m_hoopOf ⟨?_, H⟩⟩, fun c => absurd c (by decide)⟩
        obtain ⟨j, hj, rfl⟩ := nI_in_of (n := 4) rfl a1 a2
        rcases (show j = 0 ∨ j = 1 ∨ j = 2 ∨ j = 3 ∨ j = 4 by omega) with rfl | rfl | rfl | rfl | rfl
        · exact hh 0 (by decide)
        · exact hh 1 (by decide)
        · exact hh 2 (by decide)
        · exact hh 3 (by decide)
        · exact absurd rfl c
      · subst c
        exact ⟨fun _ => in_in (lo := 0) (hi := 4) rfl rfl a1 a2 ⟨fun c => absurd c (by decide), fun _ => m_hoopOf ⟨m8, H⟩⟩, fun c => absurd c (by decide)⟩
    · exact isOut_out ha ⟨fun c => absurd c (by decide), fun _ => ⟨fun _ => in_out (lo := 0) (hi := 4) rfl rfl ha ⟨fun _ => ⟨rfl, H⟩, fun c => absurd rfl c⟩, fun c => absurd c (by decide)⟩⟩
  · rw [if_neg hY]
    exact ⟨fun c => absurd rfl c, fun _ => ⟨fun c => absurd rfl c, fun _ => ⟨rfl, H⟩⟩⟩
theorem q_ground {X M : VT} (H : RR X M) (a : Int32) : wp_X7_ground X a (fun r X' => wp_X8_ground M a (EQ r X')) := by
  obtain ⟨hs, Y, T, h0⟩ := id H
  obtain ⟨⟨⟨y1, y2, y3⟩, ⟨y4, y5⟩, -, -, -, m8, gg, -, hh, -⟩, isl⟩ := h0.2.2.1
  unfold wp_X7_ground wp_X8_ground
  rw [y4, cn0, y5]
  rcases in_or a 0 (nI Y - 1) with ⟨a1, a2⟩ | ha
  · refine isOut_in a1 a2 ?_
    obtain ⟨j, hj, rfl⟩ := nI_in_lt (by omega) a1 a2
    refine ⟨fun _ => ⟨vpn (by omega) (by decide), vin (by decide), in_in (lo := 0) (hi := nI Y - 1) rfl rfl a1 a2 ⟨fun c => absurd c (by decide), fun _ => ?_⟩⟩, fun c => absurd rfl c⟩
    rw [show (4 : Int32) = nI 4 from rfl, nI_add]
    refine ⟨vpn (by omega) (by decide), ?_, H⟩
    rw [nI_c (by omega), nI_c (by omega)]
    exact gg j hj
  · exact isOut_out ha ⟨fun c => absurd c (by decide), fun _ => ⟨vin (by decide), in_out (lo := 0) (hi := nI Y - 1) rfl rfl ha ⟨fun _ => ⟨rfl, H⟩, fun c => absurd rfl c⟩⟩⟩
theorem q_force {X M : VT} (H : RR X M) (a : Int32) : wp_X7_force X a (fun r X' => wp_X8_force M a (EQ r X')) := by
  obtain ⟨hs, Y, T, h0⟩ := id H
  obtain ⟨⟨⟨y1, y2, y3⟩, -, ⟨y4, y5⟩, -, -, m8, -, gg, hh, -⟩, isl⟩ := h0.2.2.1
  unfold wp_X7_force wp_X8_force
  rw [y4]
  rcases in_or a 0 (nI T - 1) with ⟨a1, a2⟩ | ha
  · refine isOut_in a1 a2 ?_
    obtain ⟨j, hj, rfl⟩ := nI_in_lt (by omega) a1 a2
    exact ⟨fun _ => x_forceAt y4 y2 hj (isTap_in a1 (by rw [y5]; exact a2) ⟨fun c => absurd c (by decide), fun _ => m_forceAt (by omega) ⟨(gg j hj).2, H⟩⟩), fun c => absurd rfl c⟩
  · exact isOut_out ha ⟨fun c => absurd c (by decide), fun _ => isTap_out (by rw [y5]; exact ha) ⟨fun _ => ⟨rfl, H⟩, fun c => absurd rfl c⟩⟩
theorem q_kind {X M : VT} (H : RR X M) (a : Int32) : wp_X7_kind X a (fun r X' => wp_X8_kind M a (EQ r X')) := by
  obtain ⟨hs, Y, T, h0⟩ := id H
  obtain ⟨⟨⟨y1, y2, y3⟩, -, ⟨y4, y5⟩, -, -, m8, -, gg, hh, -⟩, isl⟩ := h0.2.2.1
  unfold wp_X7_kind wp_X8_kind
  rw [y4]
  rcases in_or a 0 (nI T - 1) with ⟨a1, a2⟩ | ha
  · refine isOut_in a1 a2 ?_
    obtain ⟨j, hj, rfl⟩ := nI_in_lt (by omega) a1 a2
    exact ⟨fun _ => x_kindAt y4 y2 hj (isTap_in a1 (by rw [y5]; exact a2) ⟨fun c => absurd c (by decide), fun _ => m_kindAt (by omega) ⟨(gg j hj).1, H⟩⟩), fun c => absurd rfl c⟩
  · exact isOut_out ha ⟨fun c => absurd c (by decide), fun _ => isTap_out (by rw [y5]; exact ha) ⟨fun _ => ⟨rfl, H⟩, fun c => absurd rfl c⟩⟩
theorem q_trace {X M : VT} (H : RR X M) (a : Int32) : wp_X7_trace X a (fun r X' => wp_X8_trace M a (EQ r X')) := by
  obtain ⟨hs, Y, T, h0⟩ := id H
  obtain ⟨b, b1, b2, b3, b4⟩ := h0.2.2.2.2.2.1
  unfold wp_X7_trace wp_X8_trace
  rw [b2, b3]
  rcases in_or a 0 (nI b - 1) with ⟨a1, a2⟩ | ha
  · refine isOut_in a1 a2 ?_
    obtain ⟨j, hj, rfl⟩ := nI_in_lt (by omega) a1 a2
    refine ⟨fun _ => ⟨vpn (by omega) (by decide), in_in (lo := 0) (hi := nI b - 1) rfl rfl a1 a2 ⟨fun c => absurd c (by decide), fun _ => ⟨vpn (by omega) (by decide), ?_, H⟩⟩⟩, fun c => absurd rfl c⟩
    rw [nI_c (by omega)]
    exact b4 j hj
  · exact isOut_out ha ⟨fun c => absurd c (by decide), fun _ => in_out (lo := 0) (hi := nI b - 1) rfl rfl ha ⟨fun _ => ⟨rfl, H⟩, fun c => absurd rfl c⟩⟩
theorem q_feed {X M : VT} (H : RR X M) (a : Int32) : wp_X7_feed X a (fun r X' => wp_X8_feed M a (EQ r X')) := by
  obtain ⟨hs, Y, T, h0⟩ := id H
  obtain ⟨h1, ⟨t, u1, u2, u3, u4⟩, h3, h4, h5, h6, h7⟩ := id h0
  unfold wp_X7_feed wp_X8_feed wp_X6_add
  rcases in_or a 0 255 with ⟨a1, a2⟩ | ha
  · refine isOut_in a1 a2 ⟨fun _ => ?_, fun c => absurd rfl c⟩
    rw [u2]
    refine ⟨fun c => ⟨vpn (by rw [i_lt, nI_toInt (by omega)] at c; have : (100 : Int32).toInt = 100 := rfl; omega) (by decide), ?_⟩, fun c => ?_⟩
    · have ht : t < 100 := by rw [i_lt, nI_toInt (by omega)] at c; have : (100 : Int32).toInt = 100 := rfl; omega
      intro X1 e1 X2 e2
      refine ⟨fun c => absurd c (by decide), fun _ => in_in (lo := 0) (hi := 255) rfl rfl a1 a2 ⟨fun _ => ⟨fun _ => ?_, fun d => ?_⟩, fun c => absurd c (by decide)⟩⟩
      · rw [u3]
        refine ⟨vpn ht (by decide), ?_⟩
        intro M1 m1 M2 m2
        rw [nI_c (by omega)] at e1 m1
        have x1 : X1 3 1 = nI t := by rw [e1, up2_ne (by decide), u2]
        have y1 : M1 0 8 = nI t := by rw [m1, up2_ne (by decide), u3]
        rw [x1, nI_1] at e2
        rw [y1, nI_1] at m2
        have nx : ∀ b : Nat, b ≠ 3 → b ≠ 4 → X2 b = X b := fun b q1 q2 => by rw [e2, up2_ne q1, e1, up2_ne q2]
        have nm : ∀ b : Nat, b ≠ 0 → b ≠ 7 → M2 b = M b := fun b q1 q2 => by rw [m2, up2_ne q1, m1, up2_ne q2]
        have n0 : ∀ b : Nat, b ≠ 8 → M2 0 b = M 0 b := fun b q => by rw [m2, up2_selfn q, m1, up2_ne (by decide)]
        refine ⟨by rw [e2, m2, up2_self, up2_self], by rw [nx 0 (by decide) (by decide), n0 4 (by decide)]; exact hs, Y, T, h1.cg (fun b _ _ => nx b (by omega) (by omega)) (nm 1 (by decide) (by decide)) (nm 2 (by decide) (by decide)) (nm 3 (by decide) (by decide)), ⟨t + 1, by omega, by rw [e2, up2_self], by rw [m2, up2_self], fun i hi => ?_⟩, h3.cg (fun b _ _ => nx b (by omega) (by omega)) (nm 5 (by decide) (by decide)) (fun b _ _ => n0 b (by omega)), h4.cg (nx 5 (by decide) (by decide)) (nx 7 (by decide) (by decide)) (nx 8 (by decide) (by decide)) (nx 9 (by decide) (by decide)) (fun b _ _ => nx b (by omega) (by omega)) (nm 8 (by decide) (by decide)) (nm 5 (by decide) (by decide)) (n0 22 (by decide)), h5.cg (fun b _ _ => nx b (by omega) (by omega)) (nm 11 (by decide) (by decide)) (n0 15 (by decide)), h6.cg (congrFun (nx 13 (by decide) (by decide)) 1) (nx 14 (by decide) (by decide)) (n0 32 (by decide)) (nm 12 (by decide) (by decide)), by rw [nx 0 (by decide) (by decide), n0 12 (by decide)]; exact h7⟩
        have xx : X2 4 i = up2 X 4 t a 4 i := by rw [e2, up2_ne (by decide), e1]
        have yy : M2 7 i = up2 M 7 t a 7 i := by rw [m2, up2_ne (by decide), m1]
        rw [xx, yy]
        by_cases q : i = t
        · subst q; rw [up2_self, up2_self]
        · rw [up2_selfn q, up2_selfn q]; exact u4 i (by omega)
      · rw [u3] at d
        exact absurd d (by rw [i_eq, nI_toInt (by omega)]; have : (100 : Int32).toInt = 100 := rfl; omega)
    · have ht : t = 100 := by rw [i_lt, nI_toInt (by omega)] at c; have : (100 : Int32).toInt = 100 := rfl; omega
      refine ⟨fun _ => in_in (lo := 0) (hi := 255) rfl rfl a1 a2 ⟨fun _ => ⟨fun d => ?_, fun _ => ⟨rfl, H⟩⟩, fun c => absurd c (by decide)⟩, fun c => absurd rfl c⟩
      rw [u3, ht] at d
      exact absurd rfl d
  · exact isOut_out ha ⟨fun c => absurd c (by decide), fun _ => in_out (lo := 0) (hi := 255) rfl rfl ha ⟨fun c => absurd rfl c, fun _ => ⟨rfl, H⟩⟩⟩
-- kinds
def ofK (own asked : Int32) : Prop := asked = 0 ∨ own = asked ∨ (asked = 1 ∧ own < 4) ∨ (asked = 4 ∧ own = 5)
theorem k_step {K : Int32 → VT → Prop} {n : Nat} {V : VT} {x1 : Int32} {a i : Nat} {y : Int32} (ha : a < 6) (hi : i < 6) (hy : stF 2 a = y) (h1 : nI a = x1 → K 1 V) (h2 : nI a ≠ x1 → wp_X7_isOfKind_L4 K n V x1 y (nI (i + 1))) : wp_X7_isOfKind_L4 K (n + 1) V x1 (nI a) (nI i) := by
  refine ⟨fun c => absurd c (nI_ge (a := i) (b := 6) hi (by decide)), fun _ => ⟨fun c => absurd c (nI_pos (by omega)), fun _ => ⟨fun c => absurd c (nI_ge (a := a) (b := 6) ha (by decide)), fun _ => ⟨fun c => ⟨vpn ha (by decide), ?_⟩, h1⟩⟩⟩⟩
  rw [nI_c (by omega), hy, nI_1]
  exact h2 c
theorem k_end {K : Int32 → VT → Prop} {n : Nat} {V : VT} {x1 : Int32} {i : Nat} (hi : i < 6) (h : K 0 V) : wp_X7_isOfKind_L4 K (n + 1) V x1 (-1) (nI i) :=
  ⟨fun c => absurd c (nI_ge (a := i) (b := 6) hi (by decide)), fun _ => ⟨fun _ => h, fun c => absurd (by decide) c⟩⟩
theorem x_isOfKind {V : VT} {own x1 : Int32} {K : Int32 → VT → Prop} (hk : own = 1 ∨ own = 2 ∨ own = 3 ∨ own = 4 ∨ own = 5) (hy : ofK own x1 → K 1 V) (hn : ¬ ofK own x1 → K 0 V) : wp_X7_isOfKind V own x1 K := by
  refine ⟨8, ?_⟩
  rcases hk with rfl | rfl | rfl | rfl | rfl
  · refine k_step (a := 1) (i := 0) (y := nI 0) (by decide) (by decide) rfl (fun c => hy (Or.inr (Or.inl c))) (fun c1 => k_step (by decide) (by decide) (y := -1) rfl (fun c => hy (Or.inl c.symm)) (fun c2 => k_end (by decide) (hn ?_)))
    rintro (e | e | ⟨e, -⟩ | ⟨-, e⟩)
    · exact c2 e.symm
    · exact c1 e
    · exact c1 e.symm
    · exact absurd e (by decide)
  · refine k_step (a := 2) (i := 0) (y := nI 1) (by decide) (by decide) rfl (fun c => hy (Or.inr (Or.inl c))) (fun c1 => k_step (by decide) (by decide) (y := nI 0) rfl (fun c => hy (Or.inr (Or.inr (Or.inl ⟨c.symm, by decide⟩)))) (fun c2 => k_step (by decide) (by decide) (y := -1) rfl (fun c => hy (Or.inl c.symm)) (fun c3 => k_end (by decide) (hn ?_))))
    rintro (e | e | ⟨e, -⟩ | ⟨-, e⟩)
    · exact c3 e.symm
    · exact c1 e
    · exact c2 e.symm
    · exact absurd e (by decide)
  · refine k_step (a := 3) (i := 0) (y := nI 1) (by decide) (by decide) rfl (fun c => hy (Or.inr (Or.inl c))) (fun c1 => k_step (by decide) (by decide) (y := nI 0) rfl (fun c => hy (Or.inr (Or.inr (Or.inl ⟨c.symm, by decide⟩)))) (fun c2 => k_step (by decide) (by decide) (y := -1) rfl (fun c => hy (Or.inl c.symm)) (fun c3 => k_end (by decide) (hn ?_))))
    rintro (e | e | ⟨e, -⟩ | ⟨-, e⟩)
    · exact c3 e.symm
    · exact c1 e
    · exact c2 e.symm
    · exact absurd e (by decide)
  · refine k_step (a := 4) (i := 0) (y := nI 0) (by decide) (by decide) rfl (fun c => hy (Or.inr (Or.inl c))) (fun c1 => k_step (by decide) (by decide) (y := -1) rfl (fun c => hy (Or.inl c.symm)) (fun c2 => k_end (by decide) (hn ?_)))
    rintro (e | e | ⟨-, e⟩ | ⟨e, -⟩)
    · exact c2 e.symm
    · exact c1 e
    · exact absurd e (by decide)
    · exact c1 e.symm
  · refine k_step (a := 5) (i := 0) (y := nI 4) (by decide) (by decide) rfl (fun c => hy (Or.inr (Or.inl c))) (fun c1 => k_step (by decide) (by decide) (y := nI 0) rfl (fun c => hy (Or.inr (Or.inr (Or.inr ⟨c.symm, rfl⟩)))) (fun c2 => k_step (by decide) (by decide) (y := -1) rfl (fun c => hy (Or.inl c.symm)) (fun c3 => k_end (by decide) (hn ?_))))
    rintro (e | e | ⟨-, e⟩ | ⟨e, -⟩)
    · exact c3 e.symm
    · exact c1 e
    · exact absurd e (by decide)
    · exact c2 e.symm
theorem m_isKind {V : VT} {own x1 : Int32} {K : Int32 → VT → Prop} (hy : ofK own x1 → K 1 V) (hn : ¬ ofK own x1 → K 0 V) : wp_X8_isKind V own x1 K := by
  have b19 : ¬ x1 = 0 → ¬ own = x1 → ¬ (x1 = 1 ∧ own < 4) → wp_X8_isKind_b19 K V own x1 := by
    intro c1 c2 c3
    refine ⟨fun d => hn ?_, fun d => ⟨fun e => hn ?_, fun e => hy (Or.inr (Or.inr (Or.inr ⟨d, e⟩)))⟩⟩
    · rintro (q | q | q | ⟨q, -⟩)
      · exact c1 q
      · exact c2 q
      · exact c3 q
      · exact d q
    · rintro (q | q | q | ⟨-, q⟩)
      · exact c1 q
      · exact c2 q
      · exact c3 q
      · exact e q
  refine ⟨fun c => hy (Or.inl c), fun c1 => ⟨fun c => hy (Or.inr (Or.inl c)), fun c2 => ⟨fun c => b19 c1 c2 (fun q => c q.1), fun c => ⟨fun d => hy (Or.inr (Or.inr (Or.inl ⟨c, d⟩))), fun d => b19 c1 c2 (fun q => d q.2)⟩⟩⟩⟩
theorem kind_or {v : Int32} (h1 : 1 ≤ v.toInt) (h2 : v.toInt ≤ 5) : v = 1 ∨ v = 2 ∨ v = 3 ∨ v = 4 ∨ v = 5 := by
  rcases (show v.toInt = 1 ∨ v.toInt = 2 ∨ v.toInt = 3 ∨ v.toInt = 4 ∨ v.toInt = 5 by omega) with h | h | h | h | h
  · exact Or.inl (i_ext h)
  · exact Or.inr (Or.inl (i_ext h))
  · exact Or.inr (Or.inr (Or.inl (i_ext h)))
  · exact Or.inr (Or.inr (Or.inr (Or.inl (i_ext h))))
  · exact Or.inr (Or.inr (Or.inr (Or.inr (i_ext h))))
theorem q_as {X M : VT} (H : RR X M) (a b : Int32) : wp_X7_as X a b (fun r X' => wp_X8_as M a b (EQ r X')) := by
  obtain ⟨hs, Y, T, h0⟩ := id H
  obtain ⟨⟨⟨y1, y2, y3⟩, -, ⟨y4, y5⟩, -, -, m8, -, gg, hh, vv⟩, isl⟩ := h0.2.2.1
  unfold wp_X7_as wp_X8_as
  rw [y4]
  rcases in_or a 0 (nI T - 1) with ⟨a1, a2⟩ | ha
  · refine isOut_in a1 a2 ⟨fun c => absurd rfl c, fun _ => ?_⟩
    obtain ⟨j, hj, rfl⟩ := nI_in_lt (by omega) a1 a2
    rcases in_or b 0 5 with ⟨b1, b2⟩ | hb
    · refine isOut_in b1 b2 ⟨fun _ => ?_, fun c => absurd rfl c⟩
      have hv : X 18 j = 1 ∨ X 18 j = 2 ∨ X 18 j = 3 ∨ X 18 j = 4 ∨ X 18 j = 5 := by
        have := ((vv (by omega)).1.2.2.2.2.2 j hj).1
        rw [(gg j hj).1]
        exact kind_or this.1 this.2
      have e18 : X 18 j = M 5 (28 + 2 * j) := (gg j hj).1
      refine x_kindAt y4 y2 hj (x_isOfKind hv (fun k => ⟨fun _ => ?_, fun c => absurd c (by decide)⟩) (fun k => ⟨fun c => absurd rfl c, fun _ => ?_⟩))
      · intro X1 e1
        refine isTap_in a1 (by rw [y5]; exact a2) ⟨fun c => absurd c (by decide), fun _ => in_in (lo := 0) (hi := 5) rfl rfl b1 b2 ⟨fun _ => m_kindAt (by omega) (m_isKind (fun _ => ⟨fun c => absurd c (by decide), fun _ => fun M1 m1 => ?_⟩) (fun n => absurd (by rw [← e18]; exact k) n)), fun c => absurd c (by decide)⟩⟩
        subst e1; subst m1
        exact ⟨rfl, H.st⟩
      · intro X1 e1
        refine isTap_in a1 (by rw [y5]; exact a2) ⟨fun c => absurd c (by decide), fun _ => in_in (lo := 0) (hi := 5) rfl rfl b1 b2 ⟨fun _ => m_kindAt (by omega) (m_isKind (fun n => absurd (by rw [← e18] at n; exact n) k) (fun _ => ⟨fun _ => fun M1 m1 => ?_, fun c => absurd rfl c⟩)), fun c => absurd c (by decide)⟩⟩
        subst e1; subst m1
        exact ⟨rfl, H.st⟩
    · exact isOut_out hb ⟨fun c => absurd c (by decide), fun _ => isTap_in a1 (by rw [y5]; exact a2) ⟨fun c => absurd c (by decide), fun _ => in_out (lo := 0) (hi := 5) rfl rfl hb ⟨fun c => absurd rfl c, fun _ => ⟨rfl, H⟩⟩⟩⟩
  · exact isOut_out ha ⟨fun _ => isTap_out (by rw [y5]; exact ha) ⟨fun _ => ⟨rfl, H⟩, fun c => absurd rfl c⟩, fun c => absurd c (by decide)⟩
