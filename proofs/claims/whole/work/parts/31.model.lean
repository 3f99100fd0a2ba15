/-! the reference's moment is the class's -/
def frM (V V' : VT) : Prop := (∀ a, a ≠ 0 → V' a = V a) ∧ ∀ b, (b < 16 ∨ 20 < b) → V' 0 b = V 0 b
def hm (V : VT) : H4 := (V 0 16, V 0 17, V 0 18, V 0 19)
theorem frM_rf {V : VT} : frM V V := ⟨fun _ _ => rfl, fun _ _ => rfl⟩
theorem frM.tr {A B C : VT} (h : frM A B) (h2 : frM B C) : frM A C := ⟨fun a ha => (h2.1 a ha).trans (h.1 a ha), fun b hb => (h2.2 b hb).trans (h.2 b hb)⟩
theorem frM_up {V : VT} {j : Nat} {x : Int32} (hj : 16 ≤ j ∧ j ≤ 20) : frM V (up2 V 0 j x) := ⟨fun _ h => up2_ne h, fun b hb => up2_selfn (by omega)⟩
theorem frM.up {A B : VT} {j : Nat} {x : Int32} (h : frM A B) (hj : 16 ≤ j ∧ j ≤ 20) : frM A (up2 B 0 j x) := h.tr (frM_up hj)
theorem m_chg {V : VT} {x : Int32} {K : VT → Prop} (h : K (up2 V 0 17 (chg (V 0 17) x))) : wp_X8_paces V x K := by
  intro V1 e1; subst e1
  rw [up2_self]
  unfold wp_X8_paces_b40
  rw [chg] at h
  refine ⟨fun c => ⟨fun d => ?_, fun d => ?_⟩, fun c => ?_⟩
  · intro V4 e4; rw [e4, up2_up2]; rw [chg_mid c d] at h; exact h
  · intro V4 e4; rw [e4, up2_up2]; rw [chg_hi d] at h; exact h
  · intro V4 e4; rw [e4, up2_up2]; rw [chg_lo c] at h; exact h
theorem sub_add0 (a b : Int32) : a + (0 - b) = a - b := by
  rw [Int32.zero_sub, ← Int32.sub_eq_add_neg]
theorem m_from0 {V : VT} {a b o : Int32} {K : Int32 → VT → Prop} (h : K (lnf a b o) V) : wp_X8_from0 V a b o K := by
  unfold wp_X8_from0
  rw [lnf] at h
  refine ⟨fun c => ⟨fun d => ?_, fun d => ?_⟩, fun c => ?_⟩
  · rw [if_pos (Int32.le_antisymm c d)] at h; exact h
  · rw [if_neg (fun e => d (by rw [e]; exact Int32.le_refl 0)), if_pos c, sub_add0] at h; exact h
  · rw [if_neg (fun e => c (by rw [e]; exact Int32.le_refl 0)), if_neg c] at h; exact h
theorem tapL_2 {l force : Int32} (h1 : -100 ≤ l.toInt ∧ l.toInt ≤ 100) (h2 : 0 ≤ force.toInt ∧ force.toInt ≤ 100) {z : Int32} (hz : z = if 0 ≤ l then (if l ≤ force then 0 else l - force) else -(if -l ≤ force then 0 else -l - force)) : tapL 2 force l = z := by
  have a1 := @i_add l force (by omega)
  have a2 := @i_sub l force (by omega)
  have a3 := @i_neg l (by omega)
  have a4 := @i_sub (-l) force (by omega)
  have a5 := @i_neg (-l - force) (by omega)
  rw [tapL, if_pos rfl, hz]
  by_cases c : l ≤ 0
  · rw [if_pos c]
    rw [i_le, t0] at c
    by_cases d : 0 ≤ l
    · rw [if_pos d, if_pos (by rw [i_le]; rw [i_le, t0] at d; omega)]
      rw [i_le, t0] at d
      show (if l + force < 0 then l + force else 0) = 0
      rw [if_neg (by rw [i_lt, t0]; omega)]
    · rw [if_neg d]
      rw [i_le, t0] at d
      show (if l + force < 0 then l + force else 0) = _
      by_cases e : -l ≤ force
      · rw [if_pos e, if_neg (by rw [i_le] at e; rw [i_lt, t0]; omega)]; decide
      · rw [if_neg e, if_pos (by rw [i_le] at e; rw [i_lt, t0]; omega)]
        exact i_ext (by omega)
  · rw [if_neg c]
    rw [i_le, t0] at c
    rw [if_pos (by rw [i_le, t0]; omega)]
    show (if 0 < l - force then l - force else 0) = _
    by_cases e : l ≤ force
    · rw [if_pos e, if_neg (by rw [i_le] at e; rw [i_lt, t0]; omega)]
    · rw [if_neg e, if_pos (by rw [i_le] at e; rw [i_lt, t0]; omega)]
theorem m_taps {V : VT} {kind force : Int32} {K : VT → Prop} (hk : kind = 1 ∨ kind = 2 ∨ kind = 3 ∨ kind = 4 ∨ kind = 5)
    (hr : kind = 2 → (-100 ≤ (V 0 18).toInt ∧ (V 0 18).toInt ≤ 100) ∧ 0 ≤ force.toInt ∧ force.toInt ≤ 100)
    (h : ∀ V' : VT, frM V V' → hm V' = (V 0 16, tapP kind force (V 0 17), tapL kind force (V 0 18), V 0 19) → V' 0 20 = V 0 20 → K V') : wp_X8_taps V kind force K := by
  have step : ∀ x : Int32, chg (V 0 17) x = tapP kind force (V 0 17) → wp_X8_taps_b23 K V kind force x := by
    intro x hx
    unfold wp_X8_taps_b23
    refine m_chg ?_
    rw [hx]
    refine ⟨fun c => ⟨fun d => ?_, fun d => ?_⟩, fun c => ?_⟩
    · exact h _ (frM_up (by decide)) (by simp [hm, up2, tapL, c, d]) (by simp [up2])
    · subst d; intro V6 e6; subst e6
      exact h _ ((frM_up (by decide)).up (by decide)) (by simp [hm, up2, tapL]) (by simp [up2])
    · subst c
      obtain ⟨r1, r2⟩ := hr rfl
      have fin : ∀ z : Int32, z = tapL 2 force (V 0 18) → K (up2 (up2 V 0 17 (tapP 2 force (V 0 17))) 0 18 z) := by
        intro z hz
        subst hz
        exact h _ ((frM_up (by decide)).up (by decide)) (by simp [hm, up2]) (by simp [up2])
      unfold wp_X8_taps_b50 wp_X8_taps_b63 wp_X8_taps_b78
      rw [up2_selfn (by decide)]
      refine ⟨fun c => ⟨fun d => ⟨fun e => ?_, fun e => absurd c e⟩, fun d => ⟨fun e => ?_, fun e => absurd c e⟩⟩, fun c => ⟨fun d => ⟨fun e => absurd e c, fun e => ?_⟩, fun d => ⟨fun e => absurd e c, fun e => ?_⟩⟩⟩
      · intro V10 e10; rw [e10]; exact fin _ (tapL_2 r1 r2 (by rw [if_pos c, if_pos d])).symm
      · intro V10 e10; rw [e10]; exact fin _ (tapL_2 r1 r2 (by rw [if_pos c, if_neg d])).symm
      · intro V10 e10; rw [e10]; exact fin _ (tapL_2 r1 r2 (by rw [if_neg c, if_pos d])).symm
      · intro V10 e10; rw [e10]; exact fin _ (tapL_2 r1 r2 (by rw [if_neg c, if_neg d])).symm
  unfold wp_X8_taps
  rcases hk with rfl | rfl | rfl | rfl | rfl
  · exact ⟨fun _ => ⟨fun c => absurd c (by decide), fun _ => step _ (by simp [tapP])⟩, fun c => absurd c (by decide)⟩
  · exact ⟨fun c => absurd rfl c, fun _ => step _ (by simp [tapP])⟩
  · exact ⟨fun _ => ⟨fun c => absurd c (by decide), fun _ => step _ (by simp [tapP])⟩, fun c => absurd c (by decide)⟩
  · exact ⟨fun _ => ⟨fun _ => step _ (by simp [tapP, Int32.zero_sub]), fun c => absurd (by decide) c⟩, fun c => absurd c (by decide)⟩
  · exact ⟨fun _ => ⟨fun _ => step _ (by simp [tapP, Int32.zero_sub]), fun c => absurd (by decide) c⟩, fun c => absurd c (by decide)⟩
theorem m_grounds {V : VT} {K : VT → Prop} (hin : vp_in ((4 : Int32) + V 0 16) 38)
    (h : ∀ V' : VT, frM V V' → hm V' = (V 0 16, grdP (V 5 ((4 : Int32) + V 0 16).toNatClampNeg) (V 0 17), grdL (V 5 ((4 : Int32) + V 0 16).toNatClampNeg) (V 0 18), V 0 19) → V' 0 20 = V 0 20 → K V') : wp_X8_grounds V K := by
  unfold wp_X8_grounds
  generalize hg : V 5 ((4 : Int32) + V 0 16).toNatClampNeg = gv at h ⊢
  refine ⟨hin, fun c => ?_, fun c => ?_, fun c => ?_, fun c => ?_, fun c => ?_, fun c1 c2 c3 c4 c5 => ?_⟩
  · subst c; exact m_chg (h _ (frM_up (by decide)) (by simp [hm, up2, grdP, grdL]) (by simp [up2]))
  · subst c; exact m_chg (h _ (frM_up (by decide)) (by simp [hm, up2, grdP, grdL]) (by simp [up2]))
  · subst c; exact fun V2 e2 => by subst e2; exact h _ (frM_up (by decide)) (by simp [hm, up2, grdP, grdL]) (by simp [up2])
  · subst c; exact m_from0 (fun V2 e2 => by subst e2; exact h _ (frM_up (by decide)) (by simp [hm, up2, grdP, grdL]) (by simp [up2]))
  · subst c; exact m_chg (m_from0 (fun V2 e2 => by subst e2; exact h _ ((frM_up (by decide)).up (by decide)) (by simp [hm, up2, grdP, grdL]) (by simp [up2])))
  · exact h _ frM_rf (by simp [hm, grdP, grdL, c1, c2, c3, c4, c5]) rfl
theorem m_goes {V : VT} {kind force : Int32} {K : VT → Prop} (hk : kind = 0 ∨ kind = 1 ∨ kind = 2 ∨ kind = 3 ∨ kind = 4 ∨ kind = 5)
    (hr : kind = 2 → (-100 ≤ (V 0 18).toInt ∧ (V 0 18).toInt ≤ 100) ∧ 0 ≤ force.toInt ∧ force.toInt ≤ 100)
    (hin : V 0 16 + (tapP kind force (V 0 17) / 3 + 1) < V 5 0 → 0 ≤ (V 0 16 + (tapP kind force (V 0 17) / 3 + 1)).toInt ∧ (V 0 16 + (tapP kind force (V 0 17) / 3 + 1)).toInt < 24)
    (h : ∀ V' : VT, frM V V' → hm V' = goF (V 5 0) (V 5 2) (V 5 3) (fun i => V 5 (4 + i)) kind force (V 0 16) (V 0 17) (V 0 18) → V' 0 20 = V 0 20 + 1 → K V') : wp_X8_goes V kind force K := by
  have b10 : ∀ V2 : VT, frM V V2 → V2 0 16 = V 0 16 → V2 0 17 = tapP kind force (V 0 17) → V2 0 18 = tapL kind force (V 0 18) → V2 0 20 = V 0 20 → wp_X8_goes_b10 K V2 kind := by
    intro V2 f2 a0 a1 a2 a4 V3 e3 V4 e4
    have f4 : frM V V4 := by rw [e4, e3]; exact (f2.up (by decide)).up (by decide)
    have b0 : V4 0 16 = V 0 16 + (tapP kind force (V 0 17) / 3 + 1) := by rw [e4, up2_selfn (by decide), e3, up2_self, a0, a1]
    have b1 : V4 0 17 = tapP kind force (V 0 17) := by rw [e4, up2_selfn (by decide), e3, up2_selfn (by decide), a1]
    have b2 : V4 0 18 = tapL kind force (V 0 18) := by rw [e4, up2_selfn (by decide), e3, up2_selfn (by decide), a2]
    have b4 : V4 0 20 = V 0 20 + 1 := by rw [e4, up2_self, e3, up2_selfn (by decide), a4]
    have hj : V4 5 = V 5 := f4.1 5 (by decide)
    have tail : ∀ (V7 : VT) (p2 l2 : Int32), V4 0 16 < V 5 0 → frM V V7 → V7 0 16 = V4 0 16 → V7 0 17 = p2 → V7 0 18 = l2 → V7 0 20 = V 0 20 + 1 → p2 = (if kind = 3 then tapP kind force (V 0 17) else grdP (V 5 (4 + (V4 0 16).toNatClampNeg)) (tapP kind force (V 0 17))) → l2 = (if kind = 3 then tapL kind force (V 0 18) else grdL (V 5 (4 + (V4 0 16).toNatClampNeg)) (tapL kind force (V 0 18))) → wp_X8_goes_b75 K V7 := by
      intro V7 p2 l2 hlt f7 d0 d1 d2 d4 ep el
      have h7 : V7 5 = V 5 := f7.1 5 (by decide)
      have fin : ∀ (V9 : VT), frM V V9 → V9 0 16 = V4 0 16 → V9 0 17 = chg p2 (0 - V 5 3) → V9 0 20 = V 0 20 + 1 → ∀ z, z = lanF (V4 0 16) (chg p2 (0 - V 5 3)) l2 → wp_X8_goes_b124 K V9 z := by
        intro V9 f9 g0 g1 g4 z hz V16 e16
        have h9 : V16 5 = V 5 := by rw [e16, up2_ne (by decide)]; exact f9.1 5 (by decide)
        have f16 : frM V V16 := by rw [e16]; exact f9.up (by decide)
        have k0 : V16 0 16 = V4 0 16 := by rw [e16, up2_selfn (by decide), g0]
        have k1 : V16 0 17 = chg p2 (0 - V 5 3) := by rw [e16, up2_selfn (by decide), g1]
        have k2 : V16 0 18 = lanF (V4 0 16) (chg p2 (0 - V 5 3)) l2 := by rw [e16, up2_self, hz]
        have k4 : V16 0 20 = V 0 20 + 1 := by rw [e16, up2_selfn (by decide), g4]
        have goal : ∀ z : Int32, z = endF (V 5 2) (chg p2 (0 - V 5 3)) (lanF (V4 0 16) (chg p2 (0 - V 5 3)) l2) → wp_X8_goes_b167 K V16 z := by
          intro z hz V24 e24
          refine h V24 (by rw [e24]; exact f16.up (by decide)) ?_ (by rw [e24, up2_selfn (by decide), k4])
          rw [goF, ← b0, goG, if_pos hlt, hm, e24]
          simp only [up2_self]
          rw [up2_selfn (by decide), up2_selfn (by decide), up2_selfn (by decide), k0, k1, k2, hz, ← ep, ← el]
        rw [h9, k1, k2, cn2]
        rw [endF] at goal
        unfold wp_X8_goes_b162
        refine ⟨vin (by decide), fun c => ?_, fun c => ⟨vin (by decide), fun d => ?_, fun d => ⟨fun e => ?_, fun e => ?_⟩⟩⟩
        · refine goal 1 ?_
          split
          · rfl
          · rw [if_neg (fun q => Int32.not_le.mpr c q)]
        · refine goal 1 ?_
          rw [if_pos (by rw [Int32.zero_sub]; exact d)]
        · refine goal 0 ?_
          rw [if_neg (by rw [Int32.zero_sub]; exact d), if_pos (Int32.not_lt.mp c), if_neg e]
        · refine goal 1 ?_
          split
          · rfl
          · first | rw [if_pos (Int32.not_lt.mp c), if_pos e] | rw [if_pos (Int32.not_lt.mp c)]
      unfold wp_X8_goes_b75 wp_X8_goes_b114
      rw [h7]
      refine ⟨vin (by decide), m_chg ?_⟩
      rw [d1, show -(V 5 ((3 : Int32)).toNatClampNeg) = 0 - V 5 3 from (Int32.zero_sub _).symm]
      rw [up2_self, up2_selfn (by decide), up2_selfn (by decide), d0, d2]
      refine ⟨fun c => ?_, fun c => ⟨fun d => ?_, fun d => ?_⟩⟩
      · exact fin _ (f7.up (by decide)) (by rw [up2_selfn (by decide), d0]) (by rw [up2_self]) (by rw [up2_selfn (by decide), d4]) _ (by rw [lanF, if_pos c])
      · exact m_from0 (fin _ (f7.up (by decide)) (by rw [up2_selfn (by decide), d0]) (by rw [up2_self]) (by rw [up2_selfn (by decide), d4]) _ (by rw [lanF, if_neg c, if_neg d]))
      · exact m_from0 (fin _ (f7.up (by decide)) (by rw [up2_selfn (by decide), d0]) (by rw [up2_self]) (by rw [up2_selfn (by decide), d4]) _ (by rw [lanF, if_neg c, if_pos d]))
    rw [hj]
    have ei : V4 0 16 < V 5 0 → ((4 : Int32) + V4 0 16).toNatClampNeg = 4 + (V4 0 16).toNatClampNeg ∧ vp_in ((4 : Int32) + V4 0 16) 38 := by
      intro c
      rw [b0] at c ⊢
      obtain ⟨q1, q2⟩ := hin c
      generalize V 0 16 + (tapP kind force (V 0 17) / 3 + 1) = yy at q1 q2 ⊢
      have q3 := @i_add 4 yy (by rw [t4]; omega)
      rw [t4] at q3
      exact ⟨by rw [i_nn, i_nn]; omega, vin_of (by omega) (by omega)⟩
    refine ⟨vin (by decide), fun c => ⟨fun d => ?_, fun d => ?_⟩, fun c => ⟨vin (by decide), ?_⟩⟩
    · exact tail V4 _ _ c f4 rfl b1 b2 b4 (by rw [if_pos d]) (by rw [if_pos d])
    · refine m_grounds (ei c).2 (fun V7 f7 h7 h74 => ?_)
      simp only [hm, Prod.mk.injEq] at h7
      obtain ⟨a0, a1, a2, a3⟩ := h7
      exact tail V7 _ _ c (f4.tr f7) a0 a1 a2 (h74.trans b4) (by rw [if_neg d, hj, (ei c).1, b1]) (by rw [if_neg d, hj, (ei c).1, b2])
    · intro V10 e10 V11 e11
      rw [cn0] at e10 c
      refine h V11 (by rw [e11, e10]; exact (f4.up (by decide)).up (by decide)) ?_ (by rw [e11, up2_selfn (by decide), e10, up2_selfn (by decide), b4])
      rw [goF, ← b0, goG, if_neg c, hm, e11, e10]
      simp only [Prod.mk.injEq]
      refine ⟨by rw [up2_selfn (by decide), up2_self], by rw [up2_selfn (by decide), up2_selfn (by decide), b1], by rw [up2_selfn (by decide), up2_selfn (by decide), b2], up2_self⟩
  unfold wp_X8_goes
  refine ⟨fun c => ?_, fun c => ?_⟩
  · have : kind = 0 := by
      rcases hk with rfl | rfl | rfl | rfl | rfl | rfl
      · rfl
      all_goals exact absurd c (by decide)
    subst this
    exact b10 V frM_rf rfl (by simp [tapP]) (by simp [tapL]) rfl
  · refine m_taps ?_ hr (fun V2 f2 h2 h24 => ?_)
    · rcases hk with rfl | hk
      · exact absurd (by decide) c
      · exact hk
    · simp only [hm, Prod.mk.injEq] at h2
      exact b10 V2 f2 h2.1 h2.2.1 h2.2.2.1 h24
