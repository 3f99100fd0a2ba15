/-! what the class's walk finds: the least cost -/
def IC (M : VT) (Y T : Nat) (bt : Bool) (E bl q : Nat) (w : WS) : Prop :=
  E ≤ w.1 ∧ (∀ p, q ≤ p → p < 99 * Y → DD M T bt 24 (st9 p) < 9999 → E ≤ w.2.1 p + 8 * DD M T bt 24 (st9 p)) ∧ (E < 8 * bl → w.1 = E ∨ ∃ p, q ≤ p ∧ p < 99 * Y ∧ DD M T bt 24 (st9 p) < 9999 ∧ w.2.1 p + 8 * DD M T bt 24 (st9 p) = E)
def IS (M : VT) (Y T : Nat) (bt : Bool) (E bl sp q j : Nat) (w : WS) : Prop :=
  E ≤ w.1 ∧ (∀ p, q < p → p < 99 * Y → DD M T bt 24 (st9 p) < 9999 → E ≤ w.2.1 p + 8 * DD M T bt 24 (st9 p)) ∧ (∀ i, i < T + 1 → cJ M bt (DD M T bt 24) (st9 q) i < 9999 → E ≤ w.2.1 q + 8 * cJ M bt (DD M T bt 24) (st9 q) i + (if q = sp then i else 0)) ∧ (E < 8 * bl → w.1 = E ∨ (∃ p, q < p ∧ p < 99 * Y ∧ DD M T bt 24 (st9 p) < 9999 ∧ w.2.1 p + 8 * DD M T bt 24 (st9 p) = E) ∨ ∃ i, j ≤ i ∧ i < T + 1 ∧ cJ M bt (DD M T bt 24) (st9 q) i < 9999 ∧ w.2.1 q + 8 * cJ M bt (DD M T bt 24) (st9 q) i + (if q = sp then i else 0) = E)
theorem IS_step {M : VT} {Y T : Nat} {bt : Bool} {E bl sp q j : Nat} {w : WS} (hY : Y ≤ 24) (h0 : M 5 0 = nI Y) (fv : FV Y T (M 5)) (hq : q < 99 * Y) (hj : j < T + 1) (h : IS M Y T bt E bl sp q j w) : IS M Y T bt E bl sp q (j + 1) (spJ M bt sp q j w) := by
  obtain ⟨i1, i2, i3, i4⟩ := h
  have ss := (st9_sv hY hq).1
  have r := nxt_rng (t := tJ j) hY h0 fv ss
  have wl := wJ_le bt j
  unfold spJ
  by_cases c2 : (stJ M q j).2.2.2 = 2
  · rw [if_pos c2]
    have cj : cJ M bt (DD M T bt 24) (st9 q) j = wJ bt j := if_pos c2
    have lo := i3 j hj (by rw [cj]; omega)
    rw [cj] at lo
    have lo' : E ≤ coJ bt sp q j w := lo
    refine ⟨Nat.le_min.mpr ⟨i1, lo'⟩, i2, i3, fun hb => ?_⟩
    rcases i4 hb with e | e | ⟨i, u1, u2, u3, u4⟩
    · left
      show min w.1 _ = E
      rw [e]; exact Nat.min_eq_left lo'
    · exact Or.inr (Or.inl e)
    · rcases Nat.lt_or_ge j i with z | z
      · exact Or.inr (Or.inr ⟨i, z, u2, u3, u4⟩)
      · have : i = j := by omega
        subst this
        left
        rw [cj] at u4
        have e : coJ bt sp q i w = E := u4
        show min w.1 _ = E
        rw [e]; exact Nat.min_eq_right i1
  · rw [if_neg c2]
    by_cases c1 : (stJ M q j).2.2.2 = 1
    · rw [if_pos c1]
      refine ⟨i1, i2, i3, fun hb => ?_⟩
      have cj : cJ M bt (DD M T bt 24) (st9 q) j = 9999 := (if_neg c2).trans (if_pos c1)
      rcases i4 hb with e | e | ⟨i, u1, u2, u3, u4⟩
      · exact Or.inl e
      · exact Or.inr (Or.inl e)
      · rcases Nat.lt_or_ge j i with z | z
        · exact Or.inr (Or.inr ⟨i, z, u2, u3, u4⟩)
        · have : i = j := by omega
          subst this
          omega
    · rw [if_neg c1]
      have e0 : (stJ M q j).2.2.2 = 0 := by
        rcases r.1 with e | e | e
        · exact e
        · exact absurd e c1
        · exact absurd e c2
      have s1 : sv1 Y (stJ M q j) := nxt_sv1 hY h0 fv ss e0
      have es : st9 (rk9 (stJ M q j)) = stJ M q j := st9_rk hY s1
      have up : q < rk9 (stJ M q j) := (rk9_up hY h0 fv hq e0).1
      have ltp := rk9_lt s1
      have cj : cJ M bt (DD M T bt 24) (st9 q) j = wJ bt j + DD M T bt 24 (stJ M q j) := (if_neg c2).trans (if_neg c1)
      have aq : upN w.2.1 (rk9 (stJ M q j)) (min (w.2.1 (rk9 (stJ M q j))) (coJ bt sp q j w)) q = w.2.1 q := upN_ne (by omega)
      have hc : DD M T bt 24 (stJ M q j) < 9999 → E ≤ coJ bt sp q j w + 8 * DD M T bt 24 (stJ M q j) := by
        intro hd
        have bd := DD_bd (bt := bt) hY h0 fv 24 (stJ M q j) s1.1 hd
        have y0 := s1.1.2.1.1
        have := i3 j hj (by rw [cj]; omega)
        rw [cj] at this
        unfold coJ
        omega
      have low : ∀ p, q < p → p < 99 * Y → DD M T bt 24 (st9 p) < 9999 → E ≤ upN w.2.1 (rk9 (stJ M q j)) (min (w.2.1 (rk9 (stJ M q j))) (coJ bt sp q j w)) p + 8 * DD M T bt 24 (st9 p) := by
        intro p v1 v2 v3
        by_cases e : p = rk9 (stJ M q j)
        · rw [e] at v3 ⊢
          have a2 := i2 _ up ltp v3
          rw [upN_self]
          rw [es] at v3 a2 ⊢
          have := hc v3
          rcases Nat.le_total (w.2.1 (rk9 (stJ M q j))) (coJ bt sp q j w) with z | z
          · rw [Nat.min_eq_left z]; exact a2
          · rw [Nat.min_eq_right z]; exact this
        · rw [upN_ne e]; exact i2 p v1 v2 v3
      refine ⟨i1, low, fun i u1 u2 => ?_, fun hb => ?_⟩
      · show E ≤ upN _ _ _ q + _ + _
        rw [aq]; exact i3 i u1 u2
      · rcases i4 hb with e | ⟨p, u1, u2, u3, u4⟩ | ⟨i, u1, u2, u3, u4⟩
        · exact Or.inl e
        · refine Or.inr (Or.inl ⟨p, u1, u2, u3, ?_⟩)
          have l := low p u1 u2 u3
          show upN _ _ _ p + _ = E
          refine Nat.le_antisymm ?_ l
          by_cases e : p = rk9 (stJ M q j)
          · rw [e] at u4 ⊢
            rw [upN_self, ← u4]
            exact Nat.add_le_add_right (Nat.min_le_left _ _) _
          · rw [upN_ne e, u4]; exact Nat.le_refl _
        · rcases Nat.lt_or_ge j i with z | z
          · refine Or.inr (Or.inr ⟨i, z, u2, u3, ?_⟩)
            show upN _ _ _ q + _ + _ = E
            rw [aq]; exact u4
          · have : i = j := by omega
            subst this
            rw [cj] at u3 u4
            refine Or.inr (Or.inl ⟨_, up, ltp, by rw [es]; omega, ?_⟩)
            have l := low _ up ltp (by rw [es]; omega)
            refine Nat.le_antisymm ?_ l
            show upN _ _ _ _ + _ ≤ E
            rw [upN_self, es]
            have : coJ bt sp q i w + 8 * DD M T bt 24 (stJ M q i) = E := by
              unfold coJ
              omega
            rw [← this]
            exact Nat.add_le_add_right (Nat.min_le_right _ _) _
theorem IS_end {M : VT} {Y T : Nat} {bt : Bool} {E bl sp q : Nat} {w : WS} (h : IS M Y T bt E bl sp q (T + 1) w) : IC M Y T bt E bl (q + 1) w := by
  obtain ⟨i1, i2, i3, i4⟩ := h
  refine ⟨i1, fun p u1 u2 u3 => i2 p (by omega) u2 u3, fun hb => ?_⟩
  rcases i4 hb with e | ⟨p, u1, u2, u3, u4⟩ | ⟨i, u1, u2, u3, u4⟩
  · exact Or.inl e
  · exact Or.inr ⟨p, by omega, u2, u3, u4⟩
  · omega
theorem IC_IS {M : VT} {Y T : Nat} {bt : Bool} {E bl sp q : Nat} {w : WS} (hY : Y ≤ 24) (h0 : M 5 0 = nI Y) (fv : FV Y T (M 5)) (hq : q < 99 * Y) (hn : q ≠ sp) (h : IC M Y T bt E bl q w) : IS M Y T bt E bl sp q 0 w := by
  obtain ⟨i1, i2, i3⟩ := h
  have e24 := DD_24 (bt := bt) (T := T) hY h0 fv (st9_sv hY hq).1
  refine ⟨i1, fun p u1 u2 u3 => i2 p (by omega) u2 u3, fun i u1 u2 => ?_, fun hb => ?_⟩
  · have := mnc_at (cap := 9999) (f := cJ M bt (DD M T bt 24) (st9 q)) u1
    rw [← e24] at this
    have := i2 q (Nat.le_refl _) hq (by omega)
    omega
  · rcases i3 hb with e | ⟨p, u1, u2, u3, u4⟩
    · exact Or.inl e
    · rcases Nat.lt_or_ge q p with z | z
      · exact Or.inr (Or.inl ⟨p, z, u2, u3, u4⟩)
      · have : p = q := by omega
        subst this
        have u3' := u3
        rw [e24] at u3'
        obtain ⟨i, v1, v2⟩ := mnc_hit u3'
        rw [← e24] at v2
        refine Or.inr (Or.inr ⟨i, Nat.zero_le _, v1, by rw [v2]; exact u3, ?_⟩)
        rw [v2, if_neg hn, Nat.add_zero]; exact u4
theorem wk_IC {M : VT} {Y T : Nat} {bt : Bool} {bl : Nat} {s : H4} (hY : Y ≤ 24) (hT : T ≤ 5) (h0 : M 5 0 = nI Y) (fv : FV Y T (M 5)) (hs : sv1 Y s) (hb1 : 1 ≤ bl) (hb2 : bl ≤ 1000000) : EE M T bt s ≤ (wkE M Y T bt s bl).1 ∧ (EE M T bt s < 8 * bl → (wkE M Y T bt s bl).1 = EE M T bt s) := by
  have lt := rk9_lt hs
  have es := st9_rk hY hs
  have key : (99 * Y = rk9 s ∧ wkE M Y T bt s bl = wk0 (rk9 s)) ∨ (rk9 s < 99 * Y ∧ IC M Y T bt (EE M T bt s) bl (99 * Y) (wkE M Y T bt s bl)) := by
    refine wkN_inv (P := fun q w => (q = rk9 s ∧ w = wk0 (rk9 s)) ∨ (rk9 s < q ∧ IC M Y T bt (EE M T bt s) bl q w)) (fun q w hq hp hc => ?_) (fun q w hq hp hc => ?_) _ _ _ (by omega) (Or.inl ⟨rfl, rfl⟩)
    · rcases hp with ⟨u1, u2⟩ | ⟨u1, i1, i2, i3⟩
      · exfalso
        apply hc
        rw [u2, u1]
        show (if rk9 s = rk9 s then 0 else 8000000) < 8 * bl
        rw [if_pos rfl]; omega
      · refine Or.inr ⟨by omega, i1, fun p v1 v2 v3 => i2 p (by omega) v2 v3, fun hb => ?_⟩
        rcases i3 hb with e | ⟨p, v1, v2, v3, v4⟩
        · exact Or.inl e
        · rcases Nat.lt_or_ge q p with z | z
          · exact Or.inr ⟨p, z, v2, v3, v4⟩
          · have : p = q := by omega
            subst this
            omega
    · have go : IS M Y T bt (EE M T bt s) bl (rk9 s) q 0 w → IC M Y T bt (EE M T bt s) bl (q + 1) (spN M bt (rk9 s) q (T + 1) 0 w) := fun h => IS_end (spN_inv (Q := fun j w => IS M Y T bt (EE M T bt s) bl (rk9 s) q j w) (fun j w hj h => IS_step hY h0 fv hq hj h) (T + 1) 0 w (by omega) h)
      rcases hp with ⟨u1, u2⟩ | ⟨u1, u2⟩
      · refine Or.inr ⟨by omega, go ?_⟩
        subst u1; subst u2
        have le := EE_le M T bt s
        refine ⟨le, fun p v1 v2 v3 => ?_, fun i v1 v2 => ?_, fun hb => ?_⟩
        · show EE M T bt s ≤ (if p = rk9 s then 0 else 8000000) + _
          rw [if_neg (by omega)]; omega
        · rw [es] at v2 ⊢
          rw [if_pos rfl]
          have := EE_at v1 v2
          show EE M T bt s ≤ (if rk9 s = rk9 s then 0 else 8000000) + _ + _
          rw [if_pos rfl]; omega
        · obtain ⟨i, v1, v2, v3⟩ := EE_hit (M := M) (T := T) (bt := bt) (s := s) (by omega)
          refine Or.inr (Or.inr ⟨i, Nat.zero_le _, v1, by rw [es]; exact v2, ?_⟩)
          rw [es, if_pos rfl]
          show (if rk9 s = rk9 s then 0 else 8000000) + _ + _ = _
          rw [if_pos rfl]; omega
      · exact Or.inr ⟨by omega, go (IC_IS hY h0 fv hq (by omega) u2)⟩
  rcases key with ⟨u1, -⟩ | ⟨-, i1, i2, i3⟩
  · omega
  · refine ⟨i1, fun hb => ?_⟩
    rcases i3 hb with e | ⟨p, v1, v2, -⟩
    · exact e
    · omega
/-- all ways: the least cost, and what is done first -/
theorem wk_far {M : VT} {Y T : Nat} {bt : Bool} {s : H4} (hY : Y ≤ 24) (hT : T ≤ 5) (h0 : M 5 0 = nI Y) (fv : FV Y T (M 5)) (hs : sv1 Y s) (hw : WB (wkE M Y T bt s 1000000)) : (wkE M Y T bt s 1000000).1 = EE M T bt s := by
  obtain ⟨a, b⟩ := wk_IC (bt := bt) (bl := 1000000) hY hT h0 fv hs (by omega) (by omega)
  rcases Nat.lt_or_ge (EE M T bt s) (8 * 1000000) with z | z
  · exact b z
  · have := hw.1
    have := EE_le M T bt s
    omega
