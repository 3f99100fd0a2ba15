/-! what a moment does, as both sides do it: over Int32 -/
def fr (V V' : VT) (k : Nat) : Prop := ∀ a, a ≠ k → V' a = V a
theorem fr_rf {V : VT} {k : Nat} : fr V V k := fun _ _ => rfl
theorem fr_up {V : VT} {k j : Nat} {x : Int32} : fr V (up2 V k j x) k := fun _ h => up2_ne h
theorem fr.tr {A B C : VT} {k : Nat} (h : fr A B k) (h2 : fr B C k) : fr A C k := fun a ha => (h2 a ha).trans (h a ha)
theorem fr.up {A B : VT} {k j : Nat} {x : Int32} (h : fr A B k) : fr A (up2 B k j x) k := h.tr fr_up
abbrev H4 : Type := Int32 × Int32 × Int32 × Int32
def hp (V : VT) (k : Nat) : H4 := (V k 0, V k 1, V k 2, V k 3)
def chg (p b : Int32) : Int32 := imx 0 (imn 9 (p + b))
def lnf (l b o : Int32) : Int32 := if l = 0 then o else if l ≤ 0 then l + (0 - b) else l + b
def tapP (kind force p : Int32) : Int32 := if kind = 1 then chg p force else if kind = 2 then chg p (force / 2) else if kind = 3 then chg p force else if kind = 4 then chg p (0 - force) else if kind = 5 then chg p (0 - force) else p
def tapL (kind force l : Int32) : Int32 := if kind = 2 then (if l ≤ 0 then imn 0 (l + force) else imx 0 (l - force)) else if kind = 5 then 0 else l
def grdP (g p : Int32) : Int32 := if g = 1 then chg p 2 else if g = 2 then chg p (-1) else if g = 5 then chg p (-1) else p
def grdL (g l : Int32) : Int32 := if g = 3 then 0 else if g = 4 then lnf l 2 2 else if g = 5 then lnf l 1 (-1) else l
def endF (holds p l : Int32) : Int32 := if l < 0 - holds then 1 else if l ≤ holds then (if p = 0 then 1 else 0) else 1
def lanF (y p l : Int32) : Int32 := if 4 ≤ p then l else lnf l 1 (if y - y / 2 * 2 = 0 then 1 else -1)
def goG (Y holds drag g : Int32) (kind p1 l1 y1 : Int32) : H4 :=
  if y1 < Y then
    (y1, chg (if kind = 3 then p1 else grdP g p1) (0 - drag), lanF y1 (chg (if kind = 3 then p1 else grdP g p1) (0 - drag)) (if kind = 3 then l1 else grdL g l1),
      endF holds (chg (if kind = 3 then p1 else grdP g p1) (0 - drag)) (lanF y1 (chg (if kind = 3 then p1 else grdP g p1) (0 - drag)) (if kind = 3 then l1 else grdL g l1)))
  else (Y, p1, l1, 2)
def goF (Y holds drag : Int32) (gr : Nat → Int32) (kind force y p l : Int32) : H4 :=
  goG Y holds drag (gr (y + (tapP kind force p / 3 + 1)).toNatClampNeg) kind (tapP kind force p) (tapL kind force l) (y + (tapP kind force p / 3 + 1))
theorem isOut_c {V : VT} {a b c : Int32} {K : Int32 → VT → Prop} (h : K (if a < b then 1 else if a ≤ c then 0 else 1) V) : wp_X7_isOut V a b c K := by
  unfold wp_X7_isOut
  refine ⟨fun h1 => ?_, fun h1 => ⟨fun h2 => ?_, fun h2 => ?_⟩⟩
  · rw [if_pos h1] at h; exact h
  · rw [if_neg h1, if_pos h2] at h; exact h
  · rw [if_neg h1, if_neg h2] at h; exact h
theorem s_chg {V : VT} {k : Nat} {x : Int32} {K : VT → Prop} (h : K (up2 V k 1 (chg (V k 1) x))) : wp_X2_changePace V k x K := by
  intro V1 e1; subst e1; exact h
theorem s_lnf {V : VT} {k : Nat} {x y : Int32} {K : VT → Prop} (h : K (up2 V k 2 (lnf (V k 2) x y))) : wp_X2_leanFurther V k x y K := by
  unfold wp_X2_leanFurther
  refine ⟨fun c => ⟨fun d => ?_, fun d => ?_⟩, fun c => ?_⟩
  · intro V4 e4; subst e4; rw [lnf, if_neg c, if_pos d] at h; exact h
  · intro V4 e4; subst e4; rw [lnf, if_neg c, if_neg d] at h; exact h
  · intro V4 e4; subst e4; rw [lnf, if_pos c] at h; exact h
theorem s_takeTap {V : VT} {k : Nat} {x1 x2 : Int32} {K : VT → Prop} (h : ∀ V' : VT, fr V V' k → hp V' k = (V k 0, tapP x1 x2 (V k 1), tapL x1 x2 (V k 2), V k 3) → K V') : wp_X2_takeTap V k x1 x2 K := by
  unfold wp_X2_takeTap wp_X2_takeTap_b36 wp_X2_takeTap_b82
  refine ⟨fun c => ?_, fun c => ?_, fun c => ?_, fun c => ?_, fun c => ?_, fun c1 c2 c3 c4 c5 => ?_⟩
  · subst c; exact s_chg (h _ fr_up (by simp [hp, up2, tapP, tapL]))
  · subst c
    refine s_chg ⟨fun d => ?_, fun d => ?_⟩
    · intro V2 e2; subst e2
      exact h _ (fr_up.up) (by simp [up2] at d; simp [hp, up2, tapP, tapL, d])
    · intro V2 e2; subst e2
      exact h _ (fr_up.up) (by rw [up2_selfn (by decide)] at d; simp [hp, up2, tapP, tapL, d])
  · subst c; exact s_chg (h _ fr_up (by simp [hp, up2, tapP, tapL]))
  · subst c; exact s_chg (h _ fr_up (by simp [hp, up2, tapP, tapL]))
  · subst c; exact s_chg (fun V2 e2 => by subst e2; exact h _ (fr_up.up) (by simp [hp, up2, tapP, tapL]))
  · exact h _ fr_rf (by simp [hp, tapP, tapL, c1, c2, c3, c4, c5])
theorem s_comeTo {V : VT} {k : Nat} {x1 : Int32} {K : VT → Prop} (h : ∀ V' : VT, fr V V' k → hp V' k = (V k 0, grdP x1 (V k 1), grdL x1 (V k 2), V k 3) → K V') : wp_X2_comeTo V k x1 K := by
  unfold wp_X2_comeTo
  refine ⟨fun c => ?_, fun c => ?_, fun c => ?_, fun c => ?_, fun c => ?_, fun c1 c2 c3 c4 c5 => ?_⟩
  · subst c; exact s_chg (h _ fr_up (by simp [hp, up2, grdP, grdL]))
  · subst c; exact s_chg (h _ fr_up (by simp [hp, up2, grdP, grdL]))
  · subst c; exact fun V2 e2 => by subst e2; exact h _ fr_up (by simp [hp, up2, grdP, grdL])
  · subst c; exact s_lnf (h _ fr_up (by simp [hp, up2, grdP, grdL]))
  · subst c; exact s_chg (s_lnf (h _ (fr_up.up) (by simp [hp, up2, grdP, grdL])))
  · exact h _ fr_rf (by simp [hp, grdP, grdL, c1, c2, c3, c4, c5])
theorem s_pass {V : VT} {k j : Nat} {kind force : Int32} {K : VT → Prop} (hkj : k ≠ j) (hkg : k ≠ j + 1) (he : V k 3 = 0)
    (hin : V k 0 + (tapP kind force (V k 1) / 3 + 1) < V j 4 → vp_in (V k 0 + (tapP kind force (V k 1) / 3 + 1)) 24)
    (h : ∀ V' : VT, fr V V' k → hp V' k = goF (V j 4) (V j 6) (V j 7) (V (j + 1)) kind force (V k 0) (V k 1) (V k 2) → K V') : wp_X2_pass V k j kind force K := by
  unfold wp_X2_pass
  refine ⟨fun _ => ?_, fun c => absurd he c⟩
  refine s_takeTap (fun V2 f2 h2 => ?_)
  simp only [hp, Prod.mk.injEq] at h2
  obtain ⟨a0, a1, a2, a3⟩ := h2
  intro V3 e3
  have f3 : fr V V3 k := by rw [e3]; exact f2.up
  have b0 : V3 k 0 = V k 0 + (tapP kind force (V k 1) / 3 + 1) := by rw [e3, up2_self, a0, a1]
  have b1 : V3 k 1 = tapP kind force (V k 1) := by rw [e3, up2_selfn (by decide), a1]
  have b2 : V3 k 2 = tapL kind force (V k 2) := by rw [e3, up2_selfn (by decide), a2]
  have b3 : V3 k 3 = 0 := by rw [e3, up2_selfn (by decide), a3, he]
  have hj : V3 j = V j := f3 j (Ne.symm hkj)
  have hg : V3 (j + 1) = V (j + 1) := f3 (j + 1) (Ne.symm hkg)
  have tail : ∀ (V7 : VT) (p2 l2 : Int32), V3 k 0 < V j 4 → fr V V7 k → V7 k 0 = V3 k 0 → V7 k 1 = p2 → V7 k 2 = l2 → V7 k 3 = 0 → p2 = (if kind = 3 then tapP kind force (V k 1) else grdP (V (j + 1) (V3 k 0).toNatClampNeg) (tapP kind force (V k 1))) → l2 = (if kind = 3 then tapL kind force (V k 2) else grdL (V (j + 1) (V3 k 0).toNatClampNeg) (tapL kind force (V k 2))) → wp_X2_pass_b74 K V7 k j := by
    intro V7 p2 l2 hlt f7 d0 d1 d2 d3 ep el
    have h7 : V7 j = V j := f7 j (Ne.symm hkj)
    have fin : ∀ (V9 : VT), fr V V9 k → V9 k 0 = V3 k 0 → V9 k 1 = chg p2 (0 - V j 7) → V9 k 2 = lanF (V3 k 0) (chg p2 (0 - V j 7)) l2 → V9 k 3 = 0 → wp_X2_pass_b111 K V9 k j := by
      intro V9 f9 g0 g1 g2 g3
      have h9 : V9 j = V j := f9 j (Ne.symm hkj)
      unfold wp_X2_pass_b111 wp_X2_pass_b138
      refine isOut_c ?_
      have goal : ∀ V' : VT, fr V V' k → V' k 0 = V3 k 0 → V' k 1 = chg p2 (0 - V j 7) → V' k 2 = lanF (V3 k 0) (chg p2 (0 - V j 7)) l2 → V' k 3 = endF (V j 6) (chg p2 (0 - V j 7)) (lanF (V3 k 0) (chg p2 (0 - V j 7)) l2) → K V' := by
        intro V' fv v0 v1 v2 v3
        refine h V' fv ?_
        rw [goF, ← b0, goG, if_pos hlt, hp, v0, v1, v2, v3, ← ep, ← el]
      rw [h9, g2]
      refine ⟨fun c => ?_, fun c => ⟨fun d => ?_, fun d => ?_⟩⟩
      · intro V18 e18
        refine goal V18 (by rw [e18]; exact f9.up) (by rw [e18, up2_selfn (by decide), g0]) (by rw [e18, up2_selfn (by decide), g1]) (by rw [e18, up2_selfn (by decide), g2]) (by
          rw [e18, up2_self, endF]
          split
          · rfl
          · rename_i q; rw [if_neg q] at c
            split
            · rename_i q2; rw [if_pos q2] at c; exact absurd rfl c
            · rfl)
      · refine goal V9 f9 g0 g1 g2 (by
          rw [g3, endF]
          rw [g1] at d
          split
          · rename_i q; rw [if_pos q] at c; cases c
          · rename_i q; rw [if_neg q] at c
            split
            · first | rfl | rw [if_neg d]
            · rename_i q2; rw [if_neg q2] at c; cases c)
      · intro V18 e18
        refine goal V18 (by rw [e18]; exact f9.up) (by rw [e18, up2_selfn (by decide), g0]) (by rw [e18, up2_selfn (by decide), g1]) (by rw [e18, up2_selfn (by decide), g2]) (by
          rw [e18, up2_self, endF]
          rw [g1] at d
          split
          · rfl
          · split
            · first | rfl | rw [if_pos d]
            · rfl)
    unfold wp_X2_pass_b74 wp_X2_pass_b108
    rw [h7]
    refine s_chg ⟨fun c => ?_, fun c => ⟨fun d => ?_, fun d => ?_⟩⟩
    · rw [up2_self, d1] at c
      exact fin _ f7.up (by rw [up2_selfn (by decide), d0]) (by rw [up2_self, d1]) (by rw [up2_selfn (by decide), d2, lanF, if_pos c]) (by rw [up2_selfn (by decide), d3])
    · rw [up2_self, d1] at c
      rw [up2_selfn (by decide), d0] at d
      exact s_lnf (fin _ f7.up.up (by rw [up2_selfn (by decide), up2_selfn (by decide), d0]) (by rw [up2_selfn (by decide), up2_self, d1]) (by rw [up2_self, up2_selfn (by decide), d2, lanF, if_neg c, if_neg d]) (by rw [up2_selfn (by decide), up2_selfn (by decide), d3]))
    · rw [up2_self, d1] at c
      rw [up2_selfn (by decide), d0] at d
      exact s_lnf (fin _ f7.up.up (by rw [up2_selfn (by decide), up2_selfn (by decide), d0]) (by rw [up2_selfn (by decide), up2_self, d1]) (by rw [up2_self, up2_selfn (by decide), d2, lanF, if_neg c, if_pos d]) (by rw [up2_selfn (by decide), up2_selfn (by decide), d3]))
  rw [hj, hg]
  refine ⟨fun c => ⟨fun d => ?_, fun d => ⟨?_, ?_⟩⟩, fun c => ?_⟩
  · exact tail V3 _ _ c f3 rfl b1 b2 b3 (by rw [if_pos d]) (by rw [if_pos d])
  · rw [b0] at c ⊢; exact hin c
  · refine s_comeTo (fun V7 f7 h7 => ?_)
    simp only [hp, Prod.mk.injEq] at h7
    obtain ⟨a0, a1, a2, a3⟩ := h7
    exact tail V7 _ _ c (f3.tr f7) a0 a1 a2 (a3.trans b3) (by rw [if_neg d, b1]) (by rw [if_neg d, b2])
  · intro V8 e8 V9 e9
    refine h V9 (by rw [e9, e8]; exact f3.up.up) ?_
    rw [goF, ← b0, goG, if_neg c, hp, e9, e8]
    simp only [up2_self, Prod.mk.injEq]
    refine ⟨by rw [up2_selfn (by decide), up2_self], by rw [up2_selfn (by decide), up2_selfn (by decide), b1], by rw [up2_selfn (by decide), up2_selfn (by decide), b2], trivial⟩
