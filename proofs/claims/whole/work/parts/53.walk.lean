/-! the class's walk -/
def oT (bt : Bool) : Int32 := if bt = true then 1 else 0
def oM (bt : Bool) : Int32 := if bt = true then 0 else 1
abbrev WS : Type := Nat × (Nat → Nat) × Int32
def upN (f : Nat → Nat) (k v : Nat) : Nat → Nat := fun i => if i = k then v else f i
theorem upN_self {f : Nat → Nat} {k v : Nat} : upN f k v k = v := by simp [upN]
theorem upN_ne {f : Nat → Nat} {k v i : Nat} (h : i ≠ k) : upN f k v i = f i := by simp [upN, h]
def bI (y : Int32) : Int32 := (1 : Int32) <<< (y &&& 31)
def stJ (M : VT) (q j : Nat) : H4 := nxt M (tJ j) (st9 q)
def coJ (bt : Bool) (sp q j : Nat) (w : WS) : Nat := w.2.1 q + 8 * wJ bt j + (if q = sp then j else 0)
def spJ (M : VT) (bt : Bool) (sp q j : Nat) (w : WS) : WS :=
  if (stJ M q j).2.2.2 = 2 then (min w.1 (coJ bt sp q j w), w.2.1, w.2.2)
  else if (stJ M q j).2.2.2 = 1 then (w.1, w.2.1, w.2.2 ||| bI (stJ M q j).1)
  else (w.1, upN w.2.1 (rk9 (stJ M q j)) (min (w.2.1 (rk9 (stJ M q j))) (coJ bt sp q j w)), w.2.2)
def spN (M : VT) (bt : Bool) (sp q : Nat) : Nat → Nat → WS → WS
  | 0, _, w => w
  | m + 1, j, w => spN M bt sp q m (j + 1) (spJ M bt sp q j w)
def wkN (M : VT) (T : Nat) (bt : Bool) (sp bl : Nat) : Nat → Nat → WS → WS
  | 0, _, w => w
  | m + 1, q, w => wkN M T bt sp bl m (q + 1) (if w.2.1 q < 8 * bl then spN M bt sp q (T + 1) 0 w else w)
theorem spN_inv {M : VT} {bt : Bool} {sp q n : Nat} {Q : Nat → WS → Prop} (h : ∀ j w, j < n → Q j w → Q (j + 1) (spJ M bt sp q j w)) : ∀ (m j : Nat) (w : WS), j + m = n → Q j w → Q n (spN M bt sp q m j w) := by
  intro m
  induction m with
  | zero => intro j w hj hq; have : j = n := by omega
            subst this; exact hq
  | succ m ih => intro j w hj hq; exact ih (j + 1) _ (by omega) (h j w (by omega) hq)
theorem wkN_inv {M : VT} {T : Nat} {bt : Bool} {sp bl n : Nat} {P : Nat → WS → Prop} (h1 : ∀ q w, q < n → P q w → ¬ w.2.1 q < 8 * bl → P (q + 1) w) (h2 : ∀ q w, q < n → P q w → w.2.1 q < 8 * bl → P (q + 1) (spN M bt sp q (T + 1) 0 w)) : ∀ (m q : Nat) (w : WS), q + m = n → P q w → P n (wkN M T bt sp bl m q w) := by
  intro m
  induction m with
  | zero => intro j w hj hq; have : j = n := by omega
            subst this; exact hq
  | succ m ih =>
    intro q w hq hp
    unfold wkN
    by_cases c : w.2.1 q < 8 * bl
    · rw [if_pos c]; exact ih (q + 1) _ (by omega) (h2 q w (by omega) hp c)
    · rw [if_neg c]; exact ih (q + 1) _ (by omega) (h1 q w (by omega) hp c)
/-- the costs are those of at most as many moments, or out of reach -/
def WB (w : WS) : Prop := w.1 ≤ 8000000 ∧ ∀ p, w.2.1 p = 8000000 ∨ w.2.1 p ≤ 13 * (p / 99)
theorem coJ_le {T : Nat} {bt : Bool} {sp q j : Nat} {w : WS} (hT : T ≤ 5) (hj : j < T + 1) (ha : w.2.1 q ≤ 13 * (q / 99)) : coJ bt sp q j w ≤ 13 * (q / 99) + 13 := by
  unfold coJ
  have := wJ_le bt j
  split <;> omega
theorem spJ_WB {M : VT} {Y T : Nat} {bt : Bool} {sp q j : Nat} {w : WS} (hY : Y ≤ 24) (hT : T ≤ 5) (h0 : M 5 0 = nI Y) (fv : FV Y T (M 5)) (hq : q < 99 * Y) (hj : j < T + 1) (hw : WB w) (ha : w.2.1 q ≤ 13 * (q / 99)) : WB (spJ M bt sp q j w) ∧ (spJ M bt sp q j w).2.1 q ≤ 13 * (q / 99) ∧ (spJ M bt sp q j w).2.1 q = w.2.1 q := by
  have hc := coJ_le (sp := sp) (bt := bt) hT hj ha
  unfold spJ
  by_cases c2 : (stJ M q j).2.2.2 = 2
  · rw [if_pos c2]
    exact ⟨⟨Nat.le_trans (Nat.min_le_left _ _) hw.1, hw.2⟩, ha, rfl⟩
  · rw [if_neg c2]
    by_cases c1 : (stJ M q j).2.2.2 = 1
    · rw [if_pos c1]; exact ⟨hw, ha, rfl⟩
    · rw [if_neg c1]
      have e0 : (stJ M q j).2.2.2 = 0 := by
        rcases (nxt_rng (t := tJ j) hY h0 fv (st9_sv hY hq).1).1 with e | e | e
        · exact e
        · exact absurd e c1
        · exact absurd e c2
      obtain ⟨u1, u2⟩ := rk9_up hY h0 fv hq e0
      have u3 : q < rk9 (stJ M q j) := u1
      have u4 : q / 99 + 1 ≤ rk9 (stJ M q j) / 99 := u2
      refine ⟨⟨hw.1, fun p => ?_⟩, ?_, ?_⟩
      · by_cases e : p = rk9 (stJ M q j)
        · subst e
          show upN _ _ _ _ = _ ∨ upN _ _ _ _ ≤ _
          rw [upN_self]
          right
          exact Nat.le_trans (Nat.min_le_right _ _) (by omega)
        · show upN _ _ _ _ = _ ∨ upN _ _ _ _ ≤ _
          rw [upN_ne e]; exact hw.2 p
      · show upN _ _ _ _ ≤ _
        rw [upN_ne (by omega)]; exact ha
      · show upN _ _ _ _ = _
        rw [upN_ne (by omega)]
def WX (X X' : VT) (sp : Nat) (w : WS) : Prop := (∀ a, a ≠ 10 → a ≠ 11 → a ≠ 12 → X' a = X a) ∧ X' 10 2 = nI sp ∧ X' 10 3 = nI w.1 ∧ X' 10 4 = w.2.2 ∧ ∀ q, q < 2376 → X' 11 q = nI (w.2.1 q)
theorem imn_nI {a b : Nat} (ha : a < 2 ^ 31) (hb : b < 2 ^ 31) : imn (nI a) (nI b) = nI (min a b) := by
  show (if nI b < nI a then nI b else nI a) = _
  by_cases c : nI b < nI a
  · rw [if_pos c]
    rw [nI_ltI hb ha] at c
    rw [Nat.min_eq_right (by omega)]
  · rw [if_neg c]
    rw [nI_ltI hb ha] at c
    rw [Nat.min_eq_left (by omega)]
theorem imx0_nI {a : Nat} (ha : a < 2 ^ 31) : imx 0 (nI a) = nI a := by
  show (if 0 < nI a then nI a else 0) = _
  by_cases c : 0 < nI a
  · rw [if_pos c]
  · rw [if_neg c]
    rw [show (0 : Int32) = nI 0 from rfl, nI_ltI (by decide) ha] at c
    have : a = 0 := by omega
    subst this
    rfl
theorem x_reach {X : VT} {p : Nat} {c : Int32} {K : VT → Prop} (hp : p < 2376) (h : K (up2 X 11 p (imn (X 11 p) c))) : wp_X4_reach X (nI p) c K := by
  have e : (nI p).toNatClampNeg = p := nI_c (by omega)
  refine isOut_in (nI_pos (by omega)) ?_ ⟨fun q => absurd rfl q, fun _ => ⟨vpn hp (by decide), vpn hp (by decide), ?_⟩⟩
  · rw [show (1 : Int32) = nI 1 from rfl, pk_sub (by decide)]
    exact nI_le (by omega) (by decide)
  · rw [e]
    exact fun V6 e6 => by subst e6; exact h
theorem oW {T j : Nat} {bt : Bool} (hj : j < T + 1) (hT : T ≤ 5) (a : Nat) : (0 ≤ tJ j → nI a + (oM bt + oT bt) * 8 = nI (a + 8 * wJ bt j)) ∧ (¬ 0 ≤ tJ j → nI a + (oM bt + 0) * 8 = nI (a + 8 * wJ bt j)) := by
  have e := tJ_i (j := j) (by omega)
  refine ⟨fun c => ?_, fun c => ?_⟩
  · rw [i_le, t0, e] at c
    have : wJ bt j = 1 := by unfold wJ; rw [if_neg (by omega)]
    rw [this, show (oM bt + oT bt) * 8 = nI 8 by cases bt <;> rfl, nI_add]
  · rw [i_le, t0, e] at c
    have z : j = 0 := by omega
    subst z
    cases bt with
    | false => rw [show (oM false + 0) * 8 = nI 8 from rfl, nI_add]; rfl
    | true => rw [show (oM true + 0) * 8 = nI 0 from rfl, nI_add]; rfl
theorem x_spread_L {X M : VT} {Y T sp q : Nat} {bt : Bool} {K : VT → Prop} (hL : LR X 16 (M 5) (fun i => M 0 (16 + i)) Y T) (hY : 0 < Y) (hq : q < 99 * Y) (hsp : sp < 2376) : ∀ (m j : Nat) (X' : VT) (w : WS), j + m = T + 1 → WX X X' sp w → WB w → w.2.1 q ≤ 13 * (q / 99) →
    (∀ X'', WX X X'' sp (spN M bt sp q m j w) → WB (spN M bt sp q m j w) → K X'') → wp_X4_spread_L3 K (m + 1) X' 16 (nI q) (oT bt) (oM bt) (tJ j) := by
  have hT := hL.1.2.1
  have hY24 := hL.1.1
  intro m
  induction m with
  | zero =>
    intro j X' w hj hx hb ha h
    have : j = T + 1 := by omega
    subst this
    refine ⟨fun _ => h X' hx hb, fun c => absurd ?_ c⟩
    rw [hx.1 16 (by decide) (by decide) (by decide), hL.2.2.1.1, tJ_s]
    exact nI_le (Nat.le_refl _) (by omega)
  | succ m ih =>
    intro j X' w hj hx hb ha h
    obtain ⟨x1, x2, x3, x4, x5⟩ := id hx
    obtain ⟨fv, hv⟩ := hL.2.2.2.2.2.2.2.2.2 hY
    have h0 := hL.2.1.2
    have hjT : j < T + 1 := by omega
    refine ⟨fun c => absurd c ?_, fun _ => ?_⟩
    · rw [x1 16 (by decide) (by decide) (by decide), hL.2.2.1.1, i_le, nI_toInt (by omega), tJ_i (by omega)]
      omega
    · refine x_stand (fun X2 f2 g2 => ?_)
      have g2' : hp X2 12 = st9 q := g2.trans (su9 (by omega))
      have L2 : LR X2 16 (M 5) (fun i => M 0 (16 + i)) Y T := hL.cg (by rw [f2 _ (by decide)]; exact x1 _ (by decide) (by decide) (by decide)) (by rw [f2 _ (by decide)]; exact x1 _ (by decide) (by decide) (by decide)) (by rw [f2 _ (by decide)]; exact x1 _ (by decide) (by decide) (by decide)) (by rw [f2 _ (by decide)]; exact x1 _ (by decide) (by decide) (by decide)) (by rw [f2 _ (by decide)]; exact x1 _ (by decide) (by decide) (by decide)) rfl (fun _ _ => rfl)
      refine x_kindT L2 (tJ_T hjT) (x_forceT L2 (tJ_T hjT) ?_)
      refine x_pass L2 hY (tJ_T hjT) (by decide) (st9_sv hY24 hq).1 g2' (fun X3 f3 g3 => ⟨vpn (by omega) (by decide), ?_⟩)
      have g3' : hp X3 12 = stJ M q j := g3
      have fx : fr X' X3 12 := f2.tr f3
      have hc := coJ_le (sp := sp) (bt := bt) hT hjT ha
      obtain ⟨b1, b2, b3⟩ := spJ_WB (sp := sp) (bt := bt) hY24 hT h0 fv hq hjT hb ha
      have r := nxt_rng (t := tJ j) hY24 h0 fv (st9_sv hY24 hq).1
      simp only [hp] at g3'
      have e0 : X3 12 0 = (stJ M q j).1 := by rw [← g3']
      have e1 : X3 12 1 = (stJ M q j).2.1 := by rw [← g3']
      have e2 : X3 12 2 = (stJ M q j).2.2.1 := by rw [← g3']
      have e3 : X3 12 3 = (stJ M q j).2.2.2 := by rw [← g3']
      have W3 : WX X X3 sp w := ⟨fun a p1 p2 p3 => by rw [fx a p3]; exact x1 a p1 p2 p3, by rw [fx 10 (by decide)]; exact x2, by rw [fx 10 (by decide)]; exact x3, by rw [fx 10 (by decide)]; exact x4, fun i hi => by rw [fx 11 (by decide)]; exact x5 i hi⟩
      obtain ⟨-, y2, y3, y4, y5⟩ := id W3
      have next : ∀ X4 : VT, WX X X4 sp (spJ M bt sp q j w) → wp_X4_spread_L3 K (m + 1) X4 16 (nI q) (oT bt) (oM bt) (nI j) := by
        intro X4 w4
        rw [← tJ_s]
        exact ih (j + 1) X4 _ (by omega) w4 b1 b2 h
      have core : ∀ cst : Int32, cst = nI (coJ bt sp q j w) → wp_X4_spread_b100 K (wp_X4_spread_L3 K (m + 1)) X3 16 (nI q) (oT bt) (oM bt) (tJ j) cst := by
        intro cst ec
        subst ec
        unfold wp_X4_spread_b100 wp_X4_spread_b172 wp_X4_placeOf
        rw [e0, e1, e2, e3, tJ_1, y3, y4]
        refine ⟨fun c2 => ⟨fun c1 => ?_, fun c1 => ?_⟩, fun c2 => ?_⟩
        · have z0 : (stJ M q j).2.2.2 = 0 := by
            rcases r.1 with e | e | e
            · exact e
            · exact absurd e c1
            · exact absurd e c2
          have s1 : sv1 Y (stJ M q j) := nxt_sv1 hY24 h0 fv (st9_sv hY24 hq).1 z0
          have lt := rk9_lt s1
          rw [pl9 hY24 s1]
          refine x_reach (by omega) (next _ ?_)
          have bq : w.2.1 (rk9 (stJ M q j)) ≤ 8000000 := by
            rcases hb.2 (rk9 (stJ M q j)) with e | e <;> omega
          rw [y5 _ (by omega), imn_nI (by omega) (by omega)]
          unfold spJ
          rw [if_neg c2, if_neg c1]
          refine ⟨fun a p1 p2 p3 => by rw [up2_ne p2]; exact W3.1 a p1 p2 p3, by rw [up2_ne (by decide)]; exact y2, by rw [up2_ne (by decide)]; exact y3, by rw [up2_ne (by decide)]; exact y4, fun i hi => ?_⟩
          by_cases e : i = rk9 (stJ M q j)
          · subst e; rw [up2_self]; show _ = nI (upN _ _ _ _); rw [upN_self]
          · rw [up2_selfn e]; show _ = nI (upN _ _ _ _); rw [upN_ne e]; exact y5 i hi
        · intro V16 e16
          refine next _ ?_
          unfold spJ
          rw [if_neg c2, if_pos c1, e16]
          exact ⟨fun a p1 p2 p3 => by rw [up2_ne p1]; exact W3.1 a p1 p2 p3, by rw [up2_selfn (by decide)]; exact y2, by rw [up2_selfn (by decide)]; exact y3, by rw [up2_self]; rfl, fun i hi => by rw [up2_ne (by decide)]; exact y5 i hi⟩
        · intro V17 e17
          refine next _ ?_
          unfold spJ
          rw [if_pos c2, e17]
          refine ⟨fun a p1 p2 p3 => by rw [up2_ne p1]; exact W3.1 a p1 p2 p3, by rw [up2_selfn (by decide)]; exact y2, ?_, by rw [up2_selfn (by decide)]; exact y4, fun i hi => by rw [up2_ne (by decide)]; exact y5 i hi⟩
          rw [up2_self]
          have := hb.1
          exact imn_nI (by omega) (by omega)
      have b76 : ∀ s1 s2 : Int32, nI (w.2.1 q) + (s1 + s2) * 8 = nI (w.2.1 q + 8 * wJ bt j) → wp_X4_spread_b76 K (wp_X4_spread_L3 K (m + 1)) X3 16 (nI q) (oT bt) (oM bt) (tJ j) (X3 11 (nI q).toNatClampNeg) s1 s2 := by
        intro s1 s2 es
        unfold wp_X4_spread_b76
        rw [nI_c (by omega), y5 q (by omega), es, y2, tJ_1]
        refine ⟨fun c => core _ ?_, fun c => core _ ?_⟩
        · unfold coJ
          rw [if_neg (fun e => c (by rw [e])), Nat.add_zero]
        · unfold coJ
          rw [if_pos ((nI_eq (by omega) (by omega)).mp c), nI_add]
      have ow := oW (bt := bt) hjT hT (w.2.1 q)
      exact ⟨fun c => b76 _ _ (ow.1 c), fun c => b76 _ _ (ow.2 c)⟩
theorem x_walk_L {X M : VT} {Y T sp bl : Nat} {bt : Bool} {K : VT → Prop} (hL : LR X 16 (M 5) (fun i => M 0 (16 + i)) Y T) (hY : 0 < Y) (hsp : sp < 2376) (hbl : bl ≤ 1000000) : ∀ (m q : Nat) (X' : VT) (w : WS), q + m = 99 * Y → WX X X' sp w → WB w →
    (∀ X'', WX X X'' sp (wkN M T bt sp bl m q w) → WB (wkN M T bt sp bl m q w) → K X'') → wp_X4_walk_L67 K (m + 1) X' 16 (oT bt) (oM bt) (nI bl) (nI q) := by
  have hT := hL.1.2.1
  have hY24 := hL.1.1
  intro m
  induction m with
  | zero =>
    intro q X' w hq hx hb h
    refine ⟨fun _ => h X' hx hb, fun c => absurd ?_ c⟩
    rw [hx.1 16 (by decide) (by decide) (by decide), hL.2.1.1, show (99 : Int32) = nI 99 from rfl, pk_mul]
    exact nI_le (by omega) (by omega)
  | succ m ih =>
    intro q X' w hq hx hb h
    refine ⟨fun c => absurd c ?_, fun _ => ⟨vpn (by omega) (by decide), ?_⟩⟩
    · rw [hx.1 16 (by decide) (by decide) (by decide), hL.2.1.1, show (99 : Int32) = nI 99 from rfl, pk_mul]
      exact nI_ge (by omega) (by omega)
    · have bq : w.2.1 q ≤ 8000000 := by
        rcases hb.2 q with e | e <;> omega
      unfold wp_X4_walk_b104
      rw [nI_c (by omega), hx.2.2.2.2 q (by omega), show (8 : Int32) = nI 8 from rfl, pk_mul, nI_leI (by omega) (by omega), nI_1]
      unfold wkN at h
      refine ⟨fun c => ?_, fun c => ?_⟩
      · rw [if_neg (by omega)] at h
        exact ih (q + 1) X' w (by omega) hx hb h
      · rw [if_pos (by omega)] at h
        have ha : w.2.1 q ≤ 13 * (q / 99) := by
          rcases hb.2 q with e | e
          · omega
          · exact e
        exact ⟨T + 2, x_spread_L hL hY (by omega) hsp (T + 1) 0 X' w (by omega) hx hb ha (fun X2 w2 b2 => ih (q + 1) X2 _ (by omega) w2 b2 h)⟩
def wk0 (sp : Nat) : WS := (8000000, fun p => if p = sp then 0 else 8000000, 0)
def wkE (M : VT) (Y T : Nat) (bt : Bool) (s : H4) (bl : Nat) : WS := wkN M T bt (rk9 s) bl (99 * Y - rk9 s) (rk9 s) (wk0 (rk9 s))
theorem wk0_B (sp : Nat) : WB (wk0 sp) := by
  refine ⟨Nat.le_refl _, fun p => ?_⟩
  show (if p = sp then 0 else 8000000) = 8000000 ∨ (if p = sp then 0 else 8000000) ≤ _
  split
  · right; omega
  · left; rfl
theorem n8M : (8000000 : Int32) = nI 8000000 := by decide +kernel
theorem x_walk {X M : VT} {k Y T bl : Nat} {s : H4} {bt : Bool} {K : VT → Prop} (hL : LR X 16 (M 5) (fun i => M 0 (16 + i)) Y T) (hY : 0 < Y) (hk : k ≠ 10 ∧ k ≠ 11 ∧ k ≠ 12) (hX : hp X k = s) (hs : sv1 Y s) (hbl : bl ≤ 1000000) (h : ∀ X', WX X X' (rk9 s) (wkE M Y T bt s bl) → WB (wkE M Y T bt s bl) → K X') : wp_X4_walk X 16 k (oT bt) (oM bt) (nI bl) K := by
  have hY24 := hL.1.1
  have lt := rk9_lt hs
  have e3 : X k 3 = 0 := by
    have := hs.1.1
    rw [← hX] at this; exact this
  refine ⟨fun _ => ?_, fun c => absurd (e3.symm.trans c) (by decide)⟩
  intro V2 e2 V3 e3'
  have f3 : ∀ a, a ≠ 10 → V3 a = X a := fun a ha => by rw [e3', up2_ne ha, e2, up2_ne ha]
  have h103 : V3 10 3 = nI 8000000 := by rw [e3', up2_selfn (by decide), e2, up2_self, n8M]
  have h104 : V3 10 4 = 0 := by rw [e3', up2_self]
  rw [f3 k hk.1, e3]
  refine ⟨fun _ => s_fill (by decide) (fun V5 f5 g5 => ?_), fun c => absurd rfl c⟩
  unfold wp_X4_placeOf
  have hX5 : hp V5 k = s := by
    rw [← hX]
    simp only [hp, f5 k hk.2.1, f3 k hk.1]
  have pl := pl9 hY24 hs
  rw [← hX5] at pl
  have pl' : V5 k 0 * 99 + (V5 k 1 - 1) * 11 + V5 k 2 + 5 = nI (rk9 (hp V5 k)) := pl
  rw [hX5] at pl'
  rw [pl']
  intro V8 e8
  have e82 : V8 10 2 = nI (rk9 s) := by rw [e8, up2_self]
  rw [e82]
  refine x_reach (by omega) ?_
  have c9 : ∀ i, i < 2376 → V8 11 i = nI 8000000 := fun i hi => by rw [e8, up2_ne (by decide), g5 i hi, n8M]
  rw [c9 _ (by omega), show (0 : Int32) = nI 0 from rfl, imn_nI (by decide +kernel) (by decide), up2_ne (show (10 : Nat) ≠ 11 by decide), e82, show nI 0 = (0 : Int32) from rfl, imx0_nI (by omega)]
  refine ⟨99 * Y - rk9 s + 1, x_walk_L hL hY (by omega) hbl (99 * Y - rk9 s) (rk9 s) _ (wk0 (rk9 s)) (by omega) ⟨fun a p1 p2 p3 => ?_, ?_, ?_, ?_, fun i hi => ?_⟩ (wk0_B _) h⟩
  · rw [up2_ne p2, e8, up2_ne p1, f5 a p2, f3 a p1]
  · rw [up2_ne (by decide)]; exact e82
  · rw [up2_ne (by decide), e8, up2_selfn (by decide), f5 10 (by decide)]; exact h103
  · rw [up2_ne (by decide), e8, up2_selfn (by decide), f5 10 (by decide)]; exact h104
  · by_cases e : i = rk9 s
    · subst e
      rw [up2_self]
      show _ = nI (if rk9 s = rk9 s then 0 else 8000000)
      rw [if_pos rfl]
      rfl
    · rw [up2_selfn e, c9 i hi]
      show _ = nI (if i = rk9 s then 0 else 8000000)
      rw [if_neg e]
