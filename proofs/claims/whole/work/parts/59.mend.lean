/-! mend -/
def fl (M : VT) (y : Nat) : VT := up2 M 5 (4 + y) 0
theorem fl_5 {M : VT} {y b : Nat} (h : b ≠ 4 + y) : fl M y 5 b = M 5 b := up2_selfn h
theorem fl_y {M : VT} {y : Nat} : fl M y 5 (4 + y) = 0 := up2_self
theorem fl_0 {M : VT} {y : Nat} : fl M y 0 = M 0 := up2_ne (by decide)
theorem hm_fl {M : VT} {y : Nat} : hm (fl M y) = hm M := by simp only [hm, fl_0]
theorem FV_fl {M : VT} {Y T y : Nat} (hy : y < 24) (fv : FV Y T (M 5)) : FV Y T (fl M y 5) := by
  obtain ⟨a, b, c, d, e, f⟩ := fv
  have e2 : fl M y 5 2 = M 5 2 := fl_5 (by omega)
  have e3 : fl M y 5 3 = M 5 3 := fl_5 (by omega)
  unfold FV
  rw [e2, e3]
  refine ⟨a, b, c, d, fun i hi => ?_, fun i hi => ?_⟩
  · by_cases q : i = y
    · rw [q, fl_y]; decide
    · rw [fl_5 (by omega)]; exact e i hi
  · rw [fl_5 (by omega), fl_5 (by omega)]; exact f i hi
theorem fl_flat {M : VT} {y : Nat} (h : M 5 (4 + y) = 0) : fl M y = M := by
  funext a b
  unfold fl up2
  by_cases c : a = 5 ∧ b = 4 + y
  · rw [if_pos c, c.1, c.2, h]
  · rw [if_neg c]
theorem nxt_fl {M : VT} {Y y : Nat} {t : Int32} {s : H4} (hY : Y ≤ 24) (h0 : M 5 0 = nI Y) (hy : y < 24) (hs : sv Y s) (hle : (y : Int) ≤ s.1.toInt) : nxt (fl M y) t s = nxt M t s := by
  have hk : tk (fl M y) t = tk M t := by unfold tk; rw [fl_5 (by omega)]
  have hf : tf (fl M y) t = tf M t := by unfold tf; rw [fl_5 (by omega)]
  have e0 : fl M y 5 0 = M 5 0 := fl_5 (by omega)
  have e2 : fl M y 5 2 = M 5 2 := fl_5 (by omega)
  have e3 : fl M y 5 3 = M 5 3 := fl_5 (by omega)
  unfold nxt
  rw [hk, hf, e0, e2, e3, h0]
  exact goF_gr hY ⟨hs.2.1.1, by have := hs.2.1.2; omega⟩ hs.2.2.1 (fun i h1 _ => fl_5 (by omega))
theorem DD_fl {M : VT} {Y T y : Nat} {bt : Bool} (hY : Y ≤ 24) (h0 : M 5 0 = nI Y) (fv : FV Y T (M 5)) (hy : y < 24) : ∀ (n : Nat) (s : H4), sv Y s → (y : Int) ≤ s.1.toInt → DD (fl M y) T bt n s = DD M T bt n s := by
  intro n
  induction n with
  | zero => intro s _ _; rfl
  | succ n ih =>
    intro s hs hle
    rw [DD, DD]
    refine mnc_cong (fun j hj => ?_)
    unfold cJ
    rw [nxt_fl hY h0 hy hs hle]
    have hr := nxt_rng (t := tJ j) hY h0 fv hs
    split
    · rfl
    · split
      · rfl
      · rename_i c1 c2
        have e0 : (nxt M (tJ j) s).2.2.2 = 0 := by
          rcases hr.1 with e | e | e
          · exact e
          · exact absurd e c2
          · exact absurd e c1
        have := hr.2.1 e0
        rw [ih _ (nxt_sv hY h0 fv hs e0) (by omega)]
theorem DD_cg {M M' : VT} {T : Nat} {bt : Bool} (h : M' 5 = M 5) : ∀ (n : Nat) (s : H4), DD M' T bt n s = DD M T bt n s := by
  intro n
  induction n with
  | zero => intro s; rfl
  | succ n ih =>
    intro s
    rw [DD, DD]
    refine mnc_cong (fun j hj => ?_)
    unfold cJ
    rw [nxt_cg h, ih]
def oD (M : VT) (T : Nat) : Nat := if M 0 19 = 0 then DD M T true 24 (hm M) else if M 0 19 = 2 then 0 else 9999
theorem oD_le (M : VT) (T : Nat) : oD M T ≤ 9999 := by
  unfold oD
  split
  · exact DD_le M T true 24 (hm M)
  · split <;> omega
theorem oD_cg {M M' : VT} {T : Nat} (h5 : M' 5 = M 5) (h : hm M' = hm M) : oD M' T = oD M T := by
  have e : M' 0 19 = M 0 19 := congrArg (fun s : H4 => s.2.2.2) h
  unfold oD
  rw [e, h, DD_cg h5]
theorem oD_fl {M : VT} {Y T y : Nat} (hY : Y ≤ 24) (h0 : M 5 0 = nI Y) (fv : FV Y T (M 5)) (hv : HV Y (fun i => M 0 (16 + i))) (hy : y < 24) (hle : (y : Int) ≤ (M 0 16).toInt) : oD (fl M y) T = oD M T := by
  unfold oD
  rw [hm_fl, fl_0]
  by_cases e0 : M 0 19 = 0
  · rw [if_pos e0, if_pos e0]
    exact DD_fl hY h0 fv hy 24 (hm M) (HV_sv hv e0) hle
  · rw [if_neg e0, if_neg e0]
theorem m_wayO {M : VT} {Y T : Nat} {K : Int32 → VT → Prop} (hY : Y ≤ 24) (hY0 : 0 < Y) (hT : T ≤ 5) (h0 : M 5 0 = nI Y) (h1 : M 5 1 = nI T) (fv : FV Y T (M 5)) (hv : HV Y (fun i => M 0 (16 + i))) (h : ∀ M', Ms M M' → K (if oD M T < 9999 then nI (oD M T) else -1000000) M') : wp_X8_way M 1 0 K := by
  by_cases e0 : M 0 19 = 0
  · have eo : oD M T = DD M T true 24 (hm M) := if_pos e0
    rw [eo] at h
    exact m_way (bt := true) hY hY0 hT h0 h1 fv (HV_sv1 hv e0) (fun M' ms hd _ => by have := h M' ms; rw [if_pos hd] at this; exact this) (fun M' j _ _ z => absurd rfl z) (fun M' ms hd => by have := h M' ms; rw [if_neg hd] at this; exact this)
  · by_cases e2 : M 0 19 = 2
    · have eo : oD M T = 0 := (if_neg e0).trans (if_pos e2)
      rw [eo] at h
      exact ⟨fun c => absurd c e0, fun _ => ⟨fun c => absurd e2 c, fun _ => ⟨fun c => absurd rfl c, fun _ => h M Ms.rf⟩⟩⟩
    · have eo : oD M T = 9999 := (if_neg e0).trans (if_neg e2)
      rw [eo] at h
      exact ⟨fun c => absurd c e0, fun _ => ⟨fun _ => h M Ms.rf, fun c => absurd c e2⟩⟩
theorem x_walkO {X M : VT} {Y T bl : Nat} {K : VT → Prop} (hL : LR X 16 (M 5) (fun i => M 0 (16 + i)) Y T) (hY : 0 < Y) (b1 : 1 ≤ bl) (hbl : bl ≤ 1000000) (h : ∀ (X' : VT) (c : Nat), (∀ a, a ≠ 10 → a ≠ 11 → a ≠ 12 → X' a = X a) → X' 10 3 / 8 = nI c → c ≤ 1000000 → (oD M T < bl → oD M T < 9999 → c = oD M T) → (bl ≤ oD M T → bl ≤ c) → (oD M T = 9999 → c = 1000000) → K X') : wp_X4_walk X 16 20 1 0 (nI bl) K := by
  obtain ⟨fv, hv⟩ := hL.2.2.2.2.2.2.2.2.2 hY
  have e20 : X 20 3 = M 0 19 := hL.2.2.2.2.2.2.2.2.1 3 (by decide)
  have h0 := hL.2.1.2
  have hY24 := hL.1.1
  have hT := hL.1.2.1
  by_cases e0 : M 0 19 = 0
  · have s1 := HV_sv1 hv e0
    have eo : oD M T = DD M T true 24 (hm M) := if_pos e0
    refine x_walk (bt := true) hL hY (by decide) (hp20 hL) s1 hbl (fun X' W wb => ?_)
    obtain ⟨i1, i2⟩ := wk_IC (bt := true) hY24 hT h0 fv s1 b1 hbl
    have w1 := wb.1
    rw [eo] at h
    have dl := DD_le M T true 24 (hm M)
    refine h X' ((wkE M Y T true (hm M) bl).1 / 8) W.1 (by rw [W.2.2.1, show (8 : Int32) = nI 8 from rfl, pk_div (by omega) (by decide) (by decide)]) (by omega) (fun c1 c2 => ?_) (fun c1 => ?_) (fun c1 => ?_)
    · obtain ⟨j, j1, -, -, j4⟩ := EE_val hY24 hT h0 fv s1.1 c2
      have := i2 (by omega)
      omega
    · by_cases c2 : DD M T true 24 (hm M) < 9999
      · obtain ⟨j, j1, -, -, j4⟩ := EE_val hY24 hT h0 fv s1.1 c2
        omega
      · have := EE_inf (bt := true) hY24 h0 fv s1.1 c2
        omega
    · have := EE_inf (bt := true) hY24 h0 fv s1.1 (show ¬ DD M T true 24 (hm M) < 9999 by omega)
      omega
  · refine x_walkE (by decide) (by rw [e20]; exact e0) (fun X' W e3 _ => ?_)
    rw [e20] at e3
    by_cases e2 : M 0 19 = 2
    · have eo : oD M T = 0 := (if_neg e0).trans (if_pos e2)
      rw [if_pos e2] at e3
      exact h X' 0 (fun a p1 _ _ => W a p1) (by rw [e3]; decide) (by decide) (fun _ _ => eo.symm) (fun c => by omega) (fun c => by omega)
    · have eo : oD M T = 9999 := (if_neg e0).trans (if_neg e2)
      rw [if_neg e2] at e3
      exact h X' 1000000 (fun a p1 _ _ => W a p1) (by rw [e3]; decide +kernel) (Nat.le_refl _) (fun _ c => by omega) (fun _ => hbl) (fun _ => rfl)
theorem LR.flat {X M : VT} {Y T y : Nat} (H : LR X 16 (M 5) (fun i => M 0 (16 + i)) Y T) (hy : y < Y) : LR (up2 X 17 y 0) 16 (fl M y 5) (fun i => fl M y 0 (16 + i)) Y T := by
  obtain ⟨a, b, c, d, e, g, i1, i2, i3, i4⟩ := H
  have n : ∀ q, q ≠ 17 → up2 X 17 y 0 q = X q := fun q hq => up2_ne hq
  have e0 : fl M y 5 0 = M 5 0 := fl_5 (by omega)
  have e1 : fl M y 5 1 = M 5 1 := fl_5 (by omega)
  have e2 : fl M y 5 2 = M 5 2 := fl_5 (by omega)
  have e3 : fl M y 5 3 = M 5 3 := fl_5 (by omega)
  unfold LR
  rw [e0, e1, e2, e3, fl_0, n 16 (by decide), n (16 + 2) (by decide), n (16 + 3) (by decide), n (16 + 4) (by decide)]
  refine ⟨a, b, c, d, e, g, fun i hi => ?_, fun i hi => ?_, i3, fun q => ⟨FV_fl (by omega) (i4 q).1, (i4 q).2⟩⟩
  · by_cases z : i = y
    · rw [z, fl_y]; exact up2_self
    · rw [fl_5 (by omega), ← i1 i hi]; exact up2_selfn z
  · rw [fl_5 (by omega), fl_5 (by omega)]; exact i2 i hi
def mB (f : Nat) : Nat := if f < 9999 then f else 1000000
theorem mB_le {f : Nat} : mB f ≤ 1000000 := by
  unfold mB
  split <;> omega
theorem x_flat {X M : VT} {Y T y f : Nat} {K : Int32 → VT → Prop} (hL : LR X 16 (M 5) (fun i => M 0 (16 + i)) Y T) (hY : 0 < Y) (hy : y < Y) (f0 : 0 < f) (f1 : f ≤ 9999) (f2 : f ≤ oD M T) (h : ∀ (X' : VT) (c : Nat), XF X X' → c ≤ 1000000 → (oD (fl M y) T < f → c = oD (fl M y) T) → (f ≤ oD (fl M y) T → mB f ≤ c) → K (nI c) X') : wp_X7_fewestIfFlat X (nI y) (nI (mB f)) K := by
  have hY24 := hL.1.1
  have eg : X 17 y = M 5 (4 + y) := hL.2.2.2.2.2.2.1 y hy
  have cy : (nI y).toNatClampNeg = y := nI_c (by omega)
  unfold wp_X7_fewestIfFlat
  rw [cy, eg]
  have ml := @mB_le f
  refine ⟨vpn (by omega) (by decide), fun c => ⟨vpn (by omega) (by decide), ?_⟩, fun c => ?_⟩
  · intro V4 e4
    subst e4
    have o9 := oD_le (fl M y) T
    refine x_walkO (M := fl M y) (hL.flat hy) hY (by unfold mB; split <;> omega) ml (fun X5 c g1 g2 g3 g4 g5 g6 => ⟨vpn (by omega) (by decide), ?_⟩)
    intro V7 e7
    have e10 : V7 10 = X5 10 := by rw [e7, up2_ne (by decide)]
    unfold wp_X4_cost
    rw [e10, g2]
    refine h V7 c (fun a u1 u2 u3 _ => ?_) g3 (fun z => ?_) (fun z => ?_)
    · by_cases q : a = 17
      · rw [q, e7]
        funext b
        by_cases qb : b = y
        · rw [qb, up2_self, eg]
        · rw [up2_selfn qb, g1 17 (by decide) (by decide) (by decide), up2_selfn qb]
      · rw [e7, up2_ne q, g1 a u1 u2 u3, up2_ne q]
    · unfold mB at g4
      by_cases q : f < 9999
      · rw [if_pos q] at g4; exact g4 z (by omega)
      · rw [if_neg q] at g4; exact g4 (by omega) (by omega)
    · by_cases q : f < 9999
      · have : mB f = f := if_pos q
        rw [this] at g5 ⊢
        exact g5 z
      · have := g6 (by omega)
        omega
  · have e := fl_flat c
    refine h X (mB f) (fun _ _ _ _ _ => rfl) ml (fun z => ?_) (fun _ => Nat.le_refl _)
    rw [e] at z
    omega
def mdF (M : VT) (T : Nat) : Nat → Nat × Nat
  | 0 => (9999, 0)
  | y + 1 => if oD (fl M y) T < (mdF M T y).1 then (oD (fl M y) T, y) else mdF M T y
theorem mdF_le (M : VT) (T : Nat) : ∀ y, (mdF M T y).1 ≤ 9999 ∧ (mdF M T y).2 ≤ y
  | 0 => ⟨Nat.le_refl _, Nat.le_refl _⟩
  | y + 1 => by
    rw [mdF]
    have ih := mdF_le M T y
    split
    · exact ⟨oD_le _ _, Nat.le_succ y⟩
    · exact ⟨ih.1, Nat.le_succ_of_le ih.2⟩
theorem mdF_ge {M : VT} {T y : Nat} : (mdF M T (y + 1)).1 ≤ (mdF M T y).1 := by
  rw [mdF]
  split
  · rename_i c; exact Nat.le_of_lt c
  · exact Nat.le_refl _
theorem mdF_0 {M : VT} {T k : Nat} (h : (mdF M T k).1 = 0) : ∀ m, mdF M T (k + m) = mdF M T k
  | 0 => rfl
  | m + 1 => by
    have e := mdF_0 h m
    show mdF M T (k + m + 1) = _
    rw [mdF, e, h, if_neg (Nat.not_lt_zero _)]
theorem mdF_hd {M : VT} {T : Nat} : ∀ k, (∀ y, y < k + 1 → oD (fl M y) T = oD M T) → mdF M T (k + 1) = (oD M T, 0)
  | 0, h => by
    rw [mdF, mdF, h 0 (by omega)]
    have := oD_le M T
    split
    · rfl
    · rename_i c
      have c' : ¬ oD M T < 9999 := c
      have : oD M T = 9999 := by omega
      rw [this]
  | k + 1, h => by
    rw [mdF, mdF_hd k (fun y hy => h y (by omega)), h (k + 1) (by omega), if_neg (Nat.lt_irrefl _)]
def mdR (p : Nat × Nat) (w : Int32) : Int32 := if p.1 < 9999 then (if w = 0 then nI p.2 else nI p.1) else -1000000
theorem x_mend_e {X : VT} {p : Nat × Nat} {w : Int32} {K : Int32 → VT → Prop} (h : K (mdR p w) X) : wp_X7_mend_b114 K X w (nI (mB p.1)) (nI p.2) := by
  unfold mdR at h
  unfold wp_X7_mend_b114 mB
  by_cases c : p.1 < 9999
  · rw [if_pos c] at h ⊢
    refine ⟨fun _ => ⟨fun z => ?_, fun z => ?_⟩, fun z => ?_⟩
    · rw [if_neg z] at h; exact h
    · rw [if_pos z] at h; exact h
    · rw [n1M] at z
      have := (nI_eq (by omega) (by decide)).mp z
      omega
  · rw [if_neg c] at h ⊢
    exact ⟨fun z => absurd n1M.symm z, fun _ => h⟩
theorem x_mend_L {X M : VT} {Y T : Nat} {w : Int32} {K : Int32 → VT → Prop} (hL : LR X 16 (M 5) (fun i => M 0 (16 + i)) Y T) (hY : 0 < Y) (h : ∀ X'', XF X X'' → K (mdR (mdF M T Y) w) X'') : ∀ (m k : Nat) (X' : VT), k + m = Y → XF X X' → (mdF M T k).1 ≤ oD M T → wp_X7_mend_L71 K (m + 1) X' w (nI (mB (mdF M T k).1)) (nI (mdF M T k).2) (nI k) := by
  have hY24 := hL.1.1
  intro m
  induction m with
  | zero =>
    intro k X' hk f hle
    have : k = Y := by omega
    subst this
    refine ⟨fun _ => x_mend_e (h X' f), fun c => absurd ?_ c⟩
    rw [f 16 (by decide) (by decide) (by decide) (by decide), hL.2.1.1]
    exact nI_le (Nat.le_refl _) (by omega)
  | succ m ih =>
    intro k X' hk f hle
    refine ⟨fun c => absurd c ?_, fun _ => ⟨fun c => ?_, fun c => ?_⟩⟩
    · rw [f 16 (by decide) (by decide) (by decide) (by decide), hL.2.1.1]
      exact nI_ge (by omega) (by omega)
    · have ml := @mB_le (mdF M T k).1
      rw [show (0 : Int32) = nI 0 from rfl, nI_leI (by omega) (by decide)] at c
      have z : (mdF M T k).1 = 0 := by
        unfold mB at c
        split at c <;> omega
      have e : mdF M T Y = mdF M T k := by
        rw [← hk]; exact mdF_0 z (m + 1)
      rw [e] at h
      exact x_mend_e (h X' f)
    · have ml := @mB_le (mdF M T k).1
      rw [show (0 : Int32) = nI 0 from rfl, nI_leI (by omega) (by decide)] at c
      have lim := mdF_le M T k
      have f0 : 0 < (mdF M T k).1 := by
        unfold mB at c
        split at c <;> omega
      refine x_flat (M := M) (hL.xf f) hY (by omega) f0 lim.1 hle (fun X2 c2 f2 g1 g2 g3 => ?_)
      have f02 : XF X X2 := fun a u1 u2 u3 u4 => (f2 a u1 u2 u3 u4).trans (f a u1 u2 u3 u4)
      have nx := ih (k + 1) X2 (by omega) f02 (Nat.le_trans mdF_ge hle)
      unfold wp_X7_mend_b108
      rw [nI_leI (by omega) (by omega), nI_1]
      rw [mdF] at nx
      refine ⟨fun q => ?_, fun q => ?_⟩
      · have : ¬ oD (fl M k) T < (mdF M T k).1 := by
          intro z
          have := g2 z
          unfold mB at q
          split at q <;> omega
        rw [if_neg this] at nx
        exact nx
      · have z : oD (fl M k) T < (mdF M T k).1 := by
          rcases Nat.lt_or_ge (oD (fl M k) T) (mdF M T k).1 with z | z
          · exact z
          · exact absurd (g3 z) q
        rw [if_pos z] at nx
        have e : mB (oD (fl M k) T) = c2 := by
          rw [g2 z]
          unfold mB
          rw [if_pos (by omega)]
        rw [← e]
        exact nx
theorem m_mend_L {M : VT} {Y T : Nat} {w : Int32} {K : Int32 → VT → Prop} (hY : Y ≤ 24) (hY0 : 0 < Y) (hT : T ≤ 5) (h0 : M 5 0 = nI Y) (h1 : M 5 1 = nI T) (fv : FV Y T (M 5)) (hv : HV Y (fun i => M 0 (16 + i))) (h : ∀ M', Ms M M' → K (mdR (mdF M T Y) w) M') : ∀ (m k : Nat) (M' : VT), k + m = Y → Ms M M' → wp_X8_mend_L33 K (m + 1) M' w (if (mdF M T k).1 < 9999 then nI (mdF M T k).2 else -1000000) (nI (mdF M T k).1) (nI k) := by
  intro m
  induction m with
  | zero =>
    intro k M' hk ms
    have : k = Y := by omega
    subst this
    have hK := h M' ms
    have lim := mdF_le M T k
    unfold mdR at hK
    refine ⟨vin (by decide), fun _ => ?_, fun c => absurd ?_ c⟩
    · by_cases c : (mdF M T k).1 < 9999
      · rw [if_pos c] at hK ⊢
        refine ⟨fun _ => ⟨fun z => ?_, fun z => ?_⟩, fun z => ?_⟩
        · rw [if_neg z] at hK; exact hK
        · rw [if_pos z] at hK; exact hK
        · have := @nI_pos (mdF M T k).2 (by omega)
          rw [z] at this
          exact absurd (by decide) this
      · rw [if_neg c] at hK ⊢
        exact ⟨fun z => absurd rfl z, fun _ => hK⟩
    · rw [cn0, ms.1 5 (by decide), h0]
      exact nI_le (Nat.le_refl _) (by omega)
  | succ m ih =>
    intro k M' hk ms
    have e4 : (4 : Int32) + nI k = nI (4 + k) := nI_add 4 k
    have c4 : (nI (4 + k)).toNatClampNeg = 4 + k := nI_c (by omega)
    have m5 : M' 5 = M 5 := ms.1 5 (by decide)
    have lim := mdF_le M T k
    have o9 := oD_le (fl M k) T
    refine ⟨vin (by decide), fun c => absurd c ?_, fun _ => ?_⟩
    · rw [cn0, m5, h0]
      exact nI_ge (by omega) (by omega)
    · rw [e4, c4]
      refine ⟨vpn (by omega) (by decide), vpn (by omega) (by decide), ?_⟩
      intro V11 e11
      have e11' : V11 = fl M' k := e11
      have s5 : V11 5 = fl M k 5 := by
        funext b
        rw [e11']
        by_cases q : b = 4 + k
        · rw [q, fl_y, fl_y]
        · rw [fl_5 q, fl_5 q, m5]
      have s0 : ∀ b, b ∈ [4, 8, 12, 15, 16, 17, 18, 19, 20, 22, 32] → V11 0 b = M 0 b := fun b hb => by rw [e11', fl_0]; exact ms.2 b hb
      have shm : hm V11 = hm M := by
        simp only [hm, s0 16 (by decide), s0 17 (by decide), s0 18 (by decide), s0 19 (by decide)]
      have so : oD V11 T = oD (fl M k) T := oD_cg s5 (shm.trans hm_fl.symm)
      have shv : HV Y (fun i => V11 0 (16 + i)) := by
        have z : ∀ i, i < 5 → V11 0 (16 + i) = M 0 (16 + i) := by
          intro i hi
          apply s0
          simp only [List.mem_cons, List.not_mem_nil, or_false]
          omega
        have z0 := z 0 (by decide)
        have z1 := z 1 (by decide)
        have z2 := z 2 (by decide)
        have z3 := z 3 (by decide)
        have z4 := z 4 (by decide)
        unfold HV at hv ⊢
        simp only at hv ⊢
        rw [z0, z1, z2, z3, z4]
        exact hv
      refine m_wayO hY hY0 hT (by rw [s5, fl_5 (by omega)]; exact h0) (by rw [s5, fl_5 (by omega)]; exact h1) (by rw [s5]; exact FV_fl (by omega) fv) shv (fun V12 m12 => ⟨vpn (by omega) (by decide), ?_⟩)
      rw [so]
      intro V15 e15
      have ms15 : Ms M V15 := by
        refine ⟨fun a ha => ?_, fun b hb => ?_⟩
        · by_cases q : a = 5
          · rw [q, e15]
            funext b
            by_cases qb : b = 4 + k
            · rw [qb, up2_self, m5]
            · rw [up2_selfn qb, m12.1 5 (by decide), e11', fl_5 qb, m5]
          · rw [e15, up2_ne q, m12.1 a ha, e11']
            show up2 M' 5 (4 + k) 0 a = M a
            rw [up2_ne q]
            exact ms.1 a ha
        · rw [e15, up2_ne (by decide), m12.2 b hb]
          exact s0 b hb
      have nx := ih (k + 1) V15 (by omega) ms15
      rw [mdF] at nx
      unfold wp_X8_mend_b101 wp_X8_mend_b102 wp_X8_mend_b115 wp_X8_mend_b127
      rw [nI_1]
      have keep : ¬ oD (fl M k) T < (mdF M T k).1 → wp_X8_mend_L33 K (m + 1) V15 w (if (mdF M T k).1 < 9999 then nI (mdF M T k).2 else -1000000) (nI (mdF M T k).1) (nI (k + 1)) := by
        intro z
        rw [if_neg z] at nx
        exact nx
      by_cases c : oD (fl M k) T < 9999
      · rw [if_pos c]
        refine ⟨fun z => ?_, fun _ => ⟨fun z => ?_, fun z => ?_⟩⟩
        · have := @nI_pos (oD (fl M k) T) (by omega)
          rw [z] at this
          exact absurd (by decide) this
        · rw [nI_leI (by omega) (by omega)] at z
          exact ⟨fun _ => ⟨fun _ => keep (by omega), fun q => absurd rfl q⟩, fun q => absurd rfl q⟩
        · rw [nI_leI (by omega) (by omega)] at z
          have lt : oD (fl M k) T < (mdF M T k).1 := by omega
          rw [if_pos lt] at nx
          have nx' : wp_X8_mend_L33 K (m + 1) V15 w (if oD (fl M k) T < 9999 then nI k else -1000000) (nI (oD (fl M k) T)) (nI (k + 1)) := nx
          rw [if_pos c] at nx'
          exact ⟨fun q => absurd q (by decide), fun _ => ⟨fun q => absurd q (by decide), fun _ => nx'⟩⟩
      · rw [if_neg c]
        have z : ¬ oD (fl M k) T < (mdF M T k).1 := by omega
        exact ⟨fun _ => ⟨fun _ => ⟨fun _ => keep z, fun q => absurd rfl q⟩, fun q => absurd rfl q⟩, fun q => absurd rfl q⟩
theorem q_mend {X M : VT} (H : RR X M) (w : Int32) : wp_X7_mend X w (fun r X' => wp_X8_mend M w (EQ r X')) := by
  obtain ⟨hs, Y, T, h0⟩ := id H
  obtain ⟨hL, isl⟩ := id h0.2.2.1
  unfold wp_X7_mend
  refine x_there hL.2.1.1 hL.1.1 ?_
  by_cases hY : 0 < Y
  · rw [if_pos hY]
    rw [if_pos hY] at isl
    obtain ⟨fv, hv⟩ := hL.2.2.2.2.2.2.2.2.2 hY
    have hY24 := hL.1.1
    refine ⟨fun _ => ?_, fun c => absurd c (by decide)⟩
    rcases in_or w 0 1 with ⟨r1, r2⟩ | hr
    · refine isOut_in r1 r2 ⟨fun _ => ?_, fun c => absurd rfl c⟩
      have fin : ∀ X'', XF X X'' → wp_X8_mend M w (EQ (mdR (mdF M T Y) w) X'') := fun X2 f2 => i_hd isl (in_in (lo := 0) (hi := 1) rfl rfl r1 r2 ⟨fun _ => ⟨Y + 1, m_mend_L hY24 hY hL.1.2.1 hL.2.1.2 hL.2.2.1.2 fv hv (fun M2 ms => ⟨rfl, H.cg f2.xs ms⟩) Y 0 M (by omega) Ms.rf⟩, fun c => absurd c (by decide)⟩)
      rw [n1M]
      refine x_walkO (M := M) hL hY (by decide) (Nat.le_refl _) (fun X1 c g1 g2 g3 g4 g5 g6 => ?_)
      refine x_cost g2 ?_
      have f1 : XF X X1 := fun a u1 u2 u3 _ => g1 a u1 u2 u3
      have o9 := oD_le M T
      have ec : c = mB (oD M T) := by
        unfold mB
        split
        · rename_i q; exact g4 (by omega) q
        · rename_i q; exact g6 (by omega)
      have e16 : X 20 0 = M 0 16 := hL.2.2.2.2.2.2.2.2.1 0 (by decide)
      have hv4 := hv.2.2.2.2
      have hv0 : 0 ≤ (M 0 16).toInt := hv4.1
      have hv1 : (M 0 16).toInt ≤ 24 := hv4.2
      obtain ⟨hy, hlt, ey⟩ := @nI_of (M 0 16) (by rw [i_lt, t0]; omega)
      have ty : (M 0 16).toInt = hy := by
        rw [ey]
        exact nI_toInt hlt
      have md : ∀ k, k ≤ hy → k < 24 → mdF M T (k + 1) = (oD M T, 0) := fun k k1 k2 => mdF_hd k (fun y hy' => oD_fl hY24 hL.2.1.2 fv hv (by omega) (by omega))
      rw [g1 20 (by decide) (by decide) (by decide), e16, ey, nI_1, ec]
      by_cases big : hy + 1 ≤ Y
      · have e := md hy (Nat.le_refl _) (by omega)
        have go := x_mend_L (w := w) (K := fun r X' => wp_X8_mend M w (EQ r X')) hL hY fin (Y - (hy + 1)) (hy + 1) X1 (by omega) f1 (by rw [e]; exact Nat.le_refl _)
        rw [e] at go
        exact ⟨_, go⟩
      · have e := md (Y - 1) (by omega) (by omega)
        rw [show Y - 1 + 1 = Y by omega] at e
        have fin1 := fin X1 f1
        rw [e] at fin1
        refine ⟨1, fun _ => x_mend_e (p := (oD M T, 0)) fin1, fun z => absurd ?_ z⟩
        rw [g1 16 (by decide) (by decide) (by decide), hL.2.1.1]
        exact nI_le (by omega) (by omega)
    · exact isOut_out hr ⟨fun c => absurd c (by decide), fun _ => i_hd isl (in_out (lo := 0) (hi := 1) rfl rfl hr ⟨fun c => absurd rfl c, fun _ => ⟨rfl, H⟩⟩)⟩
  · rw [if_neg hY]
    rw [if_neg hY] at isl
    exact ⟨fun c => absurd rfl c, fun _ => i_hd0 isl ⟨rfl, H⟩⟩
