/-! falls -/
def tb (x : Int32) (b : Nat) : Bool := x.toBitVec.getLsbD b
theorem tb_or (x y : Int32) (b : Nat) : tb (x ||| y) b = true ↔ tb x b = true ∨ tb y b = true := by
  unfold tb
  rw [Int32.toBitVec_or, BitVec.getLsbD_or, Bool.or_eq_true]
theorem tb_0 (b : Nat) : ¬ tb 0 b = true := by
  unfold tb
  rw [show (0 : Int32).toBitVec = 0#32 from rfl, BitVec.getLsbD_zero]
  exact Bool.false_ne_true
theorem tb_ext {x y : Int32} (h : ∀ b, b < 32 → (tb x b = true ↔ tb y b = true)) : x = y := by
  apply Int32.toBitVec_inj.mp
  exact BitVec.eq_of_getLsbD_eq (fun i hi => Bool.eq_iff_iff.mpr (h i hi))
theorem tb_bI {y b : Nat} (hy : y < 24) (hb : b < 32) : tb (bI (nI y)) b = true ↔ y = b := by
  have := (by decide +kernel : ∀ y, y < 24 → ∀ b, b < 32 → tb (bI (nI y)) b = decide (y = b)) y hy b hb
  rw [this, decide_eq_true_iff]
def FS (M : VT) (F : H4 → Nat → Prop) (s : H4) (b j : Nat) : Prop := ((nxt M (tJ j) s).2.2.2 = 1 ∧ (nxt M (tJ j) s).1 = nI b) ∨ ((nxt M (tJ j) s).2.2.2 = 0 ∧ F (nxt M (tJ j) s) b)
def FF (M : VT) (T : Nat) : Nat → H4 → Nat → Prop
  | 0, _, _ => False
  | n + 1, s, b => ∃ j, j < T + 1 ∧ FS M (FF M T n) s b j
theorem FF_fuel {M : VT} {Y T : Nat} (hY : Y ≤ 24) (h0 : M 5 0 = nI Y) (fv : FV Y T (M 5)) : ∀ (n : Nat) (s : H4) (b : Nat), sv Y s → (Y : Int) - s.1.toInt ≤ n → (FF M T (n + 1) s b ↔ FF M T n s b) := by
  intro n
  induction n with
  | zero =>
    intro s b hs h
    have := hs.2.1.2
    omega
  | succ n ih =>
    intro s b hs h
    have key : ∀ j, FS M (FF M T (n + 1)) s b j ↔ FS M (FF M T n) s b j := by
      intro j
      unfold FS
      have hr := nxt_rng (t := tJ j) hY h0 fv hs
      refine or_congr Iff.rfl (and_congr_right (fun e0 => ?_))
      have := hr.2.1 e0
      exact ih _ b (nxt_sv hY h0 fv hs e0) (by omega)
    show (∃ j, j < T + 1 ∧ FS M (FF M T (n + 1)) s b j) ↔ ∃ j, j < T + 1 ∧ FS M (FF M T n) s b j
    exact exists_congr (fun j => and_congr_right (fun _ => key j))
theorem FF_24 {M : VT} {Y T b : Nat} {s : H4} (hY : Y ≤ 24) (h0 : M 5 0 = nI Y) (fv : FV Y T (M 5)) (hs : sv Y s) : FF M T 24 s b ↔ ∃ j, j < T + 1 ∧ FS M (FF M T 24) s b j :=
  (FF_fuel hY h0 fv 24 s b hs (by have := hs.2.1.1; omega)).symm
theorem or_sh {A B C A' B' C' F : Prop} (hC : C ↔ F ∨ C') (h : (A ∨ B) ∨ F ↔ A' ∨ B') : (A ∨ B ∨ C) ↔ (A' ∨ B' ∨ C') := by
  have back : A' ∨ B' → A ∨ B ∨ C := fun z => (h.mpr z).elim (fun y => y.elim Or.inl (fun b => Or.inr (Or.inl b))) (fun f => Or.inr (Or.inr (hC.mpr (Or.inl f))))
  constructor
  · rintro (a | b | c)
    · exact (h.mp (Or.inl (Or.inl a))).elim Or.inl (fun z => Or.inr (Or.inl z))
    · exact (h.mp (Or.inl (Or.inr b))).elim Or.inl (fun z => Or.inr (Or.inl z))
    · rcases hC.mp c with f | c'
      · exact (h.mp (Or.inr f)).elim Or.inl (fun z => Or.inr (Or.inl z))
      · exact Or.inr (Or.inr c')
  · rintro (a | b | c)
    · exact back (Or.inl a)
    · exact back (Or.inr b)
    · exact Or.inr (Or.inr (hC.mpr (Or.inr c)))
theorem or_sh2 {A B F : Prop} (h : ¬ F) : (A ∨ B) ∨ F ↔ A ∨ B := ⟨fun z => z.elim id (fun f => absurd f h), Or.inl⟩
theorem or_shA {A B A' F : Prop} (h : A' ↔ A ∨ F) : (A ∨ B) ∨ F ↔ A' ∨ B := by
  constructor
  · rintro ((a | b) | f)
    · exact Or.inl (h.mpr (Or.inl a))
    · exact Or.inr b
    · exact Or.inl (h.mpr (Or.inr f))
  · rintro (a | b)
    · exact (h.mp a).elim (fun z => Or.inl (Or.inl z)) Or.inr
    · exact Or.inl (Or.inr b)
theorem or_shB {A B B' F : Prop} (h : B' ↔ B ∨ F) : (A ∨ B) ∨ F ↔ A ∨ B' := by
  constructor
  · rintro ((a | b) | f)
    · exact Or.inl a
    · exact Or.inr (h.mpr (Or.inl b))
    · exact Or.inr (h.mpr (Or.inr f))
  · rintro (a | b)
    · exact Or.inl (Or.inl a)
    · exact (h.mp b).elim (fun z => Or.inl (Or.inr z)) Or.inr
theorem ex_j {P : Nat → Prop} {j n : Nat} (hj : j < n) : (∃ i, j ≤ i ∧ i < n ∧ P i) ↔ P j ∨ ∃ i, j + 1 ≤ i ∧ i < n ∧ P i := by
  constructor
  · rintro ⟨i, h1, h2, h3⟩
    rcases Nat.lt_or_ge j i with z | z
    · exact Or.inr ⟨i, z, h2, h3⟩
    · have : i = j := by omega
      subst this
      exact Or.inl h3
  · rintro (h | ⟨i, h1, h2, h3⟩)
    · exact ⟨j, Nat.le_refl _, hj, h⟩
    · exact ⟨i, by omega, h2, h3⟩
theorem ex_n {P : Nat → Prop} {n m : Nat} (h : m ≤ n) : ¬ ∃ i, n ≤ i ∧ i < m ∧ P i := by
  rintro ⟨i, h1, h2, -⟩
  omega
/-- the class's walk -/
def JC (M : VT) (Y T : Nat) (S : Nat → Prop) (q : Nat) (w : WS) : Prop := ∀ b, b < 32 → (S b ↔ tb w.2.2 b = true ∨ ∃ p, q ≤ p ∧ p < 99 * Y ∧ w.2.1 p < 8000000 ∧ FF M T 24 (st9 p) b)
def JS (M : VT) (Y T : Nat) (S : Nat → Prop) (q j : Nat) (w : WS) : Prop := ∀ b, b < 32 → (S b ↔ tb w.2.2 b = true ∨ (∃ p, q + 1 ≤ p ∧ p < 99 * Y ∧ w.2.1 p < 8000000 ∧ FF M T 24 (st9 p) b) ∨ ∃ i, j ≤ i ∧ i < T + 1 ∧ FS M (FF M T 24) (st9 q) b i)
theorem JS_step {M : VT} {Y T : Nat} {bt : Bool} {S : Nat → Prop} {sp q j : Nat} {w : WS} (hY : Y ≤ 24) (h0 : M 5 0 = nI Y) (fv : FV Y T (M 5)) (hq : q < 99 * Y) (hj : j < T + 1) (hc : coJ bt sp q j w < 8000000) (h : JS M Y T S q j w) : JS M Y T S q (j + 1) (spJ M bt sp q j w) := by
  intro b hb
  refine (h b hb).trans (or_sh (ex_j hj) ?_)
  have ss := (st9_sv hY hq).1
  have r := nxt_rng (t := tJ j) hY h0 fv ss
  unfold spJ
  by_cases c2 : (stJ M q j).2.2.2 = 2
  · rw [if_pos c2]
    refine or_sh2 ?_
    have c2' : (nxt M (tJ j) (st9 q)).2.2.2 = 2 := c2
    rintro (⟨z, -⟩ | ⟨z, -⟩)
    · rw [c2'] at z; exact absurd z (by decide)
    · rw [c2'] at z; exact absurd z (by decide)
  · rw [if_neg c2]
    by_cases c1 : (stJ M q j).2.2.2 = 1
    · rw [if_pos c1]
      refine or_shA ((tb_or _ _ _).trans (or_congr Iff.rfl ?_))
      have c1' : (nxt M (tJ j) (st9 q)).2.2.2 = 1 := c1
      obtain ⟨y1, y2⟩ := r.2.2.1 c1'
      have y0 := ss.2.1.1
      obtain ⟨y, ylt, ey⟩ := @nI_of (stJ M q j).1 (by rw [i_lt, t0]; show ¬ (nxt M (tJ j) (st9 q)).1.toInt < 0; omega)
      have ey' : (nxt M (tJ j) (st9 q)).1 = nI y := ey
      have hy : y < 24 := by
        rw [ey'] at y2
        rw [nI_toInt ylt] at y2
        omega
      rw [ey, tb_bI hy hb]
      unfold FS
      rw [c1', ey']
      constructor
      · intro e; rw [e]; exact Or.inl ⟨rfl, rfl⟩
      · rintro (⟨-, e⟩ | ⟨e, -⟩)
        · exact (nI_eq (by omega) (by omega)).mp e
        · exact absurd e (by decide)
    · rw [if_neg c1]
      have e0 : (stJ M q j).2.2.2 = 0 := by
        rcases r.1 with e | e | e
        · exact e
        · exact absurd e c1
        · exact absurd e c2
      have s1 : sv1 Y (stJ M q j) := nxt_sv1 hY h0 fv ss e0
      have es : st9 (rk9 (stJ M q j)) = stJ M q j := st9_rk hY s1
      have up : q < rk9 (stJ M q j) := (rk9_up hY h0 fv hq e0).1
      have ltp := rk9_lt s1
      refine or_shB ?_
      constructor
      · rintro ⟨p, u1, u2, u3, u4⟩
        by_cases e : p = rk9 (stJ M q j)
        · refine Or.inr (Or.inr ⟨e0, ?_⟩)
          rw [e, es] at u4
          exact u4
        · refine Or.inl ⟨p, u1, u2, ?_, u4⟩
          have u3' : upN w.2.1 (rk9 (stJ M q j)) (min (w.2.1 (rk9 (stJ M q j))) (coJ bt sp q j w)) p < 8000000 := u3
          rw [upN_ne e] at u3'
          exact u3'
      · rintro (⟨p, u1, u2, u3, u4⟩ | f)
        · refine ⟨p, u1, u2, ?_, u4⟩
          show upN w.2.1 (rk9 (stJ M q j)) (min (w.2.1 (rk9 (stJ M q j))) (coJ bt sp q j w)) p < 8000000
          by_cases e : p = rk9 (stJ M q j)
          · rw [e, upN_self]
            exact Nat.lt_of_le_of_lt (Nat.min_le_right _ _) hc
          · rw [upN_ne e]; exact u3
        · refine ⟨rk9 (stJ M q j), up, ltp, ?_, ?_⟩
          · show upN w.2.1 (rk9 (stJ M q j)) (min (w.2.1 (rk9 (stJ M q j))) (coJ bt sp q j w)) (rk9 (stJ M q j)) < 8000000
            rw [upN_self]
            exact Nat.lt_of_le_of_lt (Nat.min_le_right _ _) hc
          · rw [es]
            rcases f with ⟨z, -⟩ | ⟨-, z⟩
            · exact absurd z c1
            · exact z
theorem wk_falls {M : VT} {Y T : Nat} {bt : Bool} {s : H4} (hY : Y ≤ 24) (hT : T ≤ 5) (h0 : M 5 0 = nI Y) (fv : FV Y T (M 5)) (hs : sv1 Y s) : ∀ b, b < 32 → (FF M T 24 s b ↔ tb (wkE M Y T bt s 1000000).2.2 b = true) := by
  have lt := rk9_lt hs
  have es := st9_rk hY hs
  have key : WB (wkE M Y T bt s 1000000) ∧ JC M Y T (FF M T 24 s) (99 * Y) (wkE M Y T bt s 1000000) := by
    refine wkN_inv (P := fun q w => WB w ∧ JC M Y T (FF M T 24 s) q w) (fun q w hq hp hc => ?_) (fun q w hq hp hc => ?_) _ _ _ (by omega) ⟨wk0_B _, fun b hb => ?_⟩
    · refine ⟨hp.1, fun b hb => (hp.2 b hb).trans (or_congr Iff.rfl ?_)⟩
      constructor
      · rintro ⟨p, u1, u2, u3, u4⟩
        rcases Nat.lt_or_ge q p with z | z
        · exact ⟨p, z, u2, u3, u4⟩
        · have : p = q := by omega
          subst this
          exact absurd u3 hc
      · rintro ⟨p, u1, u2, u3, u4⟩
        exact ⟨p, by omega, u2, u3, u4⟩
    · have ha : w.2.1 q ≤ 13 * (q / 99) := by
        rcases hp.1.2 q with e | e
        · omega
        · exact e
      have inner := spN_inv (M := M) (bt := bt) (sp := rk9 s) (q := q) (n := T + 1) (Q := fun j w => WB w ∧ w.2.1 q ≤ 13 * (q / 99) ∧ JS M Y T (FF M T 24 s) q j w) (fun j w hj g => by
        obtain ⟨g1, g2, g3⟩ := g
        obtain ⟨b1, b2, b3⟩ := spJ_WB (sp := rk9 s) (bt := bt) hY hT h0 fv hq hj g1 g2
        have := coJ_le (sp := rk9 s) (bt := bt) hT hj g2
        exact ⟨b1, b2, JS_step hY h0 fv hq hj (by omega) g3⟩) (T + 1) 0 w (by omega) ⟨hp.1, ha, fun b hb => (hp.2 b hb).trans ?_⟩
      · refine ⟨inner.1, fun b hb => (inner.2.2 b hb).trans ?_⟩
        exact ⟨fun z => z.elim Or.inl (fun y => y.elim Or.inr (fun x => absurd x (ex_n (Nat.le_refl _)))), fun z => z.elim Or.inl (fun y => Or.inr (Or.inl y))⟩
      · refine or_congr Iff.rfl ?_
        constructor
        · rintro ⟨p, u1, u2, u3, u4⟩
          rcases Nat.lt_or_ge q p with z | z
          · exact Or.inl ⟨p, z, u2, u3, u4⟩
          · have : p = q := by omega
            subst this
            obtain ⟨j, j1, j2⟩ := (FF_24 hY h0 fv (st9_sv hY hq).1).mp u4
            exact Or.inr ⟨j, Nat.zero_le _, j1, j2⟩
        · rintro (⟨p, u1, u2, u3, u4⟩ | ⟨j, -, j1, j2⟩)
          · exact ⟨p, by omega, u2, u3, u4⟩
          · exact ⟨q, Nat.le_refl _, hq, hc, (FF_24 hY h0 fv (st9_sv hY hq).1).mpr ⟨j, j1, j2⟩⟩
    · constructor
      · intro z
        refine Or.inr ⟨rk9 s, Nat.le_refl _, lt, ?_, by rw [es]; exact z⟩
        show (if rk9 s = rk9 s then 0 else 8000000) < 8000000
        rw [if_pos rfl]; decide
      · rintro (z | ⟨p, u1, u2, u3, u4⟩)
        · exact absurd z (tb_0 b)
        · have u3' : (if p = rk9 s then 0 else 8000000) < 8000000 := u3
          by_cases e : p = rk9 s
          · rw [e, es] at u4; exact u4
          · rw [if_neg e] at u3'; exact absurd u3' (Nat.lt_irrefl _)
  intro b hb
  refine (key.2 b hb).trans ⟨fun z => z.elim id (fun y => absurd y (ex_n (Nat.le_refl _))), Or.inl⟩
/-- the reference's -/
def KC (M : VT) (Y T : Nat) (S : Nat → Prop) (k : Nat) (M' : VT) (a : Int32) : Prop := ∀ b, b < 32 → (S b ↔ tb a b = true ∨ ∃ p, k ≤ p ∧ p < 110 * Y ∧ ¬ M' 10 p = 0 ∧ FF M T 24 (st0 p) b)
def KS (M : VT) (Y T : Nat) (S : Nat → Prop) (k j : Nat) (M' : VT) (a : Int32) : Prop := ∀ b, b < 32 → (S b ↔ tb a b = true ∨ (∃ p, k + 1 ≤ p ∧ p < 110 * Y ∧ ¬ M' 10 p = 0 ∧ FF M T 24 (st0 p) b) ∨ ∃ i, j ≤ i ∧ i < T + 1 ∧ FS M (FF M T 24) (st0 k) b i)
theorem m_falls_in {M : VT} {Y T k : Nat} {S : Nat → Prop} {K : Int32 → VT → Prop} {KL : VT → Int32 → Int32 → Prop} (hY : Y ≤ 24) (hT : T ≤ 5) (h0 : M 5 0 = nI Y) (h1 : M 5 1 = nI T) (fv : FV Y T (M 5)) (hk : k < 110 * Y) : ∀ (m j : Nat) (M' : VT) (s : H4) (a : Int32), j + m = T + 1 → Mq M M' s → ¬ M' 10 k = 0 → KS M Y T S k j M' a →
    (∀ M'' s'' a'', Mq M M'' s'' → KC M Y T S (k + 1) M'' a'' → KL M'' a'' (nI (k + 1))) → wp_X8_falls_L85 K KL (m + 1) M' a (nI k) (tJ j) := by
  intro m
  induction m with
  | zero =>
    intro j M' s a hj g hk0 hA h
    have : j = T + 1 := by omega
    subst this
    refine ⟨vin (by decide), fun _ => ?_, fun c => absurd ?_ c⟩
    · unfold wp_X8_falls_b186
      rw [nI_1]
      exact h M' s a g (fun b hb => (hA b hb).trans ⟨fun z => z.elim Or.inl (fun y => y.elim Or.inr (fun x => absurd x (ex_n (Nat.le_refl _)))), fun z => z.elim Or.inl (fun y => Or.inr (Or.inl y))⟩)
    · rw [cn1, g.1 5 (by decide), h1, tJ_s]
      exact nI_le (Nat.le_refl _) (by omega)
  | succ m ih =>
    intro j M' s a hj g hk0 hA h
    have hjT : j < T + 1 := by omega
    refine ⟨vin (by decide), fun c => absurd c ?_, fun _ => ⟨vpn (by omega) (by decide), ?_⟩⟩
    · rw [cn1, g.1 5 (by decide), h1, i_le, nI_toInt (by omega), tJ_i (by omega)]; omega
    · rw [nI_c (by omega)]
      refine ⟨fun c => absurd c hk0, fun _ => ?_⟩
      have ss := st0_sv hY hk
      refine m_puts (fun M1 p1 p2 p3 => ?_)
      have g1 := g.puts p1 p2 (p3.trans (su0 (by omega)))
      refine m_step hY hT h0 fv (tJ_T hjT) ss g1 (fun M2 o2 g2 => ?_)
      have hh := g2.2.2.2
      have e16 : M2 0 16 = (nxt M (tJ j) (st0 k)).1 := by rw [← hh]; rfl
      have e17 : M2 0 17 = (nxt M (tJ j) (st0 k)).2.1 := by rw [← hh]; rfl
      have e18 : M2 0 18 = (nxt M (tJ j) (st0 k)).2.2.1 := by rw [← hh]; rfl
      have e19 : M2 0 19 = (nxt M (tJ j) (st0 k)).2.2.2 := by rw [← hh]; rfl
      have r := nxt_rng (t := tJ j) hY h0 fv ss
      have m10 : M2 10 = M' 10 := by rw [o2 10 (by decide), p1 10 (by decide)]
      have nx : ∀ (M3 : VT) (a3 : Int32), Mq M M3 (nxt M (tJ j) (st0 k)) → ¬ M3 10 k = 0 → KS M Y T S k (j + 1) M3 a3 → wp_X8_falls_b180 K (wp_X8_falls_L85 K KL (m + 1)) KL M3 a3 (nI k) (tJ j) := by
        intro M3 a3 q1 q2 q3
        unfold wp_X8_falls_b180
        rw [tJ_1, ← tJ_s]
        exact ih (j + 1) M3 _ a3 (by omega) q1 q2 q3 h
      unfold wp_X8_falls_b150
      rw [e19, e16, e17, e18]
      by_cases c0 : (nxt M (tJ j) (st0 k)).2.2.2 = 0
      · have c1 : ¬ (nxt M (tJ j) (st0 k)).2.2.2 = 1 := by rw [c0]; decide
        refine ⟨fun _ => ⟨fun z => absurd c0 z, fun _ => ?_⟩, fun z => absurd z c1⟩
        have s1 := nxt_sv hY h0 fv ss c0
        have es := st0_rk hY s1
        have lt := rk0_lt s1
        have up := rk0_up hY h0 fv hk c0
        unfold wp_X8_place
        rw [pl0 hY s1]
        refine ⟨vpn (by omega) (by decide), ?_⟩
        rw [nI_c (by omega), Int32.or_zero]
        intro V25 e25
        refine nx V25 a (by rw [e25]; exact g2.u9 (Or.inr rfl)) (by rw [e25, up2_selfn (by omega), m10]; exact hk0) (fun b hb => ?_)
        refine (hA b hb).trans (or_sh (ex_j hjT) (or_shB ?_))
        constructor
        · rintro ⟨p, u1, u2, u3, u4⟩
          by_cases e : p = rk0 (nxt M (tJ j) (st0 k))
          · refine Or.inr (Or.inr ⟨c0, ?_⟩)
            rw [e, es] at u4
            exact u4
          · refine Or.inl ⟨p, u1, u2, ?_, u4⟩
            rw [e25, up2_selfn e, m10] at u3
            exact u3
        · rintro (⟨p, u1, u2, u3, u4⟩ | f)
          · refine ⟨p, u1, u2, ?_, u4⟩
            by_cases e : p = rk0 (nxt M (tJ j) (st0 k))
            · rw [e25, e, up2_self]; decide
            · rw [e25, up2_selfn e, m10]; exact u3
          · refine ⟨_, up, lt, by rw [e25, up2_self]; decide, ?_⟩
            rw [es]
            rcases f with ⟨z, -⟩ | ⟨-, z⟩
            · exact absurd z c1
            · exact z
      · by_cases c1 : (nxt M (tJ j) (st0 k)).2.2.2 = 1
        · refine ⟨fun z => absurd c1 z, fun _ => ⟨fun _ => ?_, fun z => absurd z c0⟩⟩
          refine nx M2 _ g2 (by rw [m10]; exact hk0) (fun b hb => ?_)
          rw [m10]
          refine (hA b hb).trans (or_sh (ex_j hjT) (or_shA ((tb_or _ _ _).trans (or_congr Iff.rfl ?_))))
          obtain ⟨y1, y2⟩ := r.2.2.1 c1
          have y0 := ss.2.1.1
          obtain ⟨y, ylt, ey⟩ := @nI_of (nxt M (tJ j) (st0 k)).1 (by rw [i_lt, t0]; omega)
          have hy : y < 24 := by
            rw [ey] at y2
            rw [nI_toInt ylt] at y2
            omega
          have bi : tb ((1 : Int32) <<< ((nxt M (tJ j) (st0 k)).1 &&& 31)) b = true ↔ y = b := by
            rw [ey]; exact tb_bI hy hb
          rw [bi]
          unfold FS
          rw [c1, ey]
          constructor
          · intro e; rw [e]; exact Or.inl ⟨rfl, rfl⟩
          · rintro (⟨-, e⟩ | ⟨e, -⟩)
            · exact (nI_eq (by omega) (by omega)).mp e
            · exact absurd e (by decide)
        · refine ⟨fun _ => ⟨fun _ => ?_, fun z => absurd z c0⟩, fun z => absurd z c1⟩
          rw [Int32.or_zero]
          refine nx M2 _ g2 (by rw [m10]; exact hk0) (fun b hb => ?_)
          rw [m10]
          refine (hA b hb).trans (or_sh (ex_j hjT) (or_sh2 ?_))
          rintro (⟨z, -⟩ | ⟨z, -⟩)
          · exact c1 z
          · exact c0 z
theorem m_falls_L {M : VT} {Y T : Nat} {S : Nat → Prop} {K : Int32 → VT → Prop} (hY : Y ≤ 24) (hT : T ≤ 5) (h0 : M 5 0 = nI Y) (h1 : M 5 1 = nI T) (fv : FV Y T (M 5)) (h : ∀ M' a, Ms M M' → (∀ b, b < 32 → (S b ↔ tb a b = true)) → K a M') : ∀ (m k : Nat) (M' : VT) (s : H4) (a : Int32), k + m = 110 * Y → Mq M M' s → KC M Y T S k M' a → wp_X8_falls_L70 K (m + 1) M' a (nI k) := by
  intro m
  induction m with
  | zero =>
    intro k M' s a hk g hA
    refine ⟨vin (by decide), fun _ => s_backs g (fun M2 _ _ _ _ ms => h M2 a ms (fun b hb => (hA b hb).trans ⟨fun z => z.elim id (fun y => absurd y (ex_n (by omega))), Or.inl⟩)), fun c => absurd ?_ c⟩
    rw [cn0, g.1 5 (by decide), h0, show (110 : Int32) = nI 110 from rfl, pk_mul]
    exact nI_le (by omega) (by omega)
  | succ m ih =>
    intro k M' s a hk g hA
    refine ⟨vin (by decide), fun c => absurd c ?_, fun _ => ?_⟩
    · rw [cn0, g.1 5 (by decide), h0, show (110 : Int32) = nI 110 from rfl, pk_mul]
      exact nI_ge (by omega) (by omega)
    · by_cases c : M' 10 k = 0
      · refine ⟨1, vin (by decide), fun z => absurd z ?_, fun _ => ⟨vpn (by omega) (by decide), ?_⟩⟩
        · rw [cn1, g.1 5 (by decide), h1, i_le, nI_toInt (by omega), tm1]; omega
        · rw [nI_c (by omega)]
          refine ⟨fun _ => ?_, fun z => absurd c z⟩
          unfold wp_X8_falls_b186
          rw [nI_1]
          refine ih (k + 1) M' s a (by omega) g (fun b hb => (hA b hb).trans (or_congr Iff.rfl ?_))
          constructor
          · rintro ⟨p, u1, u2, u3, u4⟩
            rcases Nat.lt_or_ge k p with z | z
            · exact ⟨p, z, u2, u3, u4⟩
            · have : p = k := by omega
              subst this
              exact absurd c u3
          · rintro ⟨p, u1, u2, u3, u4⟩
            exact ⟨p, by omega, u2, u3, u4⟩
      · refine ⟨T + 2, m_falls_in (S := S) hY hT h0 h1 fv (by omega) (T + 1) 0 M' s a (by omega) g c (fun b hb => (hA b hb).trans (or_congr Iff.rfl ?_)) (fun M2 s2 a2 g2 h2 => ih (k + 1) M2 s2 a2 (by omega) g2 h2)⟩
        constructor
        · rintro ⟨p, u1, u2, u3, u4⟩
          rcases Nat.lt_or_ge k p with z | z
          · exact Or.inl ⟨p, z, u2, u3, u4⟩
          · have : p = k := by omega
            subst this
            obtain ⟨j, j1, j2⟩ := (FF_24 hY h0 fv (st0_sv hY (by omega))).mp u4
            exact Or.inr ⟨j, Nat.zero_le _, j1, j2⟩
        · rintro (⟨p, u1, u2, u3, u4⟩ | ⟨j, -, j1, j2⟩)
          · exact ⟨p, by omega, u2, u3, u4⟩
          · exact ⟨k, Nat.le_refl _, by omega, c, (FF_24 hY h0 fv (st0_sv hY (by omega))).mpr ⟨j, j1, j2⟩⟩
theorem m_falls_F {M : VT} {Y T : Nat} {K : Int32 → VT → Prop} (hY : Y ≤ 24) (hT : T ≤ 5) (h0 : M 5 0 = nI Y) (h1 : M 5 1 = nI T) (fv : FV Y T (M 5)) (hs : sv Y (hm M)) (h : ∀ M' a, Ms M M' → (∀ b, b < 32 → (FF M T 24 (hm M) b ↔ tb a b = true)) → K a M') : ∀ (m k : Nat) (M' : VT), k + m = 2640 → Mq M M' (hm M) → (∀ p, p < k → M' 10 p = 0) → wp_X8_falls_L25 K (m + 1) M' (nI k) := by
  have es := st0_rk hY hs
  have lt := rk0_lt hs
  intro m
  induction m with
  | zero =>
    intro k M' hk g hz
    have : k = 2640 := by omega
    subst this
    refine ⟨fun _ => ?_, fun c => absurd (by decide +kernel) c⟩
    have hh := g.2.2.2
    simp only [hm, Prod.mk.injEq] at hh
    have pl := pl0 hY hs
    have pl' : 110 * M 0 16 + 11 * M 0 17 + M 0 18 + 5 = nI (rk0 (hm M)) := pl
    unfold wp_X8_place
    rw [hh.1, hh.2.1, hh.2.2.1, pl']
    refine ⟨vpn (by omega) (by decide), ?_⟩
    rw [nI_c (by omega)]
    intro V8 e8
    refine ⟨110 * Y + 1, m_falls_L (S := FF M T 24 (hm M)) hY hT h0 h1 fv h (110 * Y) 0 V8 (hm M) 0 (by omega) (by rw [e8]; exact g.u9 (Or.inr rfl)) (fun b hb => ?_)⟩
    constructor
    · intro z
      exact Or.inr ⟨rk0 (hm M), Nat.zero_le _, lt, by rw [e8, up2_self]; decide, by rw [es]; exact z⟩
    · rintro (z | ⟨p, u1, u2, u3, u4⟩)
      · exact absurd z (tb_0 b)
      · by_cases e : p = rk0 (hm M)
        · rw [e, es] at u4; exact u4
        · rw [e8, up2_selfn e] at u3
          exact absurd (hz p (by omega)) u3
  | succ m ih =>
    intro k M' hk g hz
    refine ⟨fun c => absurd c ?_, fun _ => ⟨vpn (by omega) (by decide), ?_⟩⟩
    · rw [show (2640 : Int32) = nI 2640 from rfl]
      exact nI_ge (by omega) (by decide)
    · rw [nI_c (by omega), nI_1]
      intro V10 e10
      refine ih (k + 1) V10 (by omega) (by rw [e10]; exact g.u9 (Or.inr rfl)) (fun p hp => ?_)
      by_cases e : p = k
      · rw [e10, e, up2_self]
      · rw [e10, up2_selfn e]; exact hz p (by omega)
theorem q_falls {X M : VT} (H : RR X M) : wp_X7_falls X (fun r X' => wp_X8_falls M (EQ r X')) := by
  obtain ⟨hs, Y, T, h0⟩ := id H
  obtain ⟨hL, isl⟩ := id h0.2.2.1
  unfold wp_X7_falls
  refine x_there hL.2.1.1 hL.1.1 ?_
  by_cases hY : 0 < Y
  · rw [if_pos hY]
    rw [if_pos hY] at isl
    obtain ⟨fv, hv⟩ := hL.2.2.2.2.2.2.2.2.2 hY
    refine ⟨fun _ => ?_, fun c => absurd c (by decide)⟩
    have e20 : X 20 3 = M 0 19 := hL.2.2.2.2.2.2.2.2.1 3 (by decide)
    by_cases e0 : M 0 19 = 0
    · have s1 := HV_sv1 hv e0
      refine x_walkF (bt := true) hL hY (by decide) (hp20 hL) s1 (fun X' W wb => i_hd isl ⟨fun _ => ?_, fun c => absurd e0 c⟩)
      rw [W.2.2.2.1]
      refine s_asidesM (fun M1 g1 _ => ⟨2641, m_falls_F hL.1.1 hL.1.2.1 hL.2.1.2 hL.2.2.1.2 fv s1.1 (fun M2 a ms ha => ⟨?_, H.cg W.xs ms⟩) 2640 0 M1 (by decide) g1 (fun p hp => absurd hp (Nat.not_lt_zero p))⟩)
      exact tb_ext (fun b hb => (wk_falls (bt := true) hL.1.1 hL.1.2.1 hL.2.1.2 fv s1 b hb).symm.trans (ha b hb))
    · refine x_walkE (by decide) (by rw [e20]; exact e0) (fun X' W _ e4 => i_hd isl ⟨fun c => absurd c e0, fun _ => ?_⟩)
      rw [e4]
      exact ⟨rfl, H.cg (Xs.of10 W) Ms.rf⟩
  · rw [if_neg hY]
    rw [if_neg hY] at isl
    exact ⟨fun c => absurd rfl c, fun _ => i_hd0 isl ⟨rfl, H⟩⟩
