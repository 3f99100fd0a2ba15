/-! a moment, on both sides, of one lane -/
theorem chg_rng (p b : Int32) : 0 ≤ (chg p b).toInt ∧ (chg p b).toInt ≤ 9 := by
  unfold chg
  by_cases h1 : 0 ≤ p + b
  · by_cases h2 : p + b ≤ 9
    · rw [chg_mid h1 h2]
      rw [i_le, t0] at h1
      rw [i_le, t9] at h2
      exact ⟨h1, h2⟩
    · rw [chg_hi h2]; decide
  · rw [chg_lo h1]; decide
theorem tapP_rng {kind force p : Int32} (hp : 0 ≤ p.toInt ∧ p.toInt ≤ 9) : 0 ≤ (tapP kind force p).toInt ∧ (tapP kind force p).toInt ≤ 9 := by
  unfold tapP
  split
  · exact chg_rng _ _
  · split
    · exact chg_rng _ _
    · split
      · exact chg_rng _ _
      · split
        · exact chg_rng _ _
        · split
          · exact chg_rng _ _
          · exact hp
theorem y1_rng {kind force p y : Int32} (hp : 0 ≤ p.toInt ∧ p.toInt ≤ 9) (hy : 0 ≤ y.toInt ∧ y.toInt ≤ 1000) : y.toInt < (y + (tapP kind force p / 3 + 1)).toInt ∧ (y + (tapP kind force p / 3 + 1)).toInt ≤ y.toInt + 4 := by
  have h := @tapP_rng kind force p hp
  generalize tapP kind force p = q at h ⊢
  have h1 := @i_div q 3 (by omega) (by decide)
  rw [t3] at h1
  have h2 := @i_add (q / 3) 1 (by rw [t1]; omega)
  rw [t1] at h2
  have h3 := @i_add y (q / 3 + 1) (by omega)
  omega
def sv (Y : Nat) (s : H4) : Prop := s.2.2.2 = 0 ∧ (0 ≤ s.1.toInt ∧ s.1.toInt < Y) ∧ (0 ≤ s.2.1.toInt ∧ s.2.1.toInt ≤ 9) ∧ (-5 ≤ s.2.2.1.toInt ∧ s.2.2.1.toInt ≤ 5)
theorem goF_rng {Y : Nat} {holds drag kind force y p l : Int32} {gr : Nat → Int32} (hY : Y ≤ 24) (hy : 0 ≤ y.toInt ∧ y.toInt < Y) (hp : 0 ≤ p.toInt ∧ p.toInt ≤ 9) (hh : 0 ≤ holds.toInt ∧ holds.toInt ≤ 5) {r : H4} (hr : r = goF (nI Y) holds drag gr kind force y p l) :
    (r.2.2.2 = 0 ∨ r.2.2.2 = 1 ∨ r.2.2.2 = 2) ∧ (r.2.2.2 = 0 → y.toInt < r.1.toInt ∧ r.1.toInt < Y ∧ 1 ≤ r.2.1.toInt ∧ r.2.1.toInt ≤ 9 ∧ -5 ≤ r.2.2.1.toInt ∧ r.2.2.1.toInt ≤ 5) ∧ (r.2.2.2 = 1 → y.toInt < r.1.toInt ∧ r.1.toInt < Y) ∧ (r.2.2.2 = 2 → r.1 = nI Y) := by
  have hy1 := @y1_rng kind force p y hp (by omega)
  rw [goF] at hr
  generalize y + (tapP kind force p / 3 + 1) = y1 at hy1 hr
  rw [goG] at hr
  by_cases c : y1 < nI Y
  · rw [if_pos c] at hr
    rw [i_lt, nI_toInt (by omega)] at c
    have hc := chg_rng (if kind = 3 then tapP kind force p else grdP (gr y1.toNatClampNeg) (tapP kind force p)) (0 - drag)
    generalize chg (if kind = 3 then tapP kind force p else grdP (gr y1.toNatClampNeg) (tapP kind force p)) (0 - drag) = pp at hr hc
    generalize lanF y1 pp (if kind = 3 then tapL kind force l else grdL (gr y1.toNatClampNeg) (tapL kind force l)) = ll at hr
    subst hr
    dsimp only
    unfold endF
    by_cases d : ll < 0 - holds
    · rw [if_pos d]
      exact ⟨Or.inr (Or.inl rfl), fun q => absurd q (by decide), fun _ => ⟨hy1.1, c⟩, fun q => absurd q (by decide)⟩
    · rw [if_neg d]
      by_cases e : ll ≤ holds
      · rw [if_pos e]
        by_cases f : pp = 0
        · rw [if_pos f]
          exact ⟨Or.inr (Or.inl rfl), fun q => absurd q (by decide), fun _ => ⟨hy1.1, c⟩, fun q => absurd q (by decide)⟩
        · rw [if_neg f]
          refine ⟨Or.inl rfl, fun _ => ?_, fun q => absurd q (by decide), fun q => absurd q (by decide)⟩
          have g1 := @i_sub 0 holds (by rw [t0]; omega)
          rw [t0] at g1
          rw [i_lt] at d
          rw [i_le] at e
          rw [i_eq, t0] at f
          omega
      · rw [if_neg e]
        exact ⟨Or.inr (Or.inl rfl), fun q => absurd q (by decide), fun _ => ⟨hy1.1, c⟩, fun q => absurd q (by decide)⟩
  · rw [if_neg c] at hr
    subst hr
    exact ⟨Or.inr (Or.inr rfl), fun q => absurd (show (2 : Int32) = 0 from q) (by decide), fun q => absurd (show (2 : Int32) = 1 from q) (by decide), fun _ => rfl⟩
theorem goF_gr {Y : Nat} {holds drag kind force y p l : Int32} {gr gr' : Nat → Int32} (hY : Y ≤ 24) (hy : 0 ≤ y.toInt ∧ y.toInt ≤ 1000) (hp : 0 ≤ p.toInt ∧ p.toInt ≤ 9) (hg : ∀ i : Nat, y.toInt < i → i < Y → gr i = gr' i) : goF (nI Y) holds drag gr kind force y p l = goF (nI Y) holds drag gr' kind force y p l := by
  have hy1 := @y1_rng kind force p y hp hy
  rw [goF, goF]
  generalize y + (tapP kind force p / 3 + 1) = y1 at hy1 ⊢
  rw [goG, goG]
  by_cases c : y1 < nI Y
  · rw [if_pos c, if_pos c]
    rw [i_lt, nI_toInt (by omega)] at c
    rw [hg y1.toNatClampNeg (by rw [i_nn]; omega) (by rw [i_nn]; omega)]
  · rw [if_neg c, if_neg c]
def tk (M : VT) (t : Int32) : Int32 := if t < 0 then 0 else M 5 (28 + 2 * t.toNatClampNeg)
def tf (M : VT) (t : Int32) : Int32 := if t < 0 then 0 else M 5 (29 + 2 * t.toNatClampNeg)
def isT (T : Nat) (t : Int32) : Prop := t = -1 ∨ ∃ j : Nat, j < T ∧ t = nI j
def nxt (M : VT) (t : Int32) (s : H4) : H4 := goF (M 5 0) (M 5 2) (M 5 3) (fun i => M 5 (4 + i)) (tk M t) (tf M t) s.1 s.2.1 s.2.2.1
theorem tk_nI {M : VT} {j : Nat} (h : j < 5) : tk M (nI j) = M 5 (28 + 2 * j) := by
  unfold tk
  rw [if_neg (nI_pos (by omega)), nI_c (by omega)]
theorem tf_nI {M : VT} {j : Nat} (h : j < 5) : tf M (nI j) = M 5 (29 + 2 * j) := by
  unfold tf
  rw [if_neg (nI_pos (by omega)), nI_c (by omega)]
theorem tap_rng {M : VT} {Y T : Nat} {t : Int32} (hT : T ≤ 5) (fv : FV Y T (M 5)) (ht : isT T t) : (0 ≤ (tk M t).toInt ∧ (tk M t).toInt ≤ 5) ∧ 0 ≤ (tf M t).toInt ∧ (tf M t).toInt ≤ 5 := by
  rcases ht with rfl | ⟨j, hj, rfl⟩
  · rw [show tk M (-1) = 0 from rfl, show tf M (-1) = 0 from rfl]; exact ⟨by decide, by decide⟩
  · rw [tk_nI (by omega), tf_nI (by omega)]
    have := fv.2.2.2.2.2 j hj
    omega
theorem kind_or0 {v : Int32} (h1 : 0 ≤ v.toInt) (h2 : v.toInt ≤ 5) : v = 0 ∨ v = 1 ∨ v = 2 ∨ v = 3 ∨ v = 4 ∨ v = 5 := by
  by_cases c : v.toInt = 0
  · exact Or.inl (i_ext c)
  · exact Or.inr (kind_or (by omega) h2)
theorem nxt_rng {M : VT} {Y T : Nat} {t : Int32} {s : H4} (hY : Y ≤ 24) (h0 : M 5 0 = nI Y) (fv : FV Y T (M 5)) (hs : sv Y s) :
    ((nxt M t s).2.2.2 = 0 ∨ (nxt M t s).2.2.2 = 1 ∨ (nxt M t s).2.2.2 = 2) ∧ ((nxt M t s).2.2.2 = 0 → s.1.toInt < (nxt M t s).1.toInt ∧ (nxt M t s).1.toInt < Y ∧ 1 ≤ (nxt M t s).2.1.toInt ∧ (nxt M t s).2.1.toInt ≤ 9 ∧ -5 ≤ (nxt M t s).2.2.1.toInt ∧ (nxt M t s).2.2.1.toInt ≤ 5) ∧ ((nxt M t s).2.2.2 = 1 → s.1.toInt < (nxt M t s).1.toInt ∧ (nxt M t s).1.toInt < Y) ∧ ((nxt M t s).2.2.2 = 2 → (nxt M t s).1 = nI Y) :=
  goF_rng hY hs.2.1 hs.2.2.1 ⟨by have := fv.1; omega, fv.2.1⟩ (by rw [nxt, h0])
theorem nxt_sv {M : VT} {Y T : Nat} {t : Int32} {s : H4} (hY : Y ≤ 24) (h0 : M 5 0 = nI Y) (fv : FV Y T (M 5)) (hs : sv Y s) (he : (nxt M t s).2.2.2 = 0) : sv Y (nxt M t s) := by
  have := (nxt_rng (t := t) hY h0 fv hs).2.1 he
  exact ⟨he, ⟨by have := hs.2.1.1; omega, this.2.1⟩, ⟨by omega, this.2.2.2.1⟩, this.2.2.2.2⟩
/-- the class's moment of a hoop k over its lane -/
theorem x_pass {X M : VT} {k Y T : Nat} {t : Int32} {s : H4} {K : VT → Prop} (hL : LR X 16 (M 5) (fun i => M 0 (16 + i)) Y T) (hY : 0 < Y) (ht : isT T t) (hk : k ≠ 16 ∧ k ≠ 17) (hs : sv Y s) (hX : hp X k = s) (h : ∀ X', fr X X' k → hp X' k = nxt M t s → K X') : wp_X2_pass X k 16 (tk M t) (tf M t) K := by
  obtain ⟨⟨l1, l2, l3⟩, ⟨l4, l4'⟩, -, l6, l7, l8, l9, -, l10, l11⟩ := hL
  obtain ⟨fv, -⟩ := l11 hY
  subst hX
  obtain ⟨v1, v2, v3, v4⟩ := hs
  simp only [hp] at v1 v2 v3 v4
  have hy1 := @y1_rng (tk M t) (tf M t) (X k 1) (X k 0) v3 (by omega)
  refine s_pass hk.1 (by omega) v1 (fun c => ?_) (fun X' f g => h X' f ?_)
  · rw [l4, i_lt, nI_toInt (by omega)] at c
    exact vin_of (by omega) (by omega)
  · rw [g, nxt, l4, l6, l7, l4']
    exact goF_gr l1 (by omega) v3 (fun i _ hi => l9 i hi)
/-- the reference's -/
theorem m_goesWith {M : VT} {Y T : Nat} {t : Int32} {K : VT → Prop} (hY : Y ≤ 24) (hT : T ≤ 5) (h0 : M 5 0 = nI Y) (fv : FV Y T (M 5)) (ht : isT T t) (hs : (0 ≤ (M 0 16).toInt ∧ (M 0 16).toInt < 100) ∧ (0 ≤ (M 0 17).toInt ∧ (M 0 17).toInt ≤ 9) ∧ (-5 ≤ (M 0 18).toInt ∧ (M 0 18).toInt ≤ 5)) (h : ∀ M', frM M M' → hm M' = nxt M t (hm M) → M' 0 20 = M 0 20 + 1 → K M') : wp_X8_goesWith M t K := by
  obtain ⟨v2, v3, v4⟩ := hs
  have hr := tap_rng hT fv ht
  have hy1 := @y1_rng (tk M t) (tf M t) (M 0 17) (M 0 16) v3 (by omega)
  have go : wp_X8_goes M (tk M t) (tf M t) K := by
    refine m_goes (kind_or0 hr.1.1 hr.1.2) (fun _ => ⟨by omega, by omega⟩) (fun c => ?_) (fun M' f g g2 => h M' f ?_ g2)
    · rw [h0, i_lt, nI_toInt (by omega)] at c
      omega
    · rw [g, nxt]; rfl
  unfold wp_X8_goesWith wp_X8_goesWith_b14 wp_X8_goesWith_b27
  rcases ht with rfl | ⟨j, hj, rfl⟩
  · refine ⟨fun c => absurd c (by decide), fun _ => ⟨fun c => absurd c (by decide), fun _ => go⟩⟩
  · refine ⟨fun _ => m_kindAt (by omega) ⟨fun _ => m_forceAt (by omega) ?_, fun c => absurd (nI_pos' (by omega)) c⟩, fun c => absurd (nI_pos' (by omega)) c⟩
    rw [tk_nI (by omega), tf_nI (by omega)] at go
    exact go
theorem x_kindT {X M : VT} {Y T : Nat} {t : Int32} {K : Int32 → VT → Prop} (hL : LR X 16 (M 5) (fun i => M 0 (16 + i)) Y T) (ht : isT T t) (h : K (tk M t) X) : wp_X3_kindAt X 16 t K := by
  obtain ⟨⟨l1, l2, l3⟩, -, ⟨l5, l5'⟩, -, -, -, -, l9, -, -⟩ := hL
  rcases ht with rfl | ⟨j, hj, rfl⟩
  · exact x_kindNo (Or.inl (by decide)) h
  · rw [tk_nI (by omega)] at h
    exact x_kindAt l5 l2 hj (by rw [(l9 j hj).1]; exact h)
theorem x_forceT {X M : VT} {Y T : Nat} {t : Int32} {K : Int32 → VT → Prop} (hL : LR X 16 (M 5) (fun i => M 0 (16 + i)) Y T) (ht : isT T t) (h : K (tf M t) X) : wp_X3_forceAt X 16 t K := by
  obtain ⟨⟨l1, l2, l3⟩, -, ⟨l5, l5'⟩, -, -, -, -, l9, -, -⟩ := hL
  rcases ht with rfl | ⟨j, hj, rfl⟩
  · exact x_forceNo (Or.inl (by decide)) h
  · rw [tf_nI (by omega)] at h
    exact x_forceAt l5 l2 hj (by rw [(l9 j hj).2]; exact h)
