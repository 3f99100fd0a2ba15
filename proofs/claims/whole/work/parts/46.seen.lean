/-! seen, who -/
def nxK (M : VT) (kind force : Int32) (s : H4) : H4 := goF (M 5 0) (M 5 2) (M 5 3) (fun i => M 5 (4 + i)) kind force s.1 s.2.1 s.2.2.1
theorem nxK_nxt (M : VT) (t : Int32) (s : H4) : nxt M t s = nxK M (tk M t) (tf M t) s := rfl
theorem x_passK {X M : VT} {k Y T : Nat} {kind force : Int32} {s : H4} {K : VT → Prop} (hL : LR X 16 (M 5) (fun i => M 0 (16 + i)) Y T) (hk : k ≠ 16 ∧ k ≠ 17) (hs : sv Y s) (hX : hp X k = s) (h : ∀ X', fr X X' k → hp X' k = nxK M kind force s → K X') : wp_X2_pass X k 16 kind force K := by
  obtain ⟨⟨l1, l2, l3⟩, ⟨l4, l4'⟩, -, l6, l7, l8, l9, -, l10, l11⟩ := hL
  subst hX
  obtain ⟨v1, v2, v3, v4⟩ := hs
  simp only [hp] at v1 v2 v3 v4
  have hy1 := @y1_rng kind force (X k 1) (X k 0) v3 (by omega)
  refine s_pass hk.1 (by omega) v1 (fun c => ?_) (fun X' f g => h X' f ?_)
  · rw [l4, i_lt, nI_toInt (by omega)] at c
    exact vin_of (by omega) (by omega)
  · rw [g, nxK, l4, l6, l7, l4']
    exact goF_gr l1 (by omega) v3 (fun i _ hi => l9 i hi)
theorem goF_0 (Y h d : Int32) (gr : Nat → Int32) (f y p l : Int32) : goF Y h d gr 0 f y p l = goF Y h d gr 0 0 y p l := by
  simp [goF, tapP, tapL]
theorem nxK_0 (M : VT) (f : Int32) (s : H4) : nxK M 0 f s = nxt M (-1) s := by
  rw [nxK, goF_0]; rfl
theorem nxK_es {M : VT} {Y T : Nat} {kind force : Int32} {s : H4} (hY : Y ≤ 24) (h0 : M 5 0 = nI Y) (fv : FV Y T (M 5)) (hs : sv Y s) : es Y (nxK M kind force s) := by
  intro he
  have := (goF_rng (kind := kind) (l := s.2.2.1) (drag := M 5 3) (gr := fun i => M 5 (4 + i)) hY hs.2.1 hs.2.2.1 ⟨by have := fv.1; omega, fv.2.1⟩ (r := nxK M kind force s) (by rw [nxK, h0])).2.1 he
  exact ⟨he, ⟨by have := hs.2.1.1; omega, this.2.1⟩, ⟨by omega, this.2.2.2.1⟩, this.2.2.2.2⟩
theorem m_goesK {M M' : VT} {Y : Nat} {kind force : Int32} {s : H4} {K : VT → Prop} (hY : Y ≤ 24) (h0 : M 5 0 = nI Y) (hk : 0 ≤ kind.toInt ∧ kind.toInt ≤ 5) (hf : 0 ≤ force.toInt ∧ force.toInt ≤ 5) (hs : sv Y s) (hq : Mq M M' s) (h : ∀ M'', (∀ a, a ≠ 0 → M'' a = M' a) → Mq M M'' (nxK M kind force s) → K M'') : wp_X8_goes M' kind force K := by
  have e5 : M' 5 = M 5 := hq.1 5 (by decide)
  have e4 := hq.2.2.2
  have q : (M' 0 16 = s.1 ∧ M' 0 17 = s.2.1 ∧ M' 0 18 = s.2.2.1) := by rw [← e4]; exact ⟨rfl, rfl, rfl⟩
  have hy1 := @y1_rng kind force (M' 0 17) (M' 0 16) (by rw [q.2.1]; exact hs.2.2.1) (by rw [q.1]; have := hs.2.1; omega)
  refine m_goes (kind_or0 hk.1 hk.2) (fun _ => ⟨by rw [q.2.2]; have := hs.2.2.2; omega, by omega⟩) (fun c => ?_) (fun M'' f g _ => h M'' f.1 (hq.goes f ?_))
  · rw [e5, h0, i_lt, nI_toInt (by omega)] at c
    have := hs.2.1.1
    rw [q.1] at hy1 c ⊢
    omega
  · rw [g, e5, q.1, q.2.1, q.2.2]
    rfl
def mvN (M : VT) (s : H4) : H4 := if s.2.2.2 = 0 then nxt M (-1) s else s
def cb (M : VT) (ts : Nat → Int32) : Nat → Nat → H4 → Bool
  | 0, _, _ => true
  | m + 1, k, s => if s.1 = ts k then cb M ts m (k + 1) (mvN M s) else false
def b2 (b : Bool) : Int32 := if b then 1 else 0
theorem mvN_es {M : VT} {Y T : Nat} {s : H4} (hY : Y ≤ 24) (h0 : M 5 0 = nI Y) (fv : FV Y T (M 5)) (he : es Y s) : es Y (mvN M s) := by
  unfold mvN
  split
  · rename_i e; exact es_nxt hY h0 fv (he e)
  · exact he
theorem x_moveN {X M : VT} {Y T : Nat} {s : H4} {K : VT → Prop} (hL : LR X 16 (M 5) (fun i => M 0 (16 + i)) Y T) (hY : 0 < Y) (he : es Y s) (hX : hp X 15 = s) (h : ∀ X', fr X X' 15 → hp X' 15 = mvN M s → K X') : wp_X2_pass X 15 16 0 0 K := by
  unfold mvN at h
  by_cases e : s.2.2.2 = 0
  · rw [if_pos e] at h
    exact x_pass (t := -1) hL hY (Or.inl rfl) (by decide) (he e) hX h
  · rw [if_neg e] at h
    exact ⟨fun c => absurd (show s.2.2.2 = 0 by rw [← hX]; exact c) e, fun _ => h X fr_rf hX⟩
theorem x_comes_L {X M : VT} {Y T n i0 r : Nat} {ts : Nat → Int32} {K : Int32 → VT → Prop} (hL : LR X 16 (M 5) (fun i => M 0 (16 + i)) Y T) (hY : 0 < Y) (hn : i0 + n ≤ 40) (hr : r < 8) (hts : ∀ q, q < n → X (36 + 2 * r + 1) (i0 + q) = ts q) : ∀ (m k : Nat) (X' : VT) (s : H4), k + m = n → fr X X' 15 → hp X' 15 = s → es Y s →
    (∀ X'', fr X X'' 15 → K (b2 (cb M ts m k s)) X'') → wp_X7_comesSo_L3 K (m + 1) X' (36 + 2 * r) (nI i0) (nI n) (nI k) := by
  intro m
  induction m with
  | zero =>
    intro k X' s hk f g he h
    exact ⟨fun _ => h X' f, fun c => absurd (nI_le (by omega) (by omega)) c⟩
  | succ m ih =>
    intro k X' s hk f g he h
    refine ⟨fun c => absurd c (nI_ge (by omega) (by omega)), fun _ => ?_⟩
    rw [nI_add, nI_1]
    refine ⟨vpn (by omega) (by decide), ?_⟩
    have e0 : X' 15 0 = s.1 := by rw [← g]; rfl
    rw [nI_c (by omega), f (36 + 2 * r + 1) (by omega), hts k (by omega), e0]
    unfold cb at h
    refine ⟨fun c => ?_, fun c => ?_⟩
    · rw [if_pos c] at h
      exact x_moveN (hL.sc f (by decide)) hY he g (fun X2 f2 g2 => ih (k + 1) X2 _ (by omega) (f.tr f2) g2 (mvN_es hL.1.1 hL.2.1.2 (hL.2.2.2.2.2.2.2.2.2 hY).1 he) h)
    · rw [if_neg c] at h
      exact h X' f
theorem m_seen_L {M : VT} {Y T f n : Nat} {ts : Nat → Int32} {kind force : Int32} {K : Int32 → VT → Prop} (hY : Y ≤ 24) (h0 : M 5 0 = nI Y) (fv : FV Y T (M 5)) (hf : 0 ≤ force.toInt ∧ force.toInt ≤ 5) (hn : f + n ≤ 320) (hts : ∀ q, q < n → M 3 (f + q) = ts q) : ∀ (m k : Nat) (M' : VT) (s : H4) (b : Bool), k + m = n → 0 < k → Mq M M' s → es Y s →
    (∀ M'' s'', Mq M M'' s'' → K (b2 (b && cb M ts m k (mvN M s))) M'') → wp_X8_isSeen_L6 K (m + 1) M' (nI f) (nI n) kind force (b2 b) (nI k) := by
  intro m
  induction m with
  | zero =>
    intro k M' s b hk k0 g he h
    have e : (b && cb M ts 0 k (mvN M s)) = b := by cases b <;> rfl
    rw [e] at h
    exact ⟨fun _ => ⟨by cases b; exact Or.inl rfl; exact Or.inr rfl, h M' s g⟩, fun c => absurd (nI_le (by omega) (by omega)) c⟩
  | succ m ih =>
    intro k M' s b hk k0 g he h
    refine ⟨fun c => absurd c (nI_ge (by omega) (by omega)), fun _ => ?_⟩
    have e19 : M' 0 19 = s.2.2.2 := by rw [← g.2.2.2]; rfl
    have step : ∀ M2, Mq M M2 (mvN M s) → wp_X8_isSeen_b35 K (wp_X8_isSeen_L6 K (m + 1)) M2 (nI f) (nI n) kind force (b2 b) (nI k) := by
      intro M2 g2
      unfold wp_X8_isSeen_b35 wp_X8_isSeen_b60 wp_X8_isSeen_b61
      rw [nI_add, nI_1]
      have e16 : M2 0 16 = (mvN M s).1 := by rw [← g2.2.2.2]; rfl
      rw [nI_c (by omega), g2.1 3 (by decide), hts k (by omega), e16]
      have he2 := mvN_es hY h0 fv he
      unfold cb at h
      cases b with
      | false =>
        refine ⟨fun _ => ih (k + 1) M2 _ false (by omega) (by omega) g2 he2 (fun M'' s'' g'' => h M'' s'' g''), fun c => absurd rfl c⟩
      | true =>
        refine ⟨fun c => absurd c (by decide), fun _ => ⟨vpn (by omega) (by decide), fun c => ?_, fun c => ?_⟩⟩
        · rw [if_neg c] at h
          exact ih (k + 1) M2 _ false (by omega) (by omega) g2 he2 (fun M'' s'' g'' => h M'' s'' g'')
        · rw [if_pos c] at h
          exact ih (k + 1) M2 _ true (by omega) (by omega) g2 he2 (fun M'' s'' g'' => h M'' s'' g'')
    have kz : ¬ nI k = 0 := nI_ne0 k0 (by omega)
    rw [e19]
    refine ⟨fun e => ?_, fun e => ⟨fun _ => ?_, fun c => absurd c kz⟩⟩
    · have : mvN M s = s := by unfold mvN; rw [if_neg e]
      exact step M' (by rw [this]; exact g)
    · have : mvN M s = nxK M 0 force s := by unfold mvN; rw [if_pos e, nxK_0]
      exact m_goesK hY h0 ⟨by decide, by decide⟩ hf (he e) g (fun M2 _ g2 => step M2 (by rw [this]; exact g2))
theorem m_isSeen {M M' : VT} {Y T f n : Nat} {ts : Nat → Int32} {kind force : Int32} {s : H4} {K : Int32 → VT → Prop} (hY : Y ≤ 24) (h0 : M 5 0 = nI Y) (fv : FV Y T (M 5)) (hk : 0 ≤ kind.toInt ∧ kind.toInt ≤ 5) (hf : 0 ≤ force.toInt ∧ force.toInt ≤ 5) (hn : f + n ≤ 320) (n0 : 0 < n) (hts : ∀ q, q < n → M 3 (f + q) = ts q) (hs : sv Y s) (g : Mq M M' s) (h : ∀ M'' s'', Mq M M'' s'' → K (b2 (cb M ts n 0 (nxK M kind force s))) M'') : wp_X8_isSeen M' (nI f) (nI n) kind force K := by
  obtain ⟨m, rfl⟩ : ∃ m, n = m + 1 := ⟨n - 1, by omega⟩
  refine ⟨m + 2, fun c => absurd c (nI_ge (a := 0) (by omega) (by omega)), fun _ => ?_⟩
  have e19 : M' 0 19 = s.2.2.2 := by rw [← g.2.2.2]; rfl
  rw [e19, hs.1]
  refine ⟨fun c => absurd rfl c, fun _ => ⟨fun c => absurd rfl c, fun _ => ?_⟩⟩
  refine m_goesK hY h0 hk hf hs g (fun M2 _ g2 => ?_)
  unfold wp_X8_isSeen_b35 wp_X8_isSeen_b60 wp_X8_isSeen_b61
  have e16 : M2 0 16 = (nxK M kind force s).1 := by rw [← g2.2.2.2]; rfl
  have he2 : es Y (nxK M kind force s) := nxK_es hY h0 fv hs
  refine ⟨fun c => absurd c (by decide), fun _ => ?_⟩
  rw [Int32.add_zero, nI_c (by omega), g2.1 3 (by decide), show f = f + 0 from rfl, hts 0 (by omega), e16]
  unfold cb at h
  refine ⟨vpn (by omega) (by decide), fun c => ?_, fun c => ?_⟩
  · rw [if_neg c] at h
    exact m_seen_L hY h0 fv hf hn hts m 1 M2 _ false (by omega) (by decide) g2 he2 (fun M'' s'' g'' => h M'' s'' g'')
  · rw [if_pos c] at h
    exact m_seen_L hY h0 fv hf hn hts m 1 M2 _ true (by omega) (by decide) g2 he2 (fun M'' s'' g'' => h M'' s'' g'')
/-- bits gathered: f k's, from k on -/
def fo (f : Nat → Int32) : Nat → Nat → Int32 → Int32
  | 0, _, acc => acc
  | m + 1, k, acc => fo f m (k + 1) (acc ||| f k)
