/-! foretold: ahead, drawn -/
def Mq (M M' : VT) (s : H4) : Prop := (∀ a, a ∉ [0, 4, 6, 9, 10] → M' a = M a) ∧ (∀ b, b ∈ [4, 8, 12, 15, 22, 32] → M' 0 b = M 0 b) ∧ (∀ i, i < 5 → M' 0 (23 + i) = M 0 (16 + i)) ∧ hm M' = s
theorem s_asides {M : VT} {K : VT → Prop} (h : ∀ M', (∀ a, a ≠ 0 → M' a = M a) → Mq M M' (hm M) → K M') : wp_X8_asides M K := by
  intro V1 e1 V2 e2 V3 e3 V4 e4 V5 e5
  have lo : ∀ b, (b < 23 ∨ 27 < b) → V5 0 b = M 0 b := fun b hb => by rw [e5, up2_selfn (by omega), e4, up2_selfn (by omega), e3, up2_selfn (by omega), e2, up2_selfn (by omega), e1, up2_selfn (by omega)]
  have oth : ∀ a, a ≠ 0 → V5 a = M a := fun a ha => by rw [e5, up2_ne ha, e4, up2_ne ha, e3, up2_ne ha, e2, up2_ne ha, e1, up2_ne ha]
  refine h V5 oth ⟨fun a ha => ?_, fun b hb => ?_, fun i hi => ?_, ?_⟩
  · simp only [List.mem_cons, List.not_mem_nil, or_false, not_or] at ha
    exact oth a ha.1
  · simp only [List.mem_cons, List.not_mem_nil, or_false] at hb
    exact lo b (by omega)
  · rcases (show i = 0 ∨ i = 1 ∨ i = 2 ∨ i = 3 ∨ i = 4 by omega) with rfl | rfl | rfl | rfl | rfl
    · rw [e5, up2_selfn (by decide), e4, up2_selfn (by decide), e3, up2_selfn (by decide), e2, up2_selfn (by decide), e1, up2_self]
    · rw [e5, up2_selfn (by decide), e4, up2_selfn (by decide), e3, up2_selfn (by decide), e2, up2_self, e1, up2_selfn (by decide)]
    · rw [e5, up2_selfn (by decide), e4, up2_selfn (by decide), e3, up2_self, e2, up2_selfn (by decide), e1, up2_selfn (by decide)]
    · rw [e5, up2_selfn (by decide), e4, up2_self, e3, up2_selfn (by decide), e2, up2_selfn (by decide), e1, up2_selfn (by decide)]
    · rw [e5, up2_self, e4, up2_selfn (by decide), e3, up2_selfn (by decide), e2, up2_selfn (by decide), e1, up2_selfn (by decide)]
  · simp only [hm, lo 16 (by omega), lo 17 (by omega), lo 18 (by omega), lo 19 (by omega)]
theorem s_backs {M M' : VT} {s : H4} {K : VT → Prop} (hq : Mq M M' s) (h : ∀ M'', (∀ a, a ≠ 0 → M'' a = M' a) → (∀ i, i < 5 → M'' 0 (23 + i) = M 0 (16 + i)) → hm M'' = hm M → M'' 0 20 = M 0 20 → Ms M M'' → K M'') : wp_X8_backs M' K := by
  obtain ⟨q1, q2, q3, q4⟩ := hq
  refine m_puts (fun V1 f1 f2 f3 V2 e2 => ?_)
  have oth : ∀ a, a ≠ 0 → V2 a = M' a := fun a ha => by rw [e2, up2_ne ha, f1 a ha]
  have e20 : V2 0 20 = M 0 20 := by rw [e2, up2_self, f2 27 (by omega)]; exact q3 4 (by decide)
  have lo : ∀ b, (b < 16 ∨ 20 < b) → V2 0 b = M' 0 b := fun b hb => by rw [e2, up2_selfn (by omega), f2 b (by omega)]
  simp only [hm, Prod.mk.injEq] at f3
  have h16 : V2 0 16 = M 0 16 := by rw [e2, up2_selfn (by decide), f3.1]; exact q3 0 (by decide)
  have h17 : V2 0 17 = M 0 17 := by rw [e2, up2_selfn (by decide), f3.2.1]; exact q3 1 (by decide)
  have h18 : V2 0 18 = M 0 18 := by rw [e2, up2_selfn (by decide), f3.2.2.1]; exact q3 2 (by decide)
  have h19 : V2 0 19 = M 0 19 := by rw [e2, up2_selfn (by decide), f3.2.2.2]; exact q3 3 (by decide)
  refine h V2 oth (fun i hi => by rw [lo _ (by omega)]; exact q3 i hi) (by simp only [hm, h16, h17, h18, h19]) e20 ⟨fun a ha => ?_, fun b hb => ?_⟩
  · rw [oth a (fun e => ha (by rw [e]; decide))]; exact q1 a ha
  · simp only [List.mem_cons, List.not_mem_nil, or_false] at hb
    rcases hb with rfl | rfl | rfl | rfl | rfl | rfl | rfl | rfl | rfl | rfl | rfl
    · rw [lo 4 (by omega)]; exact q2 4 (by decide)
    · rw [lo 8 (by omega)]; exact q2 8 (by decide)
    · rw [lo 12 (by omega)]; exact q2 12 (by decide)
    · rw [lo 15 (by omega)]; exact q2 15 (by decide)
    · exact h16
    · exact h17
    · exact h18
    · exact h19
    · exact e20
    · rw [lo 22 (by omega)]; exact q2 22 (by decide)
    · rw [lo 32 (by omega)]; exact q2 32 (by decide)
theorem Mq.goes {M M' M'' : VT} {s s' : H4} (hq : Mq M M' s) (f : frM M' M'') (hs : hm M'' = s') : Mq M M'' s' := by
  obtain ⟨q1, q2, q3, q4⟩ := hq
  refine ⟨fun a ha => ?_, fun b hb => ?_, fun i hi => ?_, hs⟩
  · rw [f.1 a (fun e => ha (by rw [e]; decide))]; exact q1 a ha
  · have hb' := hb
    simp only [List.mem_cons, List.not_mem_nil, or_false] at hb'
    rw [f.2 b (by omega)]; exact q2 b hb
  · rw [f.2 _ (by omega)]; exact q3 i hi
/-- the run of taps ts, from number k on, m moments at most: how many are done then, how it is -/
def pr (M : VT) (ts : Nat → Int32) : Nat → Nat → H4 → Nat × H4
  | 0, k, s => (k, s)
  | m + 1, k, s => if s.2.2.2 = 0 then pr M ts m (k + 1) (nxt M (ts k) s) else (k, s)
def es (Y : Nat) (s : H4) : Prop := s.2.2.2 = 0 → sv Y s
theorem es_nxt {M : VT} {Y T : Nat} {t : Int32} {s : H4} (hY : Y ≤ 24) (h0 : M 5 0 = nI Y) (fv : FV Y T (M 5)) (hs : sv Y s) : es Y (nxt M t s) := fun e => nxt_sv hY h0 fv hs e
theorem LR.sc {X X' M : VT} {k : Nat} {h : Nat → Int32} {Y T : Nat} (H : LR X 16 (M 5) h Y T) (f : fr X X' k) (hk : k < 16) : LR X' 16 (M 5) h Y T :=
  H.cg (f _ (by omega)) (f _ (by omega)) (f _ (by omega)) (f _ (by omega)) (f _ (by omega)) rfl (fun _ _ => rfl)
theorem Xs_of {X X' : VT} (f : fr X X' 15) : Xs X X' := by
  refine ⟨fun a ha => f a (fun e => ha (by rw [e]; decide)), ?_⟩
  rw [f 3 (by decide)]
theorem m_step {M M' : VT} {Y T : Nat} {t : Int32} {s : H4} {K : VT → Prop} (hY : Y ≤ 24) (hT : T ≤ 5) (h0 : M 5 0 = nI Y) (fv : FV Y T (M 5)) (ht : isT T t) (hs : sv Y s) (hq : Mq M M' s) (h : ∀ M'', (∀ a, a ≠ 0 → M'' a = M' a) → Mq M M'' (nxt M t s) → K M'') : wp_X8_goesWith M' t K := by
  have e5 : M' 5 = M 5 := hq.1 5 (by decide)
  have e4 := hq.2.2.2
  have q : (M' 0 16 = s.1 ∧ M' 0 17 = s.2.1 ∧ M' 0 18 = s.2.2.1) := by rw [← e4]; exact ⟨rfl, rfl, rfl⟩
  refine m_goesWith hY hT (by rw [e5]; exact h0) (by rw [e5]; exact fv) ht ?_ (fun M'' f g _ => h M'' f.1 (hq.goes f (by rw [g, nxt_cg e5, e4])))
  rw [q.1, q.2.1, q.2.2]
  exact ⟨⟨hs.2.1.1, by have := hs.2.1.2; omega⟩, hs.2.2.1, hs.2.2.2⟩
theorem m_step0 {M M' : VT} {Y T : Nat} {s : H4} {K : VT → Prop} (hY : Y ≤ 24) (h0 : M 5 0 = nI Y) (hs : sv Y s) (hq : Mq M M' s) (h : ∀ M'', (∀ a, a ≠ 0 → M'' a = M' a) → Mq M M'' (nxt M (-1) s) → K M'') : wp_X8_goes M' 0 0 K := by
  have e5 : M' 5 = M 5 := hq.1 5 (by decide)
  have e4 := hq.2.2.2
  have q : (M' 0 16 = s.1 ∧ M' 0 17 = s.2.1 ∧ M' 0 18 = s.2.2.1) := by rw [← e4]; exact ⟨rfl, rfl, rfl⟩
  have hy1 := @y1_rng 0 0 (M' 0 17) (M' 0 16) (by rw [q.2.1]; exact hs.2.2.1) (by rw [q.1]; have := hs.2.1; omega)
  refine m_goes (Or.inl rfl) (fun c => absurd c (by decide)) (fun c => ?_) (fun M'' f g _ => h M'' f.1 (hq.goes f ?_))
  · rw [e5, h0, i_lt, nI_toInt (by omega)] at c
    have := hs.2.1.1
    rw [q.1] at hy1 c ⊢
    omega
  · rw [g, e5, q.1, q.2.1, q.2.2]
    rfl
theorem pr_end {M : VT} {ts : Nat → Int32} {m k : Nat} {s : H4} (h : ¬ s.2.2.2 = 0) : pr M ts m k s = (k, s) := by
  cases m with
  | zero => rfl
  | succ m => rw [pr, if_neg h]
theorem x_ahead_L {X M : VT} {Y T n : Nat} {w : Int32} {K : Int32 → VT → Prop} (hL : LR X 16 (M 5) (fun i => M 0 (16 + i)) Y T) (hY : 0 < Y) (hn : n ≤ 40) : ∀ (m i : Nat) (X' : VT) (s : H4), i + m = n → fr X X' 15 → hp X' 15 = s → es Y s →
    (∀ X'', fr X X'' 15 → hp X'' 15 = (pr M (fun _ => -1) m i s).2 → wp_X2_tell X'' 15 w (fun r13 V12 => K r13 V12)) → wp_X7_ahead_L51 K (m + 1) X' (nI n) w (nI i) := by
  intro m
  induction m with
  | zero =>
    intro i X' s hi f g he h
    exact ⟨fun _ => h X' f g, fun c => absurd (nI_le (by omega) (by omega)) c⟩
  | succ m ih =>
    intro i X' s hi f g he h
    refine ⟨fun c => absurd c (nI_ge (by omega) (by omega)), fun _ => ?_⟩
    rw [nI_1]
    by_cases e : s.2.2.2 = 0
    · rw [pr, if_pos e] at h
      refine x_pass (t := -1) (hL.sc f (by decide)) hY (Or.inl rfl) (by decide) (he e) g (fun X2 f2 g2 => ih (i + 1) X2 _ (by omega) (f.tr f2) g2 (es_nxt hL.1.1 hL.2.1.2 (hL.2.2.2.2.2.2.2.2.2 hY).1 (he e)) h)
    · rw [pr_end e] at h
      refine ⟨fun c => absurd (show s.2.2.2 = 0 by rw [← g]; exact c) e, fun _ => ih (i + 1) X' s (by omega) f g he (fun X'' f2 g2 => h X'' f2 ?_)⟩
      rw [pr_end e] at g2
      exact g2
theorem m_ahead_L {M : VT} {Y T n : Nat} {w : Int32} {K : Int32 → VT → Prop} (hY : Y ≤ 24) (h0 : M 5 0 = nI Y) (fv : FV Y T (M 5)) (hn : n ≤ 40) : ∀ (m i : Nat) (M' : VT) (s : H4), i + m = n → Mq M M' s → es Y s →
    (∀ M'', Mq M M'' (pr M (fun _ => -1) m i s).2 → wp_X8_ahead_b67 K M'' w) → wp_X8_ahead_L43 K (m + 1) M' (nI n) w (nI i) := by
  intro m
  induction m with
  | zero =>
    intro i M' s hi g he h
    exact ⟨fun _ => h M' g, fun c => absurd (nI_le (by omega) (by omega)) c⟩
  | succ m ih =>
    intro i M' s hi g he h
    refine ⟨fun c => absurd c (nI_ge (by omega) (by omega)), fun _ => ?_⟩
    have e19 : M' 0 19 = s.2.2.2 := by rw [← g.2.2.2]; rfl
    rw [nI_1, e19]
    refine ⟨fun e => ?_, fun e => ?_⟩
    · rw [pr_end e] at h; exact h M' g
    · rw [pr, if_pos e] at h
      exact m_step0 (T := T) hY h0 (he e) g (fun M'' _ g2 => ih (i + 1) M'' _ (by omega) g2 (es_nxt hY h0 fv (he e)) h)
theorem es_hm {M : VT} {Y : Nat} (hv : HV Y (fun i => M 0 (16 + i))) : es Y (hm M) := fun e => HV_sv hv e
theorem hp20 {X M : VT} {Y T : Nat} (hL : LR X 16 (M 5) (fun i => M 0 (16 + i)) Y T) : hp X 20 = hm M := by
  have := hL.2.2.2.2.2.2.2.2.1
  simp only [hp, hm, Prod.mk.injEq]
  exact ⟨this 0 (by decide), this 1 (by decide), this 2 (by decide), this 3 (by decide)⟩
theorem hp_of {V V' : VT} {k j : Nat} (h : ∀ i, i < 4 → V' k i = V j i) : hp V' k = hp V j := by
  simp only [hp, h 0 (by decide), h 1 (by decide), h 2 (by decide), h 3 (by decide)]
theorem q_ahead {X M : VT} (H : RR X M) (a b : Int32) : wp_X7_ahead X a b (fun r X' => wp_X8_ahead M a b (EQ r X')) := by
  obtain ⟨hs, Y, T, h0⟩ := id H
  obtain ⟨hL, isl⟩ := id h0.2.2.1
  unfold wp_X7_ahead
  refine x_there hL.2.1.1 hL.1.1 ?_
  by_cases hY : 0 < Y
  · rw [if_pos hY]
    rw [if_pos hY] at isl
    obtain ⟨fv, hv⟩ := hL.2.2.2.2.2.2.2.2.2 hY
    refine ⟨fun _ => ?_, fun c => absurd c (by decide)⟩
    rcases in_or a 0 40 with ⟨p1, p2⟩ | hp'
    · refine isOut_in p1 p2 ⟨fun c => absurd rfl c, fun _ => ?_⟩
      rcases in_or b 0 3 with ⟨q1, q2⟩ | hq
      · refine isOut_in q1 q2 ⟨fun _ => ?_, fun c => absurd rfl c⟩
        obtain ⟨n, hn, rfl⟩ := nI_in_of (n := 40) rfl p1 p2
        refine s_be (by decide) (fun X1 f1 g1 => ⟨n + 1, x_ahead_L hL hY hn n 0 X1 (hm M) (by omega) f1 ((hp_of g1).trans (hp20 hL)) (es_hm hv) (fun X2 f2 g2 => x_tell ?_)⟩)
        unfold wp_X8_ahead
        rw [isl]
        refine ⟨fun _ => in_in (lo := 0) (hi := 40) rfl rfl p1 p2 ⟨fun c => absurd c (by decide), fun _ => in_in (lo := 0) (hi := 3) rfl rfl q1 q2 ⟨fun _ => s_asides (fun M1 _ g => ⟨n + 1, m_ahead_L hL.1.1 hL.2.1.2 fv hn n 0 M1 (hm M) (by omega) g (es_hm hv) (fun M2 g' => m_hoopOf (s_backs g' (fun M3 _ _ _ _ ms => ⟨?_, H.cg (Xs_of f2) ms⟩)))⟩), fun c => absurd c (by decide)⟩⟩, fun c => absurd c (by decide)⟩
        have e := g2.trans g'.2.2.2.symm
        simp only [hp, hm, Prod.mk.injEq] at e
        obtain ⟨e0, e1, e2, e3⟩ := e
        obtain ⟨j, hj, rfl⟩ := nI_in_of (n := 3) rfl q1 q2
        rcases (show j = 0 ∨ j = 1 ∨ j = 2 ∨ j = 3 by omega) with rfl | rfl | rfl | rfl
        · exact e0
        · exact e1
        · exact e2
        · exact e3
      · refine isOut_out hq ⟨fun c => absurd c (by decide), fun _ => ?_⟩
        unfold wp_X8_ahead
        rw [isl]
        exact ⟨fun _ => in_in (lo := 0) (hi := 40) rfl rfl p1 p2 ⟨fun c => absurd c (by decide), fun _ => in_out (lo := 0) (hi := 3) rfl rfl hq ⟨fun c => absurd rfl c, fun _ => ⟨rfl, H⟩⟩⟩, fun c => absurd c (by decide)⟩
    · refine isOut_out hp' ⟨fun _ => ?_, fun c => absurd c (by decide)⟩
      unfold wp_X8_ahead
      rw [isl]
      exact ⟨fun _ => in_out (lo := 0) (hi := 40) rfl rfl hp' ⟨fun _ => ⟨rfl, H⟩, fun c => absurd rfl c⟩, fun c => absurd c (by decide)⟩
  · rw [if_neg hY]
    rw [if_neg hY] at isl
    refine ⟨fun c => absurd rfl c, fun _ => ?_⟩
    unfold wp_X8_ahead
    rw [isl]
    exact ⟨fun c => absurd rfl c, fun _ => ⟨rfl, H⟩⟩
