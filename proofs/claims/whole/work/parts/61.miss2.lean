/-! miss -/
abbrev EQl (r : Int64) (X' : VT) : Int64 → VT → Prop := fun r' M' => r = r' ∧ RR X' M'
section MISS
variable {X M : VT} {Y T n : Nat} {ts : Nat → Int32}
theorem x_home_L {i0 r A : Nat} {K : Int32 → VT → Prop} (hL : LR X 16 (M 5) (fun i => M 0 (16 + i)) Y T) (hY : 0 < Y) (hn : i0 + n ≤ 40) (hr : r < 8) (hts : ∀ q, q < n → X (36 + 2 * r + 1) (i0 + q) = ts q) (hT : ∀ q, q < n → isT T (ts q)) (hA : A < 256) (hc : cT ts n ≤ 8) : ∀ (m i : Nat) (X' : VT) (s : H4), i + m = n → fr X X' 15 → hp X' 15 = s → es Y s →
    (∀ X'', fr X X'' 15 → K (if (pr M (mt ts A) m i s).2.2.2.2 = 2 then 1 else 0) X'') → wp_X7_isHomeIf_L20 K (m + 1) X' (nI A) (36 + 2 * r) (nI i0) (nI n) (nI (cT ts i)) (nI i) := by
  have done : ∀ (X' : VT) (s : H4), hp X' 15 = s → K (if s.2.2.2 = 2 then 1 else 0) X' → wp_X7_isHomeIf_b109 K X' := by
    intro X' s g h
    have e3 : X' 15 3 = s.2.2.2 := by rw [← g]; rfl
    unfold wp_X7_isHomeIf_b109
    rw [e3]
    exact ⟨fun c => by rw [if_neg c] at h; exact h, fun c => by rw [if_pos c] at h; exact h⟩
  have hT5 := hL.1.2.1
  intro m
  induction m with
  | zero =>
    intro i X' s hi f g he h
    exact ⟨fun _ => done X' s g (h X' f), fun c => absurd (nI_le (by omega) (by omega)) c⟩
  | succ m ih =>
    intro i X' s hi f g he h
    have e3 : X' 15 3 = s.2.2.2 := by rw [← g]; rfl
    refine ⟨fun c => absurd c (nI_ge (by omega) (by omega)), fun _ => ⟨fun c => ?_, fun c => ?_⟩⟩
    · rw [e3] at c
      rw [pr_end c] at h
      exact done X' s g (h X' f)
    · rw [e3] at c
      rw [pr, if_pos c] at h
      rw [nI_add]
      refine ⟨vpn (by omega) (by decide), ?_⟩
      rw [nI_c (by omega), f _ (by omega), hts i (by omega)]
      have nx : ∀ t, isT T t → t = mt ts A i → wp_X7_isHomeIf_b74 K (wp_X7_isHomeIf_L20 K (m + 1)) X' (nI A) (36 + 2 * r) (nI i0) (nI n) (nI (cT ts (i + 1))) (nI i) t := by
        intro t ht et
        unfold wp_X7_isHomeIf_b74
        rw [nI_1]
        refine x_kindT (hL.sc f (by decide)) ht (x_forceT (hL.sc f (by decide)) ht ?_)
        refine x_pass (hL.sc f (by decide)) hY ht (by decide) (he c) g (fun X2 f2 g2 => ih (i + 1) X2 _ (by omega) (f.tr f2) g2 (es_nxt hL.1.1 hL.2.1.2 (hL.2.2.2.2.2.2.2.2.2 hY).1 (he c)) ?_)
        rw [et]
        exact h
      have ok := hT i (by omega)
      refine ⟨fun d => ?_, fun d => ?_⟩
      · rw [isT_neg hT5 ok] at d
        have := nx (ts i) ok (by unfold mt; rw [if_pos d]; exact d)
        rw [cT, if_pos d] at this
        exact this
      · rw [isT_neg hT5 ok] at d
        have cl := cT_lt (n := n) (by omega) d
        have e1 : cT ts (i + 1) = cT ts i + 1 := by rw [cT, if_neg d]
        rw [e1] at nx
        unfold wp_X7_isHomeIf_b69
        rw [bt_m A hA (cT ts i) (by omega), nI_1]
        refine ⟨fun q => nx (ts i) ok ?_, fun q => nx (-1) (Or.inl rfl) ?_⟩
        · unfold mt; rw [if_neg d, if_neg q]
        · unfold mt; rw [if_neg d, if_pos q]
theorem x_home {i0 r A : Nat} {X' : VT} {K : Int32 → VT → Prop} (hL : LR X 16 (M 5) (fun i => M 0 (16 + i)) Y T) (hY : 0 < Y) (hn : i0 + n ≤ 40) (hr : r < 8) (hts : ∀ q, q < n → X (36 + 2 * r + 1) (i0 + q) = ts q) (hT : ∀ q, q < n → isT T (ts q)) (hA : A < 256) (hc : cT ts n ≤ 8) (hv : HV Y (fun i => M 0 (16 + i))) (f : fr X X' 15) (h : ∀ X'', fr X X'' 15 → K (if (pr M (mt ts A) n 0 (hm M)).2.2.2.2 = 2 then 1 else 0) X'') : wp_X7_isHomeIf X' (nI A) (36 + 2 * r) (nI i0) (nI n) K := by
  refine s_be (by decide) (fun X2 f2 g2 => ?_)
  have h20 : hp X' 20 = hm M := by
    have := hp20 hL
    rw [← this]
    simp only [hp, f 20 (by decide)]
  exact ⟨n + 1, x_home_L hL hY hn hr hts hT hA hc n 0 X2 (hm M) (by omega) (f.tr f2) ((hp_of g2).trans h20) (es_hm hv) h⟩
theorem x_miss_L {i0 r p : Nat} {w : Int32} {K : Int64 → VT → Prop} (hL : LR X 16 (M 5) (fun i => M 0 (16 + i)) Y T) (hY : 0 < Y) (hn : i0 + n ≤ 40) (hr : r < 8) (hp10 : p ≤ 10) (hts : ∀ q, q < n → X (36 + 2 * r + 1) (i0 + q) = ts q) (hT : ∀ q, q < n → isT T (ts q)) (hc : cT ts n ≤ 8) (hv : HV Y (fun i => M 0 (16 + i))) (h : ∀ X'', fr X X'' 15 → K (mV w (sA M ts p n (hm M) (2 ^ cT ts n)) (10 ^ cT ts n)) X'') : ∀ (m A : Nat) (X' : VT), A + m = 2 ^ cT ts n → fr X X' 15 → wp_X7_miss_L128 K (m + 1) X' (nI i0) (nI n) (nI p) w (36 + 2 * r) (nI (cT ts n)) (lN (sA M ts p n (hm M) A)) (nI A) := by
  have c256 : 2 ^ cT ts n ≤ 256 := Nat.pow_le_pow_right (by decide) hc
  have c10 : 10 ^ cT ts n ≤ 10 ^ 8 := Nat.pow_le_pow_right (by decide) hc
  have p10 : 0 < 10 ^ cT ts n := Nat.pow_pos (by decide)
  intro m
  induction m with
  | zero =>
    intro A X' hA f
    have e : A = 2 ^ cT ts n := by omega
    subst e
    have hK := h X' f
    have sl := sA_le (M := M) (ts := ts) (n := n) (s := hm M) hp10 (2 ^ cT ts n)
    have sl2 := Nat.mul_le_mul c256 c10
    have gp : 0 < Nat.gcd (10 ^ cT ts n) (sA M ts p n (hm M) (2 ^ cT ts n)) := Nat.gcd_pos_of_pos_left _ p10
    have gl : Nat.gcd (10 ^ cT ts n) (sA M ts p n (hm M) (2 ^ cT ts n)) ≤ 10 ^ cT ts n := Nat.gcd_le_left _ p10
    unfold wp_X7_miss_L128
    rw [sh_m _ (by omega)]
    refine ⟨fun _ => x_power (b := 10) (t := cT ts n) (by decide) (by omega) (x_gcd (by omega) (by omega) ?_), fun c => absurd (nI_le (Nat.le_refl _) (by omega)) c⟩
    have nz : ¬ lN (Nat.gcd (10 ^ cT ts n) (sA M ts p n (hm M) (2 ^ cT ts n))) = 0 := fun z => by
      have := (lN_z (by omega)).mp z
      omega
    unfold mV at hK
    refine ⟨fun _ => ⟨fun z => ⟨nz, ?_⟩, fun z => ⟨nz, ?_⟩⟩, fun z => absurd ((lg_eq0 _ _).mp z) nz⟩
    · rw [if_neg z] at hK; exact hK
    · rw [if_pos z] at hK; exact hK
  | succ m ih =>
    intro A X' hA f
    unfold wp_X7_miss_L128
    rw [sh_m _ (by omega)]
    refine ⟨fun c => absurd c (nI_ge (by omega) (by omega)), fun _ => ?_⟩
    refine x_home hL hY hn hr hts hT (by omega) hc hv f (fun X2 f2 => ?_)
    have nx := ih (A + 1) X2 (by omega) f2
    rw [sA] at nx
    unfold wp_X7_miss_b183
    rw [nI_1]
    by_cases q : (pr M (mt ts A) n 0 (hm M)).2.2.2.2 = 2
    · rw [if_pos q] at nx ⊢
      refine ⟨fun z => absurd z (by decide), fun _ => x_bits (c := cT ts n) (by omega) (by omega) ?_⟩
      have bl := bc_le A (cT ts n)
      refine x_power (by omega) (by omega) ?_
      rw [show (10 : Int32) = nI 10 from rfl, pk_sub hp10, pk_sub bl]
      refine x_power (by omega) (by omega) ?_
      rw [lN_mul, lN_add, ← fP_eq]
      exact nx
    · rw [if_neg q] at nx ⊢
      exact ⟨fun _ => nx, fun z => absurd rfl z⟩
theorem m_miss_in {b A p c : Nat} {w : Int32} {S : Nat} {y11 : Int64} {K : Int64 → VT → Prop} {KL : VT → Int32 → Int32 → Int32 → Int32 → Int32 → Int64 → Int64 → Int32 → Prop} (hY : Y ≤ 24) (hT5 : T ≤ 5) (h0 : M 5 0 = nI Y) (fv : FV Y T (M 5)) (hn : b + n ≤ 320) (hp10 : p ≤ 10) (hts : ∀ q, q < n → M 3 (b + q) = ts q) (hT : ∀ q, q < n → isT T (ts q)) (hA : A < 256) (hc : cT ts n ≤ 8) : ∀ (m i : Nat) (M' : VT) (s : H4), i + m = n → Mq M M' s → es Y s →
    (∀ M'', Ms M M'' → Mq M M'' (hm M) → KL M'' (nI n) (nI p) w (nI b) (nI c) (lN (S + (if (pr M (mt ts A) m i s).2.2.2.2 = 2 then fP ts A p n else 0))) y11 (nI (A + 1))) → wp_X8_miss_L201 K KL (m + 1) M' (nI n) (nI p) w (nI b) (nI c) (lN S) y11 (nI A) (lN (fP ts A p i)) (nI (cT ts i)) (nI i) := by
  intro m
  induction m with
  | zero =>
    intro i M' s hi g he h
    have : i = n := by omega
    subst this
    have e19 : M' 0 19 = s.2.2.2 := by rw [← g.2.2.2]; rfl
    refine ⟨fun _ => ?_, fun c => absurd (nI_le (by omega) (by omega)) c⟩
    unfold wp_X8_miss_b315
    rw [e19, nI_1]
    have hs : (pr M (mt ts A) 0 i s).2.2.2.2 = s.2.2.2 := rfl
    rw [hs] at h
    refine ⟨fun z => s_backs g (fun M2 _ i5 hh _ ms => ?_), fun z => s_backs g (fun M2 _ i5 hh _ ms => ?_)⟩
    · rw [if_neg z] at h
      rw [show (0 : Int64) = lN 0 from rfl, lN_add]
      exact h M2 ms (Mq.back ms i5 hh)
    · rw [if_pos z] at h
      rw [lN_add]
      exact h M2 ms (Mq.back ms i5 hh)
  | succ m ih =>
    intro i M' s hi g he h
    have e19 : M' 0 19 = s.2.2.2 := by rw [← g.2.2.2]; rfl
    have ok := hT i (by omega)
    unfold wp_X8_miss_L201
    rw [nI_add]
    refine ⟨fun z => absurd z (nI_ge (by omega) (by omega)), fun _ => ⟨vpn (by omega) (by decide), ?_⟩⟩
    rw [nI_c (by omega), g.1 3 (by decide), hts i (by omega)]
    have nx : ∀ t, isT T t → t = mt ts A i → wp_X8_miss_b280 K (wp_X8_miss_L201 K KL (m + 1)) KL M' (nI n) (nI p) w (nI b) (nI c) (lN S) y11 (nI A) (lN (fP ts A p (i + 1))) (nI (cT ts (i + 1))) (nI i) t := by
      intro t ht et
      unfold wp_X8_miss_b280 wp_X8_miss_b293
      rw [e19, nI_1]
      refine ⟨fun z => ?_, fun z => ?_⟩
      · refine ih (i + 1) M' s (by omega) g he ?_
        rw [pr_end z] at h ⊢
        exact h
      · refine m_step hY hT5 h0 fv ht (he z) g (fun M2 _ g2 => ih (i + 1) M2 _ (by omega) g2 (es_nxt hY h0 fv (he z)) ?_)
        rw [pr, if_pos z] at h
        rw [et]
        exact h
    rw [cT, fP] at nx
    refine ⟨fun d => ?_, fun d => ?_⟩
    · rw [isT_neg hT5 ok] at d
      rw [if_pos d, if_pos d, Nat.mul_one, Nat.add_zero] at nx
      exact nx (ts i) ok (by unfold mt; rw [if_pos d]; exact d)
    · rw [isT_neg hT5 ok] at d
      have cl := cT_lt (n := n) (by omega) d
      rw [if_neg d, if_neg d] at nx
      unfold wp_X8_miss_b240 wp_X8_miss_b261 wp_X8_miss_b275
      rw [bt_m A hA (cT ts i) (by omega), nI_1, show (10 : Int32) = nI 10 from rfl, pk_sub hp10, nI_l (by omega), nI_l (by omega), lN_mul, lN_mul]
      refine ⟨fun q => ?_, fun q => ?_⟩
      · rw [if_neg q] at nx
        have := nx (ts i) ok (by unfold mt; rw [if_neg d, if_neg q])
        exact ⟨fun _ => ⟨fun _ => this, fun z => absurd rfl z⟩, fun z => absurd rfl z⟩
      · rw [if_pos q] at nx
        have := nx (-1) (Or.inl rfl) (by unfold mt; rw [if_neg d, if_pos q])
        exact ⟨fun z => absurd z (by decide), fun _ => ⟨fun z => absurd z (by decide), fun _ => this⟩⟩
theorem m_miss_L {b p : Nat} {w : Int32} {K : Int64 → VT → Prop} (hY : Y ≤ 24) (hT5 : T ≤ 5) (h0 : M 5 0 = nI Y) (fv : FV Y T (M 5)) (hn : b + n ≤ 320) (hp10 : p ≤ 10) (hts : ∀ q, q < n → M 3 (b + q) = ts q) (hT : ∀ q, q < n → isT T (ts q)) (hc : cT ts n ≤ 8) (hv : HV Y (fun i => M 0 (16 + i))) (h : ∀ M'', Ms M M'' → K (mV w (sA M ts p n (hm M) (2 ^ cT ts n)) (10 ^ cT ts n)) (up2 M'' 0 4 0)) : ∀ (m A : Nat) (M' : VT), A + m = 2 ^ cT ts n → Mq M M' (hm M) → Ms M M' → wp_X8_miss_L183 K (m + 1) M' (nI n) (nI p) w (nI b) (nI (cT ts n)) (lN (sA M ts p n (hm M) A)) (lN (10 ^ cT ts n)) (nI A) := by
  have c256 : 2 ^ cT ts n ≤ 256 := Nat.pow_le_pow_right (by decide) hc
  have c10 : 10 ^ cT ts n ≤ 10 ^ 8 := Nat.pow_le_pow_right (by decide) hc
  have p10 : 0 < 10 ^ cT ts n := Nat.pow_pos (by decide)
  intro m
  induction m with
  | zero =>
    intro A M' hA g ms
    have e : A = 2 ^ cT ts n := by omega
    subst e
    have hK := h M' ms
    have sl := sA_le (M := M) (ts := ts) (n := n) (s := hm M) hp10 (2 ^ cT ts n)
    have sl2 := Nat.mul_le_mul c256 c10
    have gp : 0 < Nat.gcd (10 ^ cT ts n) (sA M ts p n (hm M) (2 ^ cT ts n)) := Nat.gcd_pos_of_pos_left _ p10
    have gl : Nat.gcd (10 ^ cT ts n) (sA M ts p n (hm M) (2 ^ cT ts n)) ≤ 10 ^ cT ts n := Nat.gcd_le_left _ p10
    unfold wp_X8_miss_L183
    rw [sh_m _ (by omega)]
    refine ⟨fun _ => m_gcd (by omega) (by omega) ?_, fun c => absurd (nI_le (Nat.le_refl _) (by omega)) c⟩
    rw [Nat.gcd_comm]
    intro V30 e30
    subst e30
    have nz : ¬ lN (Nat.gcd (10 ^ cT ts n) (sA M ts p n (hm M) (2 ^ cT ts n))) = 0 := fun z => by
      have := (lN_z (by omega)).mp z
      omega
    unfold mV at hK
    refine ⟨fun z => ⟨nz, ?_⟩, fun z => ⟨nz, ?_⟩⟩
    · rw [if_neg z] at hK; exact hK
    · rw [if_pos z] at hK; exact hK
  | succ m ih =>
    intro A M' hA g ms
    unfold wp_X8_miss_L183
    rw [sh_m _ (by omega)]
    refine ⟨fun c => absurd c (nI_ge (by omega) (by omega)), fun _ => ⟨n + 1, m_miss_in (ts := ts) (KL := wp_X8_miss_L183 K (m + 1)) hY hT5 h0 fv hn hp10 hts hT (by omega) hc n 0 M' (hm M) (by omega) g (es_hm hv) (fun M2 ms2 g2 => ih (A + 1) M2 (by omega) g2 ms2)⟩⟩
theorem m_ten_L {b p : Nat} {w : Int32} {K : Int64 → VT → Prop} {M' : VT} {c : Nat} (hc : c < 1000) (h : ∃ n183 : Nat, wp_X8_miss_L183 K n183 M' (nI n) (nI p) w (nI b) (nI c) (lN 0) (lN (10 ^ c)) (nI 0)) : ∀ (m k : Nat), k + m = c → wp_X8_miss_L159 K (m + 1) M' (nI n) (nI p) w (nI b) (nI c) (lN 0) (lN (10 ^ k)) (nI k) := by
  intro m
  induction m with
  | zero =>
    intro k hk
    have : k = c := by omega
    subst this
    exact ⟨fun _ => h, fun z => absurd (nI_le (Nat.le_refl _) (by omega)) z⟩
  | succ m ih =>
    intro k hk
    refine ⟨fun z => absurd z (nI_ge (by omega) (by omega)), fun _ => ?_⟩
    rw [show (10 : Int64) = lN 10 from rfl, lN_mul, ← Nat.pow_succ, nI_1]
    exact ih (k + 1) (by omega)
theorem m_many_L {b p : Nat} {w : Int32} {K : Int64 → VT → Prop} (hn : b + n ≤ 320) (hts : ∀ q, q < n → M 3 (b + q) = ts q) (h : wp_X8_asides M (fun V23 => ∃ n159 : Nat, wp_X8_miss_L159 K n159 V23 (nI n) (nI p) w (nI b) (nI (cT ts n)) 0 1 0)) : ∀ (m k : Nat), k + m = n → wp_X8_miss_L110 K (m + 1) M (nI n) (nI p) w (nI b) (nI (cT ts k)) (nI k) := by
  intro m
  induction m with
  | zero =>
    intro k hk
    have : k = n := by omega
    subst this
    exact ⟨fun _ => h, fun z => absurd (nI_le (Nat.le_refl _) (by omega)) z⟩
  | succ m ih =>
    intro k hk
    have nx := ih (k + 1) (by omega)
    rw [cT] at nx
    unfold wp_X8_miss_L110 wp_X8_miss_b137
    rw [nI_add, nI_c (by omega), hts k (by omega), nI_1, nI_1, Int32.add_zero]
    refine ⟨fun z => absurd z (nI_ge (by omega) (by omega)), fun _ => ⟨vpn (by omega) (by decide), fun z => ?_, fun z => ?_⟩⟩
    · rw [if_neg z] at nx; exact nx
    · rw [if_pos z] at nx; exact nx
end MISS
theorem q_miss {X M : VT} (H : RR X M) (a i n p w : Int32) : wp_X7_miss X a i n p w (fun r X' => wp_X8_miss M a i n p w (EQl r X')) := by
  obtain ⟨hs, Y, T, h0⟩ := id H
  obtain ⟨hL, isl⟩ := id h0.2.2.1
  unfold wp_X7_miss wp_X7_miss_b55 wp_X7_miss_b113
  refine x_there hL.2.1.1 hL.1.1 ?_
  by_cases hY : 0 < Y
  · rw [if_pos hY]
    rw [if_pos hY] at isl
    obtain ⟨fv, hv⟩ := hL.2.2.2.2.2.2.2.2.2 hY
    refine ⟨fun _ => ?_, fun c => absurd c (by decide)⟩
    rcases in_or a 0 7 with ⟨p1, p2⟩ | hp'
    · refine isOut_in p1 p2 ⟨fun c => absurd rfl c, fun _ => ?_⟩
      rcases in_or n 1 24 with ⟨q1, q2⟩ | hq
      · refine isOut_in q1 q2 ⟨fun c => absurd rfl c, fun _ => ?_⟩
        rcases in_or p 0 10 with ⟨u1, u2⟩ | hu
        · refine isOut_in u1 u2 ⟨fun c => absurd rfl c, fun _ => ?_⟩
          rcases in_or w 0 1 with ⟨r1, r2⟩ | hr
          · refine isOut_in r1 r2 ⟨fun _ => ?_, fun c => absurd rfl c⟩
            obtain ⟨r, hr7, rfl⟩ := nI_in_of (n := 7) rfl p1 p2
            obtain ⟨pp, hpp, rfl⟩ := nI_in_of (n := 10) rfl u1 u2
            have cr : (nI r).toNatClampNeg = r := nI_c (by omega)
            rw [cr]
            have head : ∀ {K : Int64 → VT → Prop}, wp_X8_partOf M (nI r) i n (fun r15 V14 => (r15 ≤ 0 → wp_X8_areTaps V14 ((40 : Int32) * nI r + i) n 8 (fun r18 V17 => (¬ r18 = 0 → ∃ n110 : Nat, wp_X8_miss_L110 K n110 V17 n (nI pp) w ((40 : Int32) * nI r + i) 0 0) ∧ (r18 = 0 → K (-1000001) V17))) ∧ (¬ r15 ≤ 0 → wp_X8_finds V14 r15 (fun r21 V20 => K r21.toInt64 V20))) → wp_X8_miss M (nI r) i n (nI pp) w K := fun hh => i_hd isl (isRow_in p1 p2 ⟨fun c => absurd c (by decide), fun _ => in_in (lo := 1) (hi := 24) rfl rfl q1 q2 ⟨fun c => absurd c (by decide), fun _ => in_in (lo := 0) (hi := 10) rfl rfl u1 u2 ⟨fun c => absurd c (by decide), fun _ => in_in (lo := 0) (hi := 1) rfl rfl r1 r2 ⟨fun _ => hh, fun c => absurd c (by decide)⟩⟩⟩⟩)
            refine ⟨vpn (by omega) (by decide), x_find h0.1 (by omega) ⟨fun f => ?_, fun f => ?_⟩⟩
            · obtain ⟨i0, n0, s0, rfl, rfl, e3, e4, e5, e6⟩ := FA_0 h0.1 (by omega) f
              have n24 : n0 ≤ 24 := by
                rw [i_le, nI_toInt (by omega)] at q2
                have : (24 : Int32).toInt = 24 := rfl
                omega
              have hts := row_ts (n := n0) h0.1 (by omega : r < 8) e6 (by omega : i0 + n0 ≤ 40)
              have ix : (40 : Int32) * nI r + nI i0 = nI (40 * r + i0) := nI_ix (c := 40)
              have mid : ∀ {K : Int64 → VT → Prop}, wp_X8_areTaps M (nI (40 * r + i0)) (nI n0) 8 (fun r18 V17 => (¬ r18 = 0 → ∃ n110 : Nat, wp_X8_miss_L110 K n110 V17 (nI n0) (nI pp) w (nI (40 * r + i0)) 0 0) ∧ (r18 = 0 → K (-1000001) V17)) → wp_X8_miss M (nI r) (nI i0) (nI n0) (nI pp) w K := by
                intro K hh
                refine head (m_partOf h0.1 (by omega) ?_)
                rw [f, ix]
                exact ⟨fun _ => hh, fun c => absurd (by decide) c⟩
              have bad : ∀ {K : Int64 → VT → Prop}, ((∃ q, q < n0 ∧ ¬ isT T (M 3 (40 * r + i0 + q))) ∨ 8 < cT (fun q => M 3 (40 * r + i0 + q)) n0) → K (-1000001) M → wp_X8_miss M (nI r) (nI i0) (nI n0) (nI pp) w K := by
                intro K bb hh
                refine mid ⟨n0 + 1, m_are_L (T := T) (most := 8) (ts := fun q => M 3 (40 * r + i0 + q)) hL.1.2.1 hL.2.2.1.2 (by omega) (by decide) (fun q _ => rfl) (fun ok le => ?_) (fun _ => ⟨fun c => absurd rfl c, fun _ => hh⟩) n0 0 (by omega) (fun q hq => absurd hq (by omega))⟩
                rcases bb with ⟨q, hq, z⟩ | z
                · exact absurd (ok q hq) z
                · omega
              refine ⟨n0 + 1, x_taps_L (T := T) (i0 := i0) (n := n0) (ts := fun q => M 3 (40 * r + i0 + q)) hL.1.2.1 hL.2.2.1.1 (by omega) hts (fun ok => ?_) (fun bb => ⟨fun _ => bad (Or.inl bb) ⟨rfl, H⟩, fun c => absurd rfl c⟩) n0 0 (by omega) (fun q hq => absurd hq (by omega))⟩
              have cle := cT_le (fun q => M 3 (40 * r + i0 + q)) n0
              refine ⟨fun c => absurd (show nI (cT (fun q => M 3 (40 * r + i0 + q)) n0) < 0 by rw [c]; decide +kernel) (nI_pos (by omega)), fun _ => ?_⟩
              rw [show (8 : Int32) = nI 8 from rfl, nI_leI (by omega) (by decide)]
              refine ⟨fun c8 => ?_, fun c8 => bad (Or.inr (by omega)) ⟨rfl, H⟩⟩
              intro X1 e1
              have hL1 : LR X1 16 (M 5) (fun i => M 0 (16 + i)) Y T := by rw [e1]; exact hL.st
              refine ⟨2 ^ cT (fun q => M 3 (40 * r + i0 + q)) n0 + 1, x_miss_L (ts := fun q => M 3 (40 * r + i0 + q)) hL1 hY (by omega) (by omega) hpp (fun q hq => by rw [e1, up2_ne (by omega)]; exact hts q hq) ok c8 hv (fun X2 f2 => ?_) _ 0 X1 (by omega) fr_rf⟩
              have nobad : ((∃ q, q < n0 ∧ ¬ isT T (M 3 (40 * r + i0 + q))) ∨ 8 < cT (fun q => M 3 (40 * r + i0 + q)) n0) → False := by
                rintro (⟨q, hq, z⟩ | z)
                · exact z (ok q hq)
                · omega
              have run : ∃ n110 : Nat, wp_X8_miss_L110 (EQl (mV w (sA M (fun q => M 3 (40 * r + i0 + q)) pp n0 (hm M) (2 ^ cT (fun q => M 3 (40 * r + i0 + q)) n0)) (10 ^ cT (fun q => M 3 (40 * r + i0 + q)) n0)) X2) n110 M (nI n0) (nI pp) w (nI (40 * r + i0)) 0 0 := by
                have go : wp_X8_asides M (fun V23 => ∃ n159 : Nat, wp_X8_miss_L159 (EQl (mV w (sA M (fun q => M 3 (40 * r + i0 + q)) pp n0 (hm M) (2 ^ cT (fun q => M 3 (40 * r + i0 + q)) n0)) (10 ^ cT (fun q => M 3 (40 * r + i0 + q)) n0)) X2) n159 V23 (nI n0) (nI pp) w (nI (40 * r + i0)) (nI (cT (fun q => M 3 (40 * r + i0 + q)) n0)) 0 1 0) := by
                  refine s_asidesM (fun M1 g1 ms1 => ⟨cT (fun q => M 3 (40 * r + i0 + q)) n0 + 1, ?_⟩)
                  have ten : ∃ n183 : Nat, wp_X8_miss_L183 (EQl (mV w (sA M (fun q => M 3 (40 * r + i0 + q)) pp n0 (hm M) (2 ^ cT (fun q => M 3 (40 * r + i0 + q)) n0)) (10 ^ cT (fun q => M 3 (40 * r + i0 + q)) n0)) X2) n183 M1 (nI n0) (nI pp) w (nI (40 * r + i0)) (nI (cT (fun q => M 3 (40 * r + i0 + q)) n0)) (lN 0) (lN (10 ^ cT (fun q => M 3 (40 * r + i0 + q)) n0)) (nI 0) := by
                    refine ⟨2 ^ cT (fun q => M 3 (40 * r + i0 + q)) n0 + 1, m_miss_L (ts := fun q => M 3 (40 * r + i0 + q)) (b := 40 * r + i0) (n := n0) hL.1.1 hL.1.2.1 hL.2.1.2 fv (by omega) hpp (fun q _ => rfl) ok c8 hv (fun M2 ms2 => ⟨rfl, ?_⟩) _ 0 M1 (by omega) g1 ms1⟩
                    have hst := H.st (u := 0)
                    rw [← e1] at hst
                    exact hst.cg (Xs_of f2) ms2.up
                  exact m_ten_L (b := 40 * r + i0) (n := n0) (p := pp) (by omega) ten (cT (fun q => M 3 (40 * r + i0 + q)) n0) 0 (by omega)
                exact ⟨n0 + 1, m_many_L (ts := fun q => M 3 (40 * r + i0 + q)) (b := 40 * r + i0) (n := n0) (p := pp) (by omega) (fun q _ => rfl) go n0 0 (by omega)⟩
              exact mid ⟨n0 + 1, m_are_L (T := T) (most := 8) (ts := fun q => M 3 (40 * r + i0 + q)) hL.1.2.1 hL.2.2.1.2 (by omega) (by decide) (fun q _ => rfl) (fun _ _ => ⟨fun _ => run, fun c => absurd c (by decide)⟩) (fun bb => (nobad bb).elim) n0 0 (by omega) (fun q hq => absurd hq (by omega))⟩
            · refine q_found H _ (fun X1 hR => head (m_partOf h0.1 (by omega) ⟨fun c => ?_, fun _ M1 m1 => ?_⟩))
              · rcases FA_or M r i n with z | z | z
                · exact absurd z f
                · rw [z] at c; exact absurd c (by decide)
                · rw [z] at c; exact absurd c (by decide)
              · subst m1; exact ⟨rfl, hR⟩
          · exact isOut_out hr ⟨fun c => absurd c (by decide), fun _ => i_hd isl (isRow_in p1 p2 ⟨fun c => absurd c (by decide), fun _ => in_in (lo := 1) (hi := 24) rfl rfl q1 q2 ⟨fun c => absurd c (by decide), fun _ => in_in (lo := 0) (hi := 10) rfl rfl u1 u2 ⟨fun c => absurd c (by decide), fun _ => in_out (lo := 0) (hi := 1) rfl rfl hr ⟨fun c => absurd rfl c, fun _ => ⟨rfl, H⟩⟩⟩⟩⟩)⟩
        · exact isOut_out hu ⟨fun _ => i_hd isl (isRow_in p1 p2 ⟨fun c => absurd c (by decide), fun _ => in_in (lo := 1) (hi := 24) rfl rfl q1 q2 ⟨fun c => absurd c (by decide), fun _ => in_out (lo := 0) (hi := 10) rfl rfl hu ⟨fun _ => ⟨rfl, H⟩, fun c => absurd rfl c⟩⟩⟩), fun c => absurd c (by decide)⟩
      · exact isOut_out hq ⟨fun _ => i_hd isl (isRow_in p1 p2 ⟨fun c => absurd c (by decide), fun _ => in_out (lo := 1) (hi := 24) rfl rfl hq ⟨fun _ => ⟨rfl, H⟩, fun c => absurd rfl c⟩⟩), fun c => absurd c (by decide)⟩
    · exact isOut_out hp' ⟨fun _ => i_hd isl (isRow_out hp' ⟨fun _ => ⟨rfl, H⟩, fun c => absurd rfl c⟩), fun c => absurd c (by decide)⟩
  · rw [if_neg hY]
    rw [if_neg hY] at isl
    exact ⟨fun c => absurd rfl c, fun _ => i_hd0 isl ⟨rfl, H⟩⟩
