/-! images -/
theorem s_lbe {V : VT} {k0 k1 : Nat} {K : VT → Prop} (hd : k0 + 5 ≤ k1 ∨ k1 + 5 ≤ k0) (h : ∀ V' : VT, (∀ a, (a < k0 ∨ k0 + 5 ≤ a) → V' a = V a) → (∀ i, i < 24 → V' (k0 + 1) i = V (k1 + 1) i) → (∀ i, i < 5 → V' (k0 + 2) i = V (k1 + 2) i) → (∀ i, i < 5 → V' (k0 + 3) i = V (k1 + 3) i) → (∀ i, i < 4 → V' (k0 + 4) i = V (k1 + 4) i) → (∀ i, 4 ≤ i → i ≤ 8 → V' k0 i = V k1 i) → K V') : wp_X3_be V k0 k1 K := by
  unfold wp_X3_be
  refine ⟨by decide, by decide, by decide, by decide, by decide, fun V1 e1 => ⟨by decide, by decide, by decide, by decide, by decide, fun V2 e2 => ⟨by decide, by decide, by decide, by decide, by decide, fun V3 e3 => s_be (by omega) (fun V4 f4 g4 V5 e5 V6 e6 V7 e7 V8 e8 V9 e9 => ?_)⟩⟩⟩
  have n1 : ∀ a, a ≠ k0 + 1 → V1 a = V a := fun a q => by rw [e1, upc_ne q]
  have n2 : ∀ a, a ≠ k0 + 2 → V2 a = V1 a := fun a q => by rw [e2, upc_ne q]
  have n3 : ∀ a, a ≠ k0 + 3 → V3 a = V2 a := fun a q => by rw [e3, upc_ne q]
  have n9 : ∀ a, a ≠ k0 → V9 a = V4 a := fun a q => by rw [e9, up2_ne q, e8, up2_ne q, e7, up2_ne q, e6, up2_ne q, e5, up2_ne q]
  have cp : ∀ (f g : Nat → Int32) (n i : Nat), i < n → va_cpy f g 0 0 n i = f i := fun f g n i hi => by
    unfold va_cpy
    rw [if_pos ⟨Nat.zero_le _, by omega⟩, Nat.zero_add, Nat.sub_zero]
  have k1s : V4 k1 = V k1 := by rw [f4 k1 (by omega), n3 k1 (by omega), n2 k1 (by omega), n1 k1 (by omega)]
  refine h V9 (fun a ha => ?_) (fun i hi => ?_) (fun i hi => ?_) (fun i hi => ?_) (fun i hi => ?_) (fun i h1 h2 => ?_)
  · rw [n9 a (by omega), f4 a (by omega), n3 a (by omega), n2 a (by omega), n1 a (by omega)]
  · rw [n9 _ (by omega), f4 _ (by omega), n3 _ (by omega), n2 _ (by omega), e1, upc_self]
    exact cp _ _ 24 i hi
  · rw [n9 _ (by omega), f4 _ (by omega), n3 _ (by omega), e2, upc_self, n1 (k1 + 2) (by omega)]
    exact cp _ _ 5 i hi
  · rw [n9 _ (by omega), f4 _ (by omega), e3, upc_self, n2 (k1 + 3) (by omega), n1 (k1 + 3) (by omega)]
    exact cp _ _ 5 i hi
  · rw [n9 _ (by omega), g4 i hi, n3 _ (by omega), n2 _ (by omega), n1 _ (by omega)]
  · have o5 : V5 k1 = V4 k1 := by rw [e5, up2_ne (by omega)]
    have o6 : V6 k1 = V4 k1 := by rw [e6, up2_ne (by omega), o5]
    have o7 : V7 k1 = V4 k1 := by rw [e7, up2_ne (by omega), o6]
    have o8 : V8 k1 = V4 k1 := by rw [e8, up2_ne (by omega), o7]
    rw [← k1s]
    rcases (show i = 4 ∨ i = 5 ∨ i = 6 ∨ i = 7 ∨ i = 8 by omega) with rfl | rfl | rfl | rfl | rfl
    · rw [e9, up2_selfn (by decide), e8, up2_selfn (by decide), e7, up2_selfn (by decide), e6, up2_selfn (by decide), e5, up2_self]
    · rw [e9, up2_selfn (by decide), e8, up2_selfn (by decide), e7, up2_selfn (by decide), e6, up2_self, o5]
    · rw [e9, up2_selfn (by decide), e8, up2_selfn (by decide), e7, up2_self, o6]
    · rw [e9, up2_selfn (by decide), e8, up2_self, o7]
    · rw [e9, up2_self, o8]
theorem LR.mv {X X' : VT} {k k' : Nat} {f f' h h' : Nat → Int32} {Y T : Nat} (H : LR X k f h Y T) (x0 : ∀ i, 4 ≤ i → i ≤ 8 → X' k' i = X k i) (x1 : ∀ i, i < 24 → X' (k' + 1) i = X (k + 1) i) (x2 : ∀ i, i < 5 → X' (k' + 2) i = X (k + 2) i) (x3 : ∀ i, i < 5 → X' (k' + 3) i = X (k + 3) i) (x4 : ∀ i, i < 4 → X' (k' + 4) i = X (k + 4) i) (hf : ∀ i, i < 38 → f' i = f i) (hh : ∀ i, i < 5 → h' i = h i) : LR X' k' f' h' Y T := by
  obtain ⟨⟨a1, a2, a3⟩, ⟨b, b'⟩, ⟨c, c'⟩, d, e, g, i1, i2, i3, i4⟩ := H
  rw [LR, x0 4 (by decide) (by decide), x0 5 (by decide) (by decide), x0 6 (by decide) (by decide), x0 7 (by decide) (by decide), x0 8 (by decide) (by decide), hf 0 (by decide), hf 1 (by decide), hf 2 (by decide), hf 3 (by decide), hh 4 (by decide)]
  refine ⟨⟨a1, a2, a3⟩, ⟨b, b'⟩, ⟨c, c'⟩, d, e, g, fun i hi => ?_, fun i hi => ?_, fun i hi => ?_, fun q => ⟨?_, ?_⟩⟩
  · rw [x1 i (by omega), hf _ (by omega)]; exact i1 i hi
  · rw [x2 i (by omega), x3 i (by omega), hf _ (by omega), hf _ (by omega)]; exact i2 i hi
  · rw [x4 i hi, hh i (by omega)]; exact i3 i hi
  · obtain ⟨z1, z2, z3, z4, z5, z6⟩ := (i4 q).1
    rw [FV, hf 2 (by decide), hf 3 (by decide)]
    refine ⟨z1, z2, z3, z4, fun i hi => ?_, fun i hi => ?_⟩
    · rw [hf _ (by omega)]; exact z5 i hi
    · rw [hf _ (by omega), hf _ (by omega)]; exact z6 i hi
  · obtain ⟨z1, z2, z3, z4⟩ := (i4 q).2
    rw [HV, hh 0 (by decide), hh 1 (by decide), hh 2 (by decide), hh 3 (by decide), hh 4 (by decide)]
    exact ⟨z1, z2, z3, z4⟩
theorem m_img_L2 {b : Nat} {K : Int32 → VT → Prop} (hb : b + 44 ≤ 88) : ∀ (m k : Nat) (V : VT), k + m = 38 →
    (∀ V' : VT, fr V V' 11 → (∀ q, k ≤ q → q < 38 → V' 11 (b + 6 + q) = V 5 q) → (∀ p, (p < b + 6 + k ∨ b + 44 ≤ p) → V' 11 p = V 11 p) → K 1 V') → wp_X8_image_L65 K (m + 1) V (nI b) (nI k) := by
  intro m
  induction m with
  | zero =>
    intro k V hk h
    exact ⟨fun _ => h V fr_rf (fun q h1 h2 => by omega) (fun _ _ => rfl), fun q => absurd (nI_le (a := 38) (b := k) (by omega) (by omega)) q⟩
  | succ m ih =>
    intro k V hk h
    refine ⟨fun q => absurd q (nI_ge (a := k) (b := 38) (by omega) (by decide)), fun _ => ?_⟩
    rw [show (6 : Int32) = nI 6 from rfl, nI_add, nI_add, nI_1]
    refine ⟨vpn (by omega) (by decide), vpn (by omega) (by decide), ?_⟩
    intro V3 e3
    rw [nI_c (by omega), nI_c (by omega)] at e3
    refine ih (k + 1) V3 (by omega) (fun V' f1 f2 f3 => h V' (by rw [e3] at f1; exact fr_up.tr f1) (fun q h1 h2 => ?_) (fun p hp => ?_))
    · rcases Nat.lt_or_ge k q with z | z
      · rw [f2 q (by omega) h2, e3, up2_ne (by decide)]
      · have : q = k := by omega
        subst this
        rw [f3 _ (by omega), e3, up2_self]
    · rw [f3 p (by omega), e3, up2_selfn (by omega)]
theorem m_img_L1 {b : Nat} {K : Int32 → VT → Prop} (hb : b + 44 ≤ 88) : ∀ (m k : Nat) (V : VT), k + m = 5 →
    (∀ V' : VT, fr V V' 11 → (∀ q, k ≤ q → q < 5 → V' 11 (b + 1 + q) = V 0 (16 + q)) → (∀ p, (p < b + 1 + k ∨ b + 6 ≤ p) → V' 11 p = V 11 p) → ∃ n65 : Nat, wp_X8_image_L65 K n65 V' (nI b) 0) → wp_X8_image_L37 K (m + 1) V (nI b) (nI k) := by
  intro m
  induction m with
  | zero =>
    intro k V hk h
    exact ⟨fun _ => h V fr_rf (fun q h1 h2 => by omega) (fun _ _ => rfl), fun q => absurd (nI_le (a := 5) (b := k) (by omega) (by omega)) q⟩
  | succ m ih =>
    intro k V hk h
    refine ⟨fun q => absurd q (nI_ge (a := k) (b := 5) (by omega) (by decide)), fun _ => m_hoopOf ?_⟩
    have ev : (if nI k = 0 then V 0 16 else if nI k = 1 then V 0 17 else if nI k = 2 then V 0 18 else if nI k = 3 then V 0 19 else V 0 20) = V 0 (16 + k) := by
      rcases (show k = 0 ∨ k = 1 ∨ k = 2 ∨ k = 3 ∨ k = 4 by omega) with rfl | rfl | rfl | rfl | rfl <;> rfl
    rw [ev, nI_1, nI_add, nI_1]
    refine ⟨vpn (by omega) (by decide), ?_⟩
    intro V3 e3
    rw [nI_c (by omega)] at e3
    refine ih (k + 1) V3 (by omega) (fun V' f1 f2 f3 => h V' (by rw [e3] at f1; exact fr_up.tr f1) (fun q h1 h2 => ?_) (fun p hp => ?_))
    · rcases Nat.lt_or_ge k q with z | z
      · rw [f2 q (by omega) h2, e3, up2_ne (by decide)]
      · have : q = k := by omega
        subst this
        rw [f3 _ (by omega), e3, up2_self]
    · rw [f3 p (by omega), e3, up2_selfn (by omega)]
theorem R0.img {X X' M M' : VT} {Y T : Nat} (H : R0 X M Y T) (hx : ∀ a, (a < 26 ∨ 36 ≤ a) → X' a = X a) (hm : ∀ a, a ≠ 11 → M' a = M a) (hi : Rimg X' M') : R0 X' M' Y T := by
  obtain ⟨h1, h2, h3, h4, h5, h6, h7⟩ := H
  have m0 : M' 0 = M 0 := hm 0 (by decide)
  refine ⟨h1.cg (fun a _ _ => hx a (by omega)) (hm 1 (by decide)) (hm 2 (by decide)) (hm 3 (by decide)), h2.cg (congrFun (hx 3 (by decide)) 1) (hx 4 (by decide)) (congrFun m0 8) (hm 7 (by decide)), h3.cg (fun a _ _ => hx a (by omega)) (hm 5 (by decide)) (fun b _ _ => congrFun m0 b), h4.cg (hx 5 (by decide)) (hx 7 (by decide)) (hx 8 (by decide)) (hx 9 (by decide)) (fun a _ _ => hx a (by omega)) (hm 8 (by decide)) (hm 5 (by decide)) (congrFun m0 22), hi, h6.cg (congrFun (hx 13 (by decide)) 1) (hx 14 (by decide)) (congrFun m0 32) (hm 12 (by decide)), ?_⟩
  rw [hx 0 (by decide), m0]
  exact h7
theorem q_image {X M : VT} (H : RR X M) (a : Int32) : wp_X7_image X a (fun r X' => wp_X8_image M a (EQ r X')) := by
  obtain ⟨hs, Y, T, h0⟩ := id H
  obtain ⟨hL, isl⟩ := id h0.2.2.1
  unfold wp_X7_image
  rcases in_or a 0 1 with ⟨p1, p2⟩ | hp'
  · refine isOut_in p1 p2 ⟨fun _ => x_there hL.2.1.1 hL.1.1 ?_, fun c => absurd rfl c⟩
    obtain ⟨k, hk, rfl⟩ := nI_in_of (n := 1) rfl p1 p2
    by_cases hY : 0 < Y
    · rw [if_pos hY]
      rw [if_pos hY] at isl
      refine ⟨fun _ => ⟨vpn (by omega) (by decide), ?_⟩, fun c => absurd c (by decide)⟩
      rw [nI_c (by omega)]
      refine s_lbe (by omega) (fun X1 f1 x1 x2 x3 x4 x0 => ?_)
      unfold wp_X8_image
      refine in_in (lo := 0) (hi := 1) rfl rfl p1 p2 ⟨fun _ => ?_, fun c => absurd c (by decide)⟩
      rw [isl, show (44 : Int32) = nI 44 from rfl, pk_mul]
      refine ⟨fun _ => ⟨vpn (by omega) (by decide), ?_⟩, fun c => absurd c (by decide)⟩
      rw [nI_c (by omega)]
      intro M1 m1
      refine ⟨6, m_img_L1 (b := 44 * k) (by omega) 5 0 M1 rfl (fun M2 f2 g2 g2' => ⟨39, m_img_L2 (b := 44 * k) (by omega) 38 0 M2 rfl (fun M3 f3 g3 g3' => ?_)⟩)⟩
      have mo : ∀ b, b ≠ 11 → M3 b = M b := fun b q => by rw [f3 b q, f2 b q, m1, up2_ne q]
      have fx : ∀ i, i < 38 → M3 11 (44 * k + 6 + i) = M 5 i := fun i hi => by rw [g3 i (by omega) hi, f2 5 (by decide), m1, up2_ne (by decide)]
      have hx : ∀ i, i < 5 → M3 11 (44 * k + 1 + i) = M 0 (16 + i) := fun i hi => by rw [g3' _ (by omega), g2 i (by omega) hi, m1, up2_ne (by decide)]
      have ex : M3 11 (44 * k) = 1 := by rw [g3' _ (by omega), g2' _ (by omega), m1, up2_self]
      have ox : ∀ p, (p < 44 * k ∨ 44 * k + 44 ≤ p) → M3 11 p = M 11 p := fun p hp => by rw [g3' p (by omega), g2' p (by omega), m1, up2_selfn (by omega)]
      refine ⟨rfl, by rw [f1 0 (by omega), mo 0 (by decide)]; exact hs, Y, T, h0.img (fun b hb => f1 b (by omega)) mo (fun j hj => ?_)⟩
      by_cases e : j = k
      · subst e
        exact ⟨Y, T, hL.mv x0 x1 x2 x3 x4 fx hx, by rw [ex, if_pos hY], fun _ => by rw [mo 0 (by decide)]; exact isl⟩
      · obtain ⟨Y2, T2, z1, z2⟩ := h0.2.2.2.2.1 j hj
        have dj : 26 + 5 * j + 5 ≤ 26 + 5 * k ∨ 26 + 5 * k + 5 ≤ 26 + 5 * j := by omega
        refine ⟨Y2, T2, z1.mv (fun i _ _ => by rw [f1 _ (by omega)]) (fun i _ => by rw [f1 _ (by omega)]) (fun i _ => by rw [f1 _ (by omega)]) (fun i _ => by rw [f1 _ (by omega)]) (fun i _ => by rw [f1 _ (by omega)]) (fun i hi => ox _ (by omega)) (fun i hi => ox _ (by omega)), by rw [ox _ (by omega)]; exact z2.1, by rw [mo 0 (by decide)]; exact z2.2⟩
    · rw [if_neg hY]
      rw [if_neg hY] at isl
      refine ⟨fun c => absurd rfl c, fun _ => ?_⟩
      unfold wp_X8_image
      refine in_in (lo := 0) (hi := 1) rfl rfl p1 p2 ⟨fun _ => ?_, fun c => absurd c (by decide)⟩
      rw [isl]
      exact ⟨fun c => absurd rfl c, fun _ => ⟨rfl, H⟩⟩
  · refine isOut_out hp' ⟨fun c => absurd c (by decide), fun _ => ?_⟩
    unfold wp_X8_image
    exact in_out (lo := 0) (hi := 1) rfl rfl hp' ⟨fun c => absurd rfl c, fun _ => ⟨rfl, H⟩⟩
