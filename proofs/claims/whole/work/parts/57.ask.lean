/-! ask -/
abbrev TR : Type := Nat × (Nat → Int32)
def lea (t : TR) (v : Int32) : TR := if 16 ≤ t.1 then t else (t.1 + 1, fun i => if i = t.1 then v else t.2 i)
def Ax (X : VT) (kd nm fc pc : Int32) (X' : VT) (t : TR) : Prop := (∀ a, a ≠ 13 → a ≠ 14 → X' a = X a) ∧ X' 13 2 = kd ∧ X' 13 3 = nm ∧ X' 13 4 = fc ∧ X' 13 5 = pc ∧ t.1 ≤ 16 ∧ X' 13 1 = nI t.1 ∧ ∀ i, i < t.1 → X' 14 i = t.2 i
def Am (M M' : VT) (t : TR) : Prop := (∀ a, a ≠ 0 → a ≠ 12 → M' a = M a) ∧ (∀ b, b ≠ 32 → M' 0 b = M 0 b) ∧ t.1 ≤ 16 ∧ M' 0 32 = nI t.1 ∧ ∀ i, i < t.1 → M' 12 i = t.2 i
theorem x_leave {X X' : VT} {kd nm fc pc v : Int32} {t : TR} {K : VT → Prop} (A : Ax X kd nm fc pc X' t) (h : ∀ X'', Ax X kd nm fc pc X'' (lea t v) → K X'') : wp_X1_leave X' v K := by
  obtain ⟨a1, a2, a3, a4, a5, a6, a7, a8⟩ := id A
  unfold lea at h
  unfold wp_X1_leave
  rw [a7, nI_leI (by decide) (by omega)]
  refine ⟨fun c => ?_, fun c => ⟨vpn (by omega) (by decide), ?_⟩⟩
  · rw [if_pos c] at h; exact h X' A
  · rw [if_neg c] at h
    rw [nI_c (by omega)]
    intro V3 e3 V4 e4
    refine h V4 ⟨fun a u1 u2 => by rw [e4, up2_ne u1, e3, up2_ne u2]; exact a1 a u1 u2, ?_, ?_, ?_, ?_, by show t.1 + 1 ≤ 16; omega, ?_, fun i hi => ?_⟩
    · rw [e4, up2_selfn (by decide), e3, up2_ne (by decide)]; exact a2
    · rw [e4, up2_selfn (by decide), e3, up2_ne (by decide)]; exact a3
    · rw [e4, up2_selfn (by decide), e3, up2_ne (by decide)]; exact a4
    · rw [e4, up2_selfn (by decide), e3, up2_ne (by decide)]; exact a5
    · rw [e4, up2_self, e3, up2_ne (by decide), a7, nI_1]
    · rw [e4, up2_ne (by decide), e3]
      show up2 X' 14 t.1 v 14 i = if i = t.1 then v else t.2 i
      by_cases q : i = t.1
      · rw [if_pos q, q, up2_self]
      · rw [if_neg q, up2_selfn q]
        exact a8 i (by have : i < t.1 + 1 := hi; omega)
theorem m_begins {M M' : VT} {v : Int32} {t : TR} {K : VT → Prop} (A : Am M M' t) (h : ∀ M'', Am M M'' (lea t v) → K M'') : wp_X8_begins M' v K := by
  obtain ⟨a1, a2, a6, a7, a8⟩ := id A
  unfold lea at h
  unfold wp_X8_begins
  rw [a7, show (16 : Int32) = nI 16 from rfl, nI_leI (by decide) (by omega)]
  refine ⟨fun c => ?_, fun c => ⟨vpn (by omega) (by decide), ?_⟩⟩
  · rw [if_pos c] at h; exact h M' A
  · rw [if_neg c] at h
    rw [nI_c (by omega)]
    intro V3 e3 V4 e4
    refine h V4 ⟨fun a u1 u2 => by rw [e4, up2_ne u1, e3, up2_ne u2]; exact a1 a u1 u2, fun b hb => ?_, by show t.1 + 1 ≤ 16; omega, ?_, fun i hi => ?_⟩
    · rw [e4, up2_selfn hb, e3, up2_ne (by decide)]; exact a2 b hb
    · rw [e4, up2_self, e3, up2_ne (by decide), a7, nI_1]
    · rw [e4, up2_ne (by decide), e3]
      show up2 M' 12 t.1 v 12 i = if i = t.1 then v else t.2 i
      by_cases q : i = t.1
      · rw [if_pos q, q, up2_self]
      · rw [if_neg q, up2_selfn q]
        exact a8 i (by have : i < t.1 + 1 := hi; omega)
def dmT (kd : Int32) (t : TR) : TR := if kd = 2 then lea (lea (lea t 24) 21) 20 else if kd = 3 then lea (lea (lea t 22) 21) 20 else lea (lea t 21) 20
def dmV (kd nm pc : Int32) : Int32 := if kd = 2 then 2 * (nm + pc) else if kd = 3 then nm + pc - 1000 else nm + pc
def bsT (kd : Int32) (t : TR) : TR := if kd = 5 then lea (lea (lea t 14) 13) 10 else lea (lea t 13) 10
def bsV (kd fc : Int32) : Int32 := if kd = 5 then 2 * (fc - 100) else fc - 100
def mkT (kd : Int32) (t : TR) : TR := if kd ≤ 3 then dmT kd t else bsT kd (lea (lea t 23) 20)
def mkV (kd nm fc pc : Int32) : Int32 := if kd ≤ 3 then dmV kd nm pc else nm - bsV kd fc
def szT (kd : Int32) (t : TR) : TR := if kd ≤ 3 then (if kd = 2 then dmT kd (lea (lea (lea t 12) 11) 10) else dmT kd (lea (lea t 11) 10)) else bsT kd t
def szV (kd nm fc pc : Int32) : Int32 := if kd ≤ 3 then (if kd = 2 then 0 - (fc + dmV kd nm pc) else fc + dmV kd nm pc) else bsV kd fc
section ASKX
variable {X X' : VT} {kd nm fc pc : Int32} {t : TR} {K : Int32 → VT → Prop}
theorem x_lentSize (A : Ax X kd nm fc pc X' t) (h : ∀ X'', Ax X kd nm fc pc X'' (lea t 10) → K fc X'') : wp_X1_lentSize X' K :=
  x_leave A (fun X2 A2 => by rw [A2.2.2.2.1]; exact h X2 A2)
theorem x_lentMark (A : Ax X kd nm fc pc X' t) (h : ∀ X'', Ax X kd nm fc pc X'' (lea t 20) → K nm X'') : wp_X1_lentMark X' K :=
  x_leave A (fun X2 A2 => by rw [A2.2.2.1]; exact h X2 A2)
theorem x_drivingMark (A : Ax X kd nm fc pc X' t) (h : ∀ X'', Ax X kd nm fc pc X'' (lea (lea t 21) 20) → K (nm + pc) X'') : wp_X1_drivingMark X' K :=
  x_leave A (fun X2 A2 => x_lentMark A2 (fun X3 A3 => by rw [A3.2.2.2.2.1]; exact h X3 A3))
theorem x_drivenMark (A : Ax X kd nm fc pc X' t) (h : ∀ X'', Ax X kd nm fc pc X'' (dmT kd t) → K (dmV kd nm pc) X'') : wp_X1_drivenMark X' K := by
  unfold wp_X1_drivenMark
  rw [A.2.1]
  unfold dmT dmV at h
  refine ⟨fun c => ?_, fun c => ?_, fun c1 c2 => ?_⟩
  · rw [if_pos c, if_pos c] at h
    exact x_leave A (fun X2 A2 => x_drivingMark A2 h)
  · have n2 : ¬ kd = 2 := by rw [c]; decide
    rw [if_neg n2, if_pos c, if_neg n2, if_pos c] at h
    exact x_leave A (fun X2 A2 => x_drivingMark A2 h)
  · rw [if_neg c1, if_neg c2, if_neg c1, if_neg c2] at h
    exact x_drivingMark A h
theorem x_drivingSize (A : Ax X kd nm fc pc X' t) (h : ∀ X'', Ax X kd nm fc pc X'' (dmT kd (lea (lea t 11) 10)) → K (fc + dmV kd nm pc) X'') : wp_X1_drivingSize X' K :=
  x_leave A (fun _ A2 => x_lentSize A2 (fun _ A3 => x_drivenMark A3 h))
theorem x_brakingSize (A : Ax X kd nm fc pc X' t) (h : ∀ X'', Ax X kd nm fc pc X'' (lea (lea t 13) 10) → K (fc - 100) X'') : wp_X1_brakingSize X' K :=
  x_leave A (fun _ A2 => x_lentSize A2 h)
theorem x_brakedSize (A : Ax X kd nm fc pc X' t) (h : ∀ X'', Ax X kd nm fc pc X'' (bsT kd t) → K (bsV kd fc) X'') : wp_X1_brakedSize X' K := by
  unfold wp_X1_brakedSize
  rw [A.2.1]
  unfold bsT bsV at h
  refine ⟨fun c => ?_, fun c => ?_⟩
  · rw [if_neg c, if_neg c] at h
    exact x_brakingSize A h
  · rw [if_pos c, if_pos c] at h
    exact x_leave A (fun _ A2 => x_brakingSize A2 h)
theorem x_size (hk : kd = 1 ∨ kd = 2 ∨ kd = 3 ∨ kd = 4 ∨ kd = 5) (A : Ax X kd nm fc pc X' t) (h : ∀ X'', Ax X kd nm fc pc X'' (szT kd t) → K (szV kd nm fc pc) X'') : wp_X1_size X' K := by
  unfold wp_X1_size wp_X1_size_b54 wp_X1_size_b49
  rw [A.2.1]
  unfold szT szV at h
  refine ⟨fun c => ?_, fun c => ?_, fun c => ?_, fun c => ?_, fun c1 c2 c3 c4 => ?_⟩
  · have n3 : kd ≤ 3 := by rw [c]; decide
    rw [if_pos n3, if_pos c, if_pos n3, if_pos c] at h
    exact x_leave A (fun _ A2 => x_drivingSize A2 h)
  · have n3 : kd ≤ 3 := by rw [c]; decide
    have n2 : ¬ kd = 2 := by rw [c]; decide
    rw [if_pos n3, if_neg n2, if_pos n3, if_neg n2] at h
    exact x_drivingSize A h
  · have n3 : ¬ kd ≤ 3 := by rw [c]; decide
    rw [if_neg n3, if_neg n3] at h
    exact x_brakedSize A h
  · have n3 : ¬ kd ≤ 3 := by rw [c]; decide
    rw [if_neg n3, if_neg n3] at h
    exact x_brakedSize A h
  · have k1 : kd = 1 := by
      rcases hk with q | q | q | q | q
      · exact q
      · exact absurd q c1
      · exact absurd q c2
      · exact absurd q c3
      · exact absurd q c4
    have n3 : kd ≤ 3 := by rw [k1]; decide
    rw [if_pos n3, if_neg c1, if_pos n3, if_neg c1] at h
    exact x_drivingSize A h
theorem x_mark (hk : kd = 1 ∨ kd = 2 ∨ kd = 3 ∨ kd = 4 ∨ kd = 5) (A : Ax X kd nm fc pc X' t) (h : ∀ X'', Ax X kd nm fc pc X'' (mkT kd t) → K (mkV kd nm fc pc) X'') : wp_X1_mark X' K := by
  unfold wp_X1_mark
  rw [A.2.1]
  unfold mkT mkV at h
  refine x_isOfKind hk (fun o => ⟨fun c => absurd c (by decide), fun _ => ?_⟩) (fun o => ⟨fun _ => ?_, fun c => absurd rfl c⟩)
  · have n3 : ¬ kd ≤ 3 := by
      rcases o with q | q | ⟨q, -⟩ | ⟨-, q⟩
      · exact absurd q (by decide)
      · rw [q]; decide
      · exact absurd q (by decide)
      · rw [q]; decide
    rw [if_neg n3, if_neg n3] at h
    exact x_leave A (fun _ A2 => x_lentMark A2 (fun _ A3 => x_brakedSize A3 h))
  · have n3 : kd ≤ 3 := by
      rcases hk with q | q | q | q | q
      · rw [q]; decide
      · rw [q]; decide
      · rw [q]; decide
      · exact absurd (Or.inr (Or.inl q)) o
      · exact absurd (Or.inr (Or.inr (Or.inr ⟨rfl, q⟩))) o
    rw [if_pos n3, if_pos n3] at h
    exact x_drivenMark A h
end ASKX
section ASKM
variable {M M' : VT} {j : Nat} {t : TR} {K : Int32 → VT → Prop}
theorem m_kindK (hj : j < 5) (A : Am M M' t) (h : K (M 5 (28 + 2 * j)) M') : wp_X8_kindAt M' (nI j) K :=
  m_kindAt hj (by rw [A.1 5 (by decide) (by decide)]; exact h)
theorem m_lent (hj : j < 5) (A : Am M M' t) (h : ∀ M'', Am M M'' (lea t 10) → K (M 5 (29 + 2 * j)) M'') : wp_X8_lent M' (nI j) K :=
  m_begins A (fun M2 A2 => m_forceAt hj (by rw [A2.1 5 (by decide) (by decide)]; exact h M2 A2))
theorem m_brakes (hj : j < 5) (A : Am M M' t) (h : ∀ M'', Am M M'' (bsT (M 5 (28 + 2 * j)) t) → K (bsV (M 5 (28 + 2 * j)) (M 5 (29 + 2 * j))) M'') : wp_X8_brakes M' (nI j) K := by
  unfold wp_X8_brakes wp_X8_brakes_b14 wp_X8_brakes_b25
  refine m_kindK hj A ?_
  unfold bsT bsV at h
  refine ⟨fun c => ?_, fun c => ?_⟩
  · rw [if_neg c, if_neg c] at h
    exact ⟨fun _ => m_begins A (fun _ A2 => m_lent hj A2 (fun M3 A3 => ⟨fun _ => h M3 A3, fun z => absurd rfl z⟩)), fun z => absurd rfl z⟩
  · rw [if_pos c, if_pos c] at h
    exact ⟨fun z => absurd z (by decide), fun _ => m_begins A (fun _ A1 => m_begins A1 (fun _ A2 => m_lent hj A2 (fun M3 A3 => ⟨fun z => absurd z (by decide), fun _ => h M3 A3⟩)))⟩
theorem m_marks (hj : j < 5) (hk : M 5 (28 + 2 * j) = 1 ∨ M 5 (28 + 2 * j) = 2 ∨ M 5 (28 + 2 * j) = 3 ∨ M 5 (28 + 2 * j) = 4 ∨ M 5 (28 + 2 * j) = 5) (A : Am M M' t) (h : ∀ M'', Am M M'' (mkT (M 5 (28 + 2 * j)) t) → K (mkV (M 5 (28 + 2 * j)) (nI j) (M 5 (29 + 2 * j)) (M 0 17)) M'') : wp_X8_marks M' (nI j) K := by
  unfold wp_X8_marks wp_X8_marks_b49 wp_X8_marks_b52
  refine m_kindK hj A ?_
  unfold mkT mkV at h
  refine ⟨fun c => ?_, fun c => ?_⟩
  · rw [if_pos c, if_pos c] at h
    unfold dmT dmV at h
    refine ⟨fun d => ?_, fun d => ⟨fun e => ?_, fun e => ?_⟩⟩
    · have k1 : M 5 (28 + 2 * j) = 1 := by
        rcases hk with q | q | q | q | q
        · exact q
        · rw [q] at d; exact absurd d (by decide)
        · rw [q] at d; exact absurd d (by decide)
        · rw [q] at d; exact absurd d (by decide)
        · rw [q] at d; exact absurd d (by decide)
      have n2 : ¬ M 5 (28 + 2 * j) = 2 := by rw [k1]; decide
      have n3 : ¬ M 5 (28 + 2 * j) = 3 := by rw [k1]; decide
      rw [if_neg n2, if_neg n3, if_neg n2, if_neg n3] at h
      exact m_begins A (fun _ A2 => m_begins A2 (fun M3 A3 => ⟨fun _ => ⟨fun _ => by rw [A3.2.1 17 (by decide)]; exact h M3 A3, fun z => absurd z n3⟩, fun z => absurd z n2⟩))
    · have k3 : M 5 (28 + 2 * j) = 3 := by
        rcases hk with q | q | q | q | q
        · exact absurd (by rw [q]; decide) d
        · exact absurd q e
        · exact q
        · rw [q] at c; exact absurd c (by decide)
        · rw [q] at c; exact absurd c (by decide)
      rw [if_neg e, if_pos k3, if_neg e, if_pos k3] at h
      exact m_begins A (fun _ A1 => m_begins A1 (fun _ A2 => m_begins A2 (fun M3 A3 => ⟨fun _ => ⟨fun z => absurd k3 z, fun _ => by rw [A3.2.1 17 (by decide)]; exact h M3 A3⟩, fun z => absurd z e⟩)))
    · rw [if_pos e, if_pos e] at h
      exact m_begins A (fun _ A1 => m_begins A1 (fun _ A2 => m_begins A2 (fun M3 A3 => ⟨fun z => absurd e z, fun _ => by rw [A3.2.1 17 (by decide)]; exact h M3 A3⟩)))
  · rw [if_neg c, if_neg c] at h
    exact m_begins A (fun _ A1 => m_begins A1 (fun _ A2 => m_brakes hj A2 h))
theorem m_sizeOf (hj : j < 5) (hk : M 5 (28 + 2 * j) = 1 ∨ M 5 (28 + 2 * j) = 2 ∨ M 5 (28 + 2 * j) = 3 ∨ M 5 (28 + 2 * j) = 4 ∨ M 5 (28 + 2 * j) = 5) (A : Am M M' t) (h : ∀ M'', Am M M'' (szT (M 5 (28 + 2 * j)) t) → K (szV (M 5 (28 + 2 * j)) (nI j) (M 5 (29 + 2 * j)) (M 0 17)) M'') : wp_X8_sizeOf M' (nI j) K := by
  unfold wp_X8_sizeOf wp_X8_sizeOf_b28
  refine m_kindK hj A ?_
  unfold szT szV at h
  refine ⟨fun c => ?_, fun c => ?_⟩
  · rw [if_pos c, if_pos c] at h
    refine ⟨fun d => ?_, fun d => ?_⟩
    · rw [if_neg d, if_neg d] at h
      refine m_begins A (fun _ A1 => m_lent hj A1 (fun _ A2 => m_marks hj hk A2 (fun M3 A3 => ⟨fun _ => ?_, fun z => absurd z d⟩)))
      unfold mkT at A3
      unfold mkV
      rw [if_pos c] at A3 ⊢
      exact h M3 A3
    · rw [if_pos d, if_pos d] at h
      refine m_begins A (fun _ A0 => m_begins A0 (fun _ A1 => m_lent hj A1 (fun _ A2 => m_marks hj hk A2 (fun M3 A3 => ⟨fun z => absurd d z, fun _ => ?_⟩))))
      unfold mkT at A3
      unfold mkV
      rw [if_pos c] at A3 ⊢
      rw [← Int32.zero_sub]
      exact h M3 A3
  · rw [if_neg c, if_neg c] at h
    exact m_brakes hj A h
end ASKM
theorem R0.ask {X X' M M' : VT} {Y T : Nat} (H : R0 X M Y T) (hx : ∀ a, a ≠ 13 → a ≠ 14 → X' a = X a) (hm : ∀ a, a ≠ 0 → a ≠ 12 → M' a = M a) (hm0 : ∀ b, b ≠ 32 → M' 0 b = M 0 b) (hr : Rask X' M') : R0 X' M' Y T := by
  obtain ⟨h1, h2, h3, h4, h5, h6, h7⟩ := H
  refine ⟨h1.cg (fun b _ _ => hx b (by omega) (by omega)) (hm 1 (by decide) (by decide)) (hm 2 (by decide) (by decide)) (hm 3 (by decide) (by decide)), h2.cg (congrFun (hx 3 (by decide) (by decide)) 1) (hx 4 (by decide) (by decide)) (hm0 8 (by decide)) (hm 7 (by decide) (by decide)), h3.cg (fun b _ _ => hx b (by omega) (by omega)) (hm 5 (by decide) (by decide)) (fun b _ _ => hm0 b (by omega)), h4.cg (hx 5 (by decide) (by decide)) (hx 7 (by decide) (by decide)) (hx 8 (by decide) (by decide)) (hx 9 (by decide) (by decide)) (fun b _ _ => hx b (by omega) (by omega)) (hm 8 (by decide) (by decide)) (hm 5 (by decide) (by decide)) (hm0 22 (by decide)), h5.cg (fun b _ _ => hx b (by omega) (by omega)) (hm 11 (by decide) (by decide)) (hm0 15 (by decide)), hr, ?_⟩
  rw [hx 0 (by decide) (by decide), hm0 12 (by decide)]
  exact h7
theorem q_ask {X M : VT} (H : RR X M) (a b : Int32) : wp_X7_ask X a b (fun r X' => wp_X8_ask M a b (EQ r X')) := by
  obtain ⟨hs, Y, T, h0⟩ := id H
  obtain ⟨⟨⟨y1, y2, y3⟩, -, ⟨y4, y5⟩, -, -, m8, -, gg, hh, vv⟩, isl⟩ := id h0.2.2.1
  unfold wp_X7_ask wp_X8_ask
  rw [y4]
  rcases in_or a 0 (nI T - 1) with ⟨a1, a2⟩ | ha
  · refine isOut_in a1 a2 ⟨fun c => absurd rfl c, fun _ => ?_⟩
    obtain ⟨j, hj, rfl⟩ := nI_in_lt (by omega) a1 a2
    have it : ∀ (K : Int32 → VT → Prop), K 1 M → wp_X8_isTap M (nI j) K := fun K h => isTap_in a1 (by rw [y5]; exact a2) h
    rcases in_or b 0 1 with ⟨b1, b2⟩ | hb
    · refine isOut_in b1 b2 ⟨fun _ => ?_, fun c => absurd rfl c⟩
      have hv := ((vv (by omega)).1.2.2.2.2.2 j hj).1
      have hk := kind_or hv.1 hv.2
      have e20 : X 20 1 = M 0 17 := hh 1 (by decide)
      obtain ⟨g1, g2⟩ := gg j hj
      intro V1 e1
      have f1 : ∀ q, q ≠ 13 → V1 q = X q := fun q hq => by rw [e1, up2_ne hq]
      refine x_kindAt (T := T) (by rw [f1 16 (by decide)]; exact y4) y2 hj ?_
      rw [f1 _ (by decide), g1]
      intro V4 e4 V5 e5
      have f5 : ∀ q, q ≠ 13 → V5 q = X q := fun q hq => by rw [e5, up2_ne hq, e4, up2_ne hq]; exact f1 q hq
      refine x_forceAt (T := T) (by rw [f5 16 (by decide)]; exact y4) y2 hj ?_
      rw [f5 _ (by decide), g2]
      intro V8 e8 V9 e9
      have f8 : ∀ q, q ≠ 13 → V8 q = X q := fun q hq => by rw [e8, up2_ne hq]; exact f5 q hq
      have A : Ax X (M 5 (28 + 2 * j)) (nI j) (M 5 (29 + 2 * j)) (M 0 17) V9 (0, fun _ => 0) := by
        refine ⟨fun q u1 _ => by rw [e9, up2_ne u1]; exact f8 q u1, ?_, ?_, ?_, ?_, by decide, ?_, fun i hi => absurd hi (Nat.not_lt_zero i)⟩
        · rw [e9, up2_selfn (by decide), e8, up2_selfn (by decide), e5, up2_selfn (by decide), e4, up2_self]
        · rw [e9, up2_selfn (by decide), e8, up2_selfn (by decide), e5, up2_self]
        · rw [e9, up2_selfn (by decide), e8, up2_self]
        · rw [e9, up2_self, f8 _ (by decide)]; exact e20
        · rw [e9, up2_selfn (by decide), e8, up2_selfn (by decide), e5, up2_selfn (by decide), e4, up2_selfn (by decide), e1, up2_self]; rfl
      have N : ∀ M7 : VT, M7 = up2 M 0 32 0 → Am M M7 (0, fun _ => 0) := fun M7 e7 => ⟨fun q u1 _ => by rw [e7, up2_ne u1], fun q u => by rw [e7, up2_selfn u], by decide, by rw [e7, up2_self]; rfl, fun i hi => absurd hi (Nat.not_lt_zero i)⟩
      have fin : ∀ (X2 M2 : VT) (t : TR), Ax X (M 5 (28 + 2 * j)) (nI j) (M 5 (29 + 2 * j)) (M 0 17) X2 t → Am M M2 t → RR X2 M2 := by
        intro X2 M2 t P Q
        exact ⟨by rw [P.1 0 (by decide) (by decide), Q.2.1 4 (by decide)]; exact hs, Y, T, h0.ask P.1 Q.1 Q.2.1 ⟨t.1, P.2.2.2.2.2.1, P.2.2.2.2.2.2.1, Q.2.2.2.1, fun i hi => (P.2.2.2.2.2.2.2 i hi).trans (Q.2.2.2.2 i hi).symm⟩⟩
      refine ⟨fun w => x_mark hk A (fun X2 P => it _ ⟨fun c => absurd c (by decide), fun _ => in_in (lo := 0) (hi := 1) rfl rfl b1 b2 ⟨fun _ => fun M7 e7 => ⟨fun _ => m_marks (by omega) hk (N M7 e7) (fun M2 Q => ⟨rfl, fin X2 M2 _ P Q⟩), fun z => absurd z w⟩, fun c => absurd c (by decide)⟩⟩), fun w => x_size hk A (fun X2 P => it _ ⟨fun c => absurd c (by decide), fun _ => in_in (lo := 0) (hi := 1) rfl rfl b1 b2 ⟨fun _ => fun M7 e7 => ⟨fun z => absurd w z, fun _ => m_sizeOf (by omega) hk (N M7 e7) (fun M2 Q => ⟨rfl, fin X2 M2 _ P Q⟩)⟩, fun c => absurd c (by decide)⟩⟩)⟩
    · exact isOut_out hb ⟨fun c => absurd c (by decide), fun _ => it _ ⟨fun c => absurd c (by decide), fun _ => in_out (lo := 0) (hi := 1) rfl rfl hb ⟨fun c => absurd rfl c, fun _ => ⟨rfl, H⟩⟩⟩⟩
  · exact isOut_out ha ⟨fun _ => isTap_out (by rw [y5]; exact ha) ⟨fun _ => ⟨rfl, H⟩, fun c => absurd rfl c⟩, fun c => absurd c (by decide)⟩
