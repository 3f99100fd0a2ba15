/-! places -/
def sv1 (Y : Nat) (s : H4) : Prop := sv Y s ∧ 1 ≤ s.2.1.toInt
def st9 (k : Nat) : H4 := (nI (k / 99), nI (k % 99 / 11 + 1), nI (k % 11) - 5, 0)
def rk9 (s : H4) : Nat := (99 * s.1.toInt + 11 * (s.2.1.toInt - 1) + s.2.2.1.toInt + 5).toNat
def st0 (k : Nat) : H4 := (nI (k / 110), nI (k / 11 % 10), nI (k % 11) - 5, 0)
def rk0 (s : H4) : Nat := (110 * s.1.toInt + 11 * s.2.1.toInt + s.2.2.1.toInt + 5).toNat
theorem l5_i (k : Nat) : (nI (k % 11) - 5).toInt = (k % 11 : Nat) - 5 := by
  have : k % 11 < 11 := Nat.mod_lt _ (by decide)
  have e5 : (5 : Int32).toInt = 5 := rfl
  rw [i_sub (by rw [nI_toInt (by omega), e5]; omega), nI_toInt (by omega), e5]
theorem nxt_sv1 {M : VT} {Y T : Nat} {t : Int32} {s : H4} (hY : Y ≤ 24) (h0 : M 5 0 = nI Y) (fv : FV Y T (M 5)) (hs : sv Y s) (he : (nxt M t s).2.2.2 = 0) : sv1 Y (nxt M t s) :=
  ⟨nxt_sv hY h0 fv hs he, ((nxt_rng (t := t) hY h0 fv hs).2.1 he).2.2.1⟩
theorem rk9_i {Y : Nat} {s : H4} (hs : sv1 Y s) : (rk9 s : Int) = 99 * s.1.toInt + 11 * (s.2.1.toInt - 1) + s.2.2.1.toInt + 5 := by
  obtain ⟨⟨-, h1, h2, h3⟩, h4⟩ := hs
  unfold rk9
  omega
theorem rk0_i {Y : Nat} {s : H4} (hs : sv Y s) : (rk0 s : Int) = 110 * s.1.toInt + 11 * s.2.1.toInt + s.2.2.1.toInt + 5 := by
  obtain ⟨-, h1, h2, h3⟩ := hs
  unfold rk0
  omega
theorem rk9_lt {Y : Nat} {s : H4} (hs : sv1 Y s) : rk9 s < 99 * Y := by
  have := rk9_i hs
  obtain ⟨⟨-, h1, h2, h3⟩, h4⟩ := hs
  omega
theorem rk0_lt {Y : Nat} {s : H4} (hs : sv Y s) : rk0 s < 110 * Y := by
  have := rk0_i hs
  obtain ⟨-, h1, h2, h3⟩ := hs
  omega
theorem rk9_y {Y : Nat} {s : H4} (hs : sv1 Y s) : ((rk9 s / 99 : Nat) : Int) = s.1.toInt := by
  have := rk9_i hs
  obtain ⟨⟨-, h1, h2, h3⟩, h4⟩ := hs
  omega
theorem st9_rk {Y : Nat} {s : H4} (hY : Y ≤ 24) (hs : sv1 Y s) : st9 (rk9 s) = s := by
  have e := rk9_i hs
  obtain ⟨⟨h0, h1, h2, h3⟩, h4⟩ := hs
  obtain ⟨y, p, l, z⟩ := s
  simp only at h0 h1 h2 h3 h4 e
  subst h0
  simp only [st9, Prod.mk.injEq]
  refine ⟨i_ext ?_, i_ext ?_, i_ext ?_, trivial⟩
  · rw [nI_toInt (by omega)]; omega
  · rw [nI_toInt (by omega)]; omega
  · rw [l5_i]; omega
theorem st0_rk {Y : Nat} {s : H4} (hY : Y ≤ 24) (hs : sv Y s) : st0 (rk0 s) = s := by
  have e := rk0_i hs
  obtain ⟨h0, h1, h2, h3⟩ := hs
  obtain ⟨y, p, l, z⟩ := s
  simp only at h0 h1 h2 h3 e
  subst h0
  simp only [st0, Prod.mk.injEq]
  refine ⟨i_ext ?_, i_ext ?_, i_ext ?_, trivial⟩
  · rw [nI_toInt (by omega)]; omega
  · rw [nI_toInt (by omega)]; omega
  · rw [l5_i]; omega
theorem st9_sv {Y k : Nat} (hY : Y ≤ 24) (hk : k < 99 * Y) : sv1 Y (st9 k) := by
  refine ⟨⟨rfl, ?_, ?_, ?_⟩, ?_⟩
  · show 0 ≤ (nI (k / 99)).toInt ∧ (nI (k / 99)).toInt < Y
    rw [nI_toInt (by omega)]; omega
  · show 0 ≤ (nI (k % 99 / 11 + 1)).toInt ∧ (nI (k % 99 / 11 + 1)).toInt ≤ 9
    rw [nI_toInt (by omega)]; omega
  · show -5 ≤ (nI (k % 11) - 5).toInt ∧ (nI (k % 11) - 5).toInt ≤ 5
    rw [l5_i]; omega
  · show 1 ≤ (nI (k % 99 / 11 + 1)).toInt
    rw [nI_toInt (by omega)]; omega
theorem st0_sv {Y k : Nat} (hY : Y ≤ 24) (hk : k < 110 * Y) : sv Y (st0 k) := by
  refine ⟨rfl, ?_, ?_, ?_⟩
  · show 0 ≤ (nI (k / 110)).toInt ∧ (nI (k / 110)).toInt < Y
    rw [nI_toInt (by omega)]; omega
  · show 0 ≤ (nI (k / 11 % 10)).toInt ∧ (nI (k / 11 % 10)).toInt ≤ 9
    rw [nI_toInt (by omega)]; omega
  · show -5 ≤ (nI (k % 11) - 5).toInt ∧ (nI (k % 11) - 5).toInt ≤ 5
    rw [l5_i]; omega
theorem st9_y {k : Nat} (hk : k < 2376) : (st9 k).1.toInt = ((k / 99 : Nat) : Int) := by
  show (nI (k / 99)).toInt = _
  rw [nI_toInt (by omega)]
theorem st0_y {k : Nat} (hk : k < 2640) : (st0 k).1.toInt = ((k / 110 : Nat) : Int) := by
  show (nI (k / 110)).toInt = _
  rw [nI_toInt (by omega)]
/-- a moment leads further on -/
theorem rk9_up {M : VT} {Y T q : Nat} {t : Int32} (hY : Y ≤ 24) (h0 : M 5 0 = nI Y) (fv : FV Y T (M 5)) (hq : q < 99 * Y) (he : (nxt M t (st9 q)).2.2.2 = 0) : q < rk9 (nxt M t (st9 q)) ∧ q / 99 + 1 ≤ rk9 (nxt M t (st9 q)) / 99 := by
  have s1 := st9_sv hY hq
  have r := (nxt_rng (t := t) hY h0 fv s1.1).2.1 he
  have s2 := nxt_sv1 hY h0 fv s1.1 he
  have y2 := rk9_y s2
  have y1 := st9_y (k := q) (by omega)
  omega
theorem rk0_up {M : VT} {Y T q : Nat} {t : Int32} (hY : Y ≤ 24) (h0 : M 5 0 = nI Y) (fv : FV Y T (M 5)) (hq : q < 110 * Y) (he : (nxt M t (st0 q)).2.2.2 = 0) : q < rk0 (nxt M t (st0 q)) := by
  have s1 := st0_sv hY hq
  have r := (nxt_rng (t := t) hY h0 fv s1).2.1 he
  have s2 := rk0_i (nxt_sv hY h0 fv s1 he)
  have y1 := st0_y (k := q) (by omega)
  omega
-- the numbers that the two sides reckon
theorem pl9 {Y : Nat} {s : H4} (hY : Y ≤ 24) (hs : sv1 Y s) : s.1 * 99 + (s.2.1 - 1) * 11 + s.2.2.1 + 5 = nI (rk9 s) := by
  have e := rk9_i hs
  have lt := rk9_lt hs
  obtain ⟨⟨-, h1, h2, h3⟩, h4⟩ := hs
  have e99 : (99 : Int32).toInt = 99 := rfl
  have e11 : (11 : Int32).toInt = 11 := rfl
  have a1 : (s.1 * 99).toInt = s.1.toInt * 99 := by rw [i_mul (by rw [e99]; omega), e99]
  have a2 : (s.2.1 - 1).toInt = s.2.1.toInt - 1 := by rw [i_sub (by rw [t1]; omega), t1]
  have a3 : ((s.2.1 - 1) * 11).toInt = (s.2.1.toInt - 1) * 11 := by rw [i_mul (by rw [a2, e11]; omega), a2, e11]
  have a4 : (s.1 * 99 + (s.2.1 - 1) * 11).toInt = s.1.toInt * 99 + (s.2.1.toInt - 1) * 11 := by rw [i_add (by rw [a1, a3]; omega), a1, a3]
  have a5 : (s.1 * 99 + (s.2.1 - 1) * 11 + s.2.2.1).toInt = s.1.toInt * 99 + (s.2.1.toInt - 1) * 11 + s.2.2.1.toInt := by rw [i_add (by rw [a4]; omega), a4]
  refine i_ext ?_
  rw [i_add (by rw [a5, t5]; omega), a5, t5, nI_toInt (by omega)]
  omega
theorem pl0 {Y : Nat} {s : H4} (hY : Y ≤ 24) (hs : sv Y s) : 110 * s.1 + 11 * s.2.1 + s.2.2.1 + 5 = nI (rk0 s) := by
  have e := rk0_i hs
  have lt := rk0_lt hs
  obtain ⟨-, h1, h2, h3⟩ := hs
  have e99 : (110 : Int32).toInt = 110 := rfl
  have e11 : (11 : Int32).toInt = 11 := rfl
  have a1 : (110 * s.1).toInt = 110 * s.1.toInt := by rw [i_mul (by rw [e99]; omega), e99]
  have a3 : (11 * s.2.1).toInt = 11 * s.2.1.toInt := by rw [i_mul (by rw [e11]; omega), e11]
  have a4 : (110 * s.1 + 11 * s.2.1).toInt = 110 * s.1.toInt + 11 * s.2.1.toInt := by rw [i_add (by rw [a1, a3]; omega), a1, a3]
  have a5 : (110 * s.1 + 11 * s.2.1 + s.2.2.1).toInt = 110 * s.1.toInt + 11 * s.2.1.toInt + s.2.2.1.toInt := by rw [i_add (by rw [a4]; omega), a4]
  refine i_ext ?_
  rw [i_add (by rw [a5, t5]; omega), a5, t5, nI_toInt (by omega)]
  omega
theorem su9 {q : Nat} (hq : q < 2376) : (nI q / 99, (nI q - nI q / 99 * 99) / 11 + 1, (nI q - nI q / 11 * 11) - 5, (0 : Int32)) = st9 q := by
  have h1 := @pk_div q 99 (by omega) (by decide) (by decide)
  have h2 := @pk_rem q 99 (by omega) (by decide) (by decide)
  have h3 := @pk_div (q % 99) 11 (by omega) (by decide) (by decide)
  have h4 := @pk_rem q 11 (by omega) (by decide) (by decide)
  have e99 : (99 : Int32) = nI 99 := rfl
  have e11 : (11 : Int32) = nI 11 := rfl
  rw [e99, e11, h2, h1, h3, h4, nI_1]
  rfl
theorem su0 {q : Nat} (hq : q < 2640) : (nI q / 110, nI q / 11 - nI q / 11 / 10 * 10, (nI q - nI q / 11 * 11) - 5, (0 : Int32)) = st0 q := by
  have h1 := @pk_div q 110 (by omega) (by decide) (by decide)
  have h2 := @pk_div q 11 (by omega) (by decide) (by decide)
  have h3 := @pk_rem (q / 11) 10 (by omega) (by decide) (by decide)
  have h4 := @pk_rem q 11 (by omega) (by decide) (by decide)
  have e99 : (110 : Int32) = nI 110 := rfl
  have e11 : (11 : Int32) = nI 11 := rfl
  have e10 : (10 : Int32) = nI 10 := rfl
  rw [e99, e11, e10, h4, h1, h2, h3]
  rfl
