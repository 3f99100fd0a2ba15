/-! numbers -/
theorem i_lt (a b : Int32) : a < b ↔ a.toInt < b.toInt := Int32.lt_iff_toInt_lt
theorem i_le (a b : Int32) : a ≤ b ↔ a.toInt ≤ b.toInt := Int32.le_iff_toInt_le
theorem i_eq (a b : Int32) : a = b ↔ a.toInt = b.toInt := Int32.toInt_inj.symm
theorem i_add {a b : Int32} (h : -2147483648 ≤ a.toInt + b.toInt ∧ a.toInt + b.toInt ≤ 2147483647) : (a + b).toInt = a.toInt + b.toInt := by
  rw [Int32.toInt_add]
  apply Int.bmod_eq_of_le <;> omega
theorem i_sub {a b : Int32} (h : -2147483648 ≤ a.toInt - b.toInt ∧ a.toInt - b.toInt ≤ 2147483647) : (a - b).toInt = a.toInt - b.toInt := by
  rw [Int32.toInt_sub]
  apply Int.bmod_eq_of_le <;> omega
theorem i_mul {a b : Int32} (h : -2147483648 ≤ a.toInt * b.toInt ∧ a.toInt * b.toInt ≤ 2147483647) : (a * b).toInt = a.toInt * b.toInt := by
  rw [Int32.toInt_mul]
  apply Int.bmod_eq_of_le <;> omega
theorem i_neg {a : Int32} (h : -2147483648 < a.toInt) : (-a).toInt = -a.toInt := by
  have := a.toInt_lt
  rw [Int32.toInt_neg]
  apply Int.bmod_eq_of_le <;> omega
theorem i_div {a b : Int32} (ha : 0 ≤ a.toInt) (hb : 0 < b.toInt) : (a / b).toInt = a.toInt / b.toInt := by
  rw [Int32.toInt_div, Int.tdiv_eq_ediv_of_nonneg ha]
  have h1 := a.toInt_lt
  have h2 := Int.ediv_le_self b.toInt ha
  have h3 := Int.ediv_nonneg ha (Int.le_of_lt hb)
  apply Int.bmod_eq_of_le <;> omega
theorem i_rem {a b : Int32} (ha : 0 ≤ a.toInt) (hb : 0 < b.toInt) : (a - a / b * b).toInt = a.toInt % b.toInt := by
  have h1 := a.toInt_lt
  have h2 := i_div ha hb
  have h3 := Int.emod_nonneg a.toInt (Int.ne_of_gt hb)
  have h4 := Int.emod_add_mul_ediv a.toInt b.toInt
  have h5 := Int.emod_lt_of_pos a.toInt hb
  have h6 := Int.ediv_nonneg ha (Int.le_of_lt hb)
  have h7 : 0 ≤ a.toInt / b.toInt * b.toInt := Int.mul_nonneg h6 (Int.le_of_lt hb)
  have h9 : b.toInt * (a.toInt / b.toInt) = a.toInt / b.toInt * b.toInt := Int.mul_comm _ _
  have h8 : (a / b * b).toInt = a.toInt / b.toInt * b.toInt := by
    rw [i_mul, h2]
    rw [h2]; omega
  rw [i_sub, h8]
  · omega
  · rw [h8]; omega
theorem i_lit (n : Nat) (h : n < 2147483648) : (OfNat.ofNat n : Int32).toInt = n := nI_toInt h
theorem i_nn (a : Int32) : a.toNatClampNeg = a.toInt.toNat := rfl
theorem i_ext {a b : Int32} (h : a.toInt = b.toInt) : a = b := Int32.toInt_inj.mp h
theorem vin {i : Int32} {n : Nat} (h : ¬ (i < 0 ∨ n ≤ i.toNatClampNeg)) : vp_in i n := h
theorem vin_of {i : Int32} {n : Nat} (h : 0 ≤ i.toInt) (h2 : i.toInt < n) : vp_in i n := vp_in_iff.mpr ⟨h, h2⟩
theorem up2_up2 {V : VT} {k j : Nat} {x y : Int32} : up2 (up2 V k j x) k j y = up2 V k j y := by
  funext a b
  simp only [up2]
  split <;> rfl
theorem imn9 {s : Int32} : imn 9 s = if s < 9 then s else 9 := rfl
theorem imx0 {s : Int32} : imx 0 s = if 0 < s then s else 0 := rfl
theorem t0 : (0 : Int32).toInt = 0 := rfl
theorem t1 : (1 : Int32).toInt = 1 := rfl
theorem t2 : (2 : Int32).toInt = 2 := rfl
theorem t3 : (3 : Int32).toInt = 3 := rfl
theorem t4 : (4 : Int32).toInt = 4 := rfl
theorem t5 : (5 : Int32).toInt = 5 := rfl
theorem t9 : (9 : Int32).toInt = 9 := rfl
theorem tm1 : (-1 : Int32).toInt = -1 := rfl
theorem chg_mid {s : Int32} (h1 : 0 ≤ s) (h2 : s ≤ 9) : imx 0 (imn 9 s) = s := by
  rw [i_le, t0] at h1; rw [i_le, t9] at h2
  rw [imn9]
  split
  · rw [imx0]
    split
    · rfl
    · rename_i q; rw [i_lt, t0] at q; exact i_ext (by rw [t0]; omega)
  · rename_i q; rw [i_lt, t9] at q
    have : s = 9 := i_ext (by rw [t9]; omega)
    rw [this]; decide
theorem chg_hi {s : Int32} (h2 : ¬ s ≤ 9) : imx 0 (imn 9 s) = 9 := by
  rw [i_le, t9] at h2
  rw [imn9, if_neg (by rw [i_lt, t9]; omega)]; decide
theorem chg_lo {s : Int32} (h2 : ¬ 0 ≤ s) : imx 0 (imn 9 s) = 0 := by
  rw [i_le, t0] at h2
  rw [imn9, if_pos (by rw [i_lt, t9]; omega), imx0, if_neg (by rw [i_lt, t0]; omega)]
theorem cn0 : (0 : Int32).toNatClampNeg = 0 := rfl
theorem cn1 : (1 : Int32).toNatClampNeg = 1 := rfl
theorem cn2 : (2 : Int32).toNatClampNeg = 2 := rfl
theorem cn3 : (3 : Int32).toNatClampNeg = 3 := rfl
