/-! miss: the numbers -/
def mt (ts : Nat → Int32) (A k : Nat) : Int32 := if ts k = -1 then -1 else if A / 2 ^ cT ts k % 2 = 1 then -1 else ts k
def bc (A : Nat) : Nat → Nat
  | 0 => 0
  | k + 1 => bc A k + A / 2 ^ k % 2
theorem bc_le (A : Nat) : ∀ k, bc A k ≤ k
  | 0 => Nat.le_refl _
  | k + 1 => by
    have := bc_le A k
    have := Nat.mod_lt (A / 2 ^ k) (by decide : 0 < 2)
    rw [bc]
    omega
def fP (ts : Nat → Int32) (A p : Nat) : Nat → Nat
  | 0 => 1
  | k + 1 => fP ts A p k * (if ts k = -1 then 1 else if A / 2 ^ cT ts k % 2 = 1 then p else 10 - p)
theorem fP_eq (ts : Nat → Int32) (A p : Nat) : ∀ k, fP ts A p k = p ^ bc A (cT ts k) * (10 - p) ^ (cT ts k - bc A (cT ts k))
  | 0 => by simp [fP, cT, bc]
  | k + 1 => by
    have ih := fP_eq ts A p k
    have hb := bc_le A (cT ts k)
    rw [fP, cT, ih]
    by_cases c : ts k = -1
    · rw [if_pos c, if_pos c, Nat.mul_one, Nat.add_zero]
    · rw [if_neg c, if_neg c, bc]
      by_cases d : A / 2 ^ cT ts k % 2 = 1
      · rw [if_pos d, d, show cT ts k + 1 - (bc A (cT ts k) + 1) = cT ts k - bc A (cT ts k) by omega, Nat.pow_succ, Nat.mul_right_comm]
      · have e0 : A / 2 ^ cT ts k % 2 = 0 := (Nat.mod_two_eq_zero_or_one _).resolve_right d
        rw [if_neg d, e0, Nat.add_zero, show cT ts k + 1 - bc A (cT ts k) = cT ts k - bc A (cT ts k) + 1 by omega, Nat.pow_succ, Nat.mul_assoc]
theorem fP_le {ts : Nat → Int32} {A p : Nat} (hp : p ≤ 10) : ∀ k, fP ts A p k ≤ 10 ^ cT ts k
  | 0 => Nat.le_refl _
  | k + 1 => by
    have ih := fP_le (ts := ts) (A := A) hp k
    rw [fP, cT]
    by_cases c : ts k = -1
    · rw [if_pos c, if_pos c, Nat.mul_one, Nat.add_zero]; exact ih
    · rw [if_neg c, if_neg c, Nat.pow_succ]
      refine Nat.mul_le_mul ih ?_
      split <;> omega
def sA (M : VT) (ts : Nat → Int32) (p n : Nat) (s : H4) : Nat → Nat
  | 0 => 0
  | A + 1 => sA M ts p n s A + (if (pr M (mt ts A) n 0 s).2.2.2.2 = 2 then fP ts A p n else 0)
theorem sA_le {M : VT} {ts : Nat → Int32} {p n : Nat} {s : H4} (hp : p ≤ 10) : ∀ A, sA M ts p n s A ≤ A * 10 ^ cT ts n
  | 0 => Nat.zero_le _
  | A + 1 => by
    have ih := sA_le (M := M) (ts := ts) (n := n) (s := s) hp A
    have := fP_le (ts := ts) (A := A) hp n
    rw [sA, Nat.succ_mul]
    split <;> omega
theorem cT_mono (ts : Nat → Int32) {k : Nat} : ∀ {n : Nat}, k ≤ n → cT ts k ≤ cT ts n
  | 0, h => by
    have : k = 0 := by omega
    rw [this]; exact Nat.le_refl _
  | n + 1, h => by
    rcases Nat.lt_or_ge n k with z | z
    · have : k = n + 1 := by omega
      rw [this]; exact Nat.le_refl _
    · rw [cT]
      exact Nat.le_trans (cT_mono ts z) (Nat.le_add_right _ _)
theorem cT_lt {ts : Nat → Int32} {k n : Nat} (hk : k < n) (h : ¬ ts k = -1) : cT ts k < cT ts n := by
  have := cT_mono ts (show k + 1 ≤ n from hk)
  rw [cT, if_neg h] at this
  exact this
theorem sh_m : ∀ c, c < 9 → (1 : Int32) <<< (nI c &&& 31) = nI (2 ^ c) := by decide +kernel
theorem bt_m : ∀ A, A < 256 → ∀ q, q < 8 → (((nI A >>> (nI q &&& 31)) &&& (1 : Int32)) = (1 : Int32) ↔ A / 2 ^ q % 2 = 1) := by decide +kernel
def bc1 (x0 : Int32) : Int32 := x0 - (((x0).toUInt32 >>> (((1 : Int32)).toUInt32 &&& Int32.toUInt32 31)).toInt32 &&& (1431655765 : Int32))
def bc2 (z1 : Int32) : Int32 := (z1 &&& (858993459 : Int32)) + (((z1).toUInt32 >>> (((2 : Int32)).toUInt32 &&& Int32.toUInt32 31)).toInt32 &&& (858993459 : Int32))
def bc3 (z2 : Int32) : Int32 := (z2 + ((z2).toUInt32 >>> (((4 : Int32)).toUInt32 &&& Int32.toUInt32 31)).toInt32) &&& (252645135 : Int32)
def bc4 (z3 : Int32) : Int32 := (z3 + ((z3).toUInt32 >>> (((8 : Int32)).toUInt32 &&& Int32.toUInt32 31)).toInt32) + (((z3 + ((z3).toUInt32 >>> (((8 : Int32)).toUInt32 &&& Int32.toUInt32 31)).toInt32)).toUInt32 >>> (((16 : Int32)).toUInt32 &&& Int32.toUInt32 31)).toInt32
theorem bc_F : ∀ c, c < 9 → ∀ A, A < 2 ^ c → bc4 (bc3 (bc2 (bc1 (nI A)))) &&& (63 : Int32) = nI (bc A c) := by decide +kernel
theorem x_bits {V : VT} {A c : Nat} {K : Int32 → VT → Prop} (hc : c < 9) (hA : A < 2 ^ c) (h : K (nI (bc A c)) V) : wp_J6_bitCount_0f7a4 V (nI A) K := by
  rw [← bc_F c hc A hA] at h
  intro z1 e1 z2 e2 z3 e3 z4 e4
  have f1 : z1 = bc1 (nI A) := e1
  have f2 : z2 = bc2 z1 := e2
  have f3 : z3 = bc3 z2 := e3
  have f4 : z4 = bc4 z3 := e4
  rw [f4, f3, f2, f1]
  exact h
theorem lg_eq0 (x y : Int64) : lg_cmp x y = 0 ↔ x = y := by
  unfold lg_cmp
  split
  · rename_i q
    refine ⟨fun c => absurd c (by decide), fun c => ?_⟩
    exfalso
    have q2 : y.toInt < x.toInt := Int64.lt_iff_toInt_lt.mp q
    rw [c] at q2
    omega
  · split
    · rename_i q2
      exact ⟨fun _ => q2, fun _ => rfl⟩
    · rename_i q2
      exact ⟨fun c => absurd c (by decide), fun c => absurd c q2⟩
theorem x_power_L {V : VT} {b t : Nat} {K : Int64 → VT → Prop} (hb : b < 1000) (ht : t < 1000) : ∀ (m k y : Nat), k + m = t → K (lN (y * b ^ m)) V → wp_X7_power_L5 K (m + 1) V (nI b) (nI t) (lN y) (nI k) := by
  intro m
  induction m with
  | zero =>
    intro k y hk h
    rw [Nat.pow_zero, Nat.mul_one] at h
    exact ⟨fun _ => h, fun c => absurd (nI_le (by omega) (by omega)) c⟩
  | succ m ih =>
    intro k y hk h
    refine ⟨fun c => absurd c (nI_ge (by omega) (by omega)), fun _ => ?_⟩
    rw [nI_l (by omega), lN_mul, nI_1]
    refine ih (k + 1) (y * b) (by omega) ?_
    rw [Nat.pow_succ, Nat.mul_comm (b ^ m) b, ← Nat.mul_assoc] at h
    exact h
theorem x_power {V : VT} {b t : Nat} {K : Int64 → VT → Prop} (hb : b < 1000) (ht : t < 1000) (h : K (lN (b ^ t)) V) : wp_X7_power V (nI b) (nI t) K :=
  ⟨t + 1, x_power_L hb ht t 0 1 (by omega) (by rw [Nat.one_mul]; exact h)⟩
theorem lN_z {b : Nat} (hb : b < 2 ^ 62) : lN b = 0 ↔ b = 0 := pk_lEQ (a := b) (b := 0) (by omega) (by decide)
theorem g_stepX {V : VT} {K : Int64 → VT → Prop} {n a b i : Nat} (ha : a < 2 ^ 62) (hb : b < 2 ^ 62) (hi : i < 1000) (h0 : b = 0 → K (lN a) V) (h1 : 0 < b → wp_X7_commonDivisor_L9 K n V (lN b) (lN (a % b)) (nI (i + 1))) : wp_X7_commonDivisor_L9 K (n + 1) V (lN a) (lN b) (nI i) := by
  refine ⟨fun c => absurd c (nI_ge (a := i) (b := 1000) hi (by decide)), fun _ => ⟨fun c => ?_, fun c => ?_⟩⟩
  · exact h0 ((lN_z hb).mp ((lg_eq0 _ _).mp c))
  · have b0 : 0 < b := Nat.pos_of_ne_zero (fun z => c ((lg_eq0 _ _).mpr ((lN_z hb).mpr z)))
    refine ⟨fun z => c ((lg_eq0 _ _).mpr z), ?_⟩
    rw [pk_lRem (by omega) b0 (by omega), nI_1]
    exact h1 b0
theorem g_stepM {V : VT} {K : Int64 → VT → Prop} {n a b : Nat} (ha : a < 2 ^ 62) (hb : b < 2 ^ 62) (h0 : b = 0 → K (lN a) V) (h1 : 0 < b → wp_X8_common_L6 K n V (lN b) (lN (a % b))) : wp_X8_common_L6 K (n + 1) V (lN a) (lN b) := by
  refine ⟨fun c => ?_, fun c => ?_⟩
  · exact h0 ((lN_z hb).mp ((lg_eq0 _ _).mp c))
  · have b0 : 0 < b := Nat.pos_of_ne_zero (fun z => c ((lg_eq0 _ _).mpr ((lN_z hb).mpr z)))
    refine ⟨fun z => c ((lg_eq0 _ _).mpr z), ?_⟩
    rw [pk_lRem (by omega) b0 (by omega)]
    exact h1 b0
theorem g_half {a b k : Nat} (b0 : 0 < b) (hb : b < 2 ^ (k + 1)) (hr : 0 < a % b) : b % (a % b) < 2 ^ k := by
  have h1 : a % b < b := Nat.mod_lt _ b0
  have h2 := Nat.mod_lt b hr
  have h3 : b % (a % b) + (a % b) ≤ b := by
    have h4 := Nat.div_add_mod b (a % b)
    have h5 : 1 ≤ b / (a % b) := Nat.div_pos (Nat.le_of_lt h1) hr
    have h6 : (a % b) * 1 ≤ (a % b) * (b / (a % b)) := Nat.mul_le_mul_left _ h5
    omega
  have h7 : 2 ^ (k + 1) = 2 ^ k * 2 := Nat.pow_succ ..
  omega
theorem gcd_2 (a b : Nat) : Nat.gcd a b = Nat.gcd b (a % b) := by
  rw [Nat.gcd_comm a b, Nat.gcd_rec b a, Nat.gcd_comm]
theorem p62 {k b : Nat} (hk : k ≤ 62) (h : b < 2 ^ k) : b < 2 ^ 62 := Nat.lt_of_lt_of_le h (Nat.pow_le_pow_right (by decide) hk)
theorem x_gcd_L {V : VT} {K : Int64 → VT → Prop} : ∀ (k a b i : Nat), a < 2 ^ 62 → b < 2 ^ k → k ≤ 62 → i + 2 * k < 1000 → K (lN (Nat.gcd a b)) V → wp_X7_commonDivisor_L9 K (2 * k + 1) V (lN a) (lN b) (nI i) := by
  intro k
  induction k with
  | zero =>
    intro a b i ha hb hk hi h
    have b1 : b < 1 := hb
    have b0 : b = 0 := by omega
    subst b0
    rw [Nat.gcd_zero_right] at h
    exact g_stepX ha (by decide) (by omega) (fun _ => h) (fun z => absurd z (Nat.lt_irrefl 0))
  | succ k ih =>
    intro a b i ha hb hk hi h
    have b62 := p62 hk hb
    rw [show 2 * (k + 1) + 1 = 2 * k + 1 + 1 + 1 by omega]
    refine g_stepX ha b62 (by omega) (fun z => ?_) (fun z => ?_)
    · rw [z, Nat.gcd_zero_right] at h; exact h
    · have r := Nat.mod_lt a z
      rw [gcd_2] at h
      refine g_stepX b62 (by omega) (by omega) (fun y => ?_) (fun y => ?_)
      · rw [y, Nat.gcd_zero_right] at h; exact h
      · rw [gcd_2] at h
        exact ih (a % b) (b % (a % b)) (i + 1 + 1) (by omega) (g_half z hb y) (by omega) (by omega) h
theorem m_gcd_L {V : VT} {K : Int64 → VT → Prop} : ∀ (k a b : Nat), a < 2 ^ 62 → b < 2 ^ k → k ≤ 62 → K (lN (Nat.gcd a b)) V → wp_X8_common_L6 K (2 * k + 1) V (lN a) (lN b) := by
  intro k
  induction k with
  | zero =>
    intro a b ha hb hk h
    have b1 : b < 1 := hb
    have b0 : b = 0 := by omega
    subst b0
    rw [Nat.gcd_zero_right] at h
    exact g_stepM ha (by decide) (fun _ => h) (fun z => absurd z (Nat.lt_irrefl 0))
  | succ k ih =>
    intro a b ha hb hk h
    have b62 := p62 hk hb
    rw [show 2 * (k + 1) + 1 = 2 * k + 1 + 1 + 1 by omega]
    refine g_stepM ha b62 (fun z => ?_) (fun z => ?_)
    · rw [z, Nat.gcd_zero_right] at h; exact h
    · have r := Nat.mod_lt a z
      rw [gcd_2] at h
      refine g_stepM b62 (by omega) (fun y => ?_) (fun y => ?_)
      · rw [y, Nat.gcd_zero_right] at h; exact h
      · rw [gcd_2] at h
        exact ih (a % b) (b % (a % b)) (by omega) (g_half z hb y) (by omega) h
theorem x_gcd {V : VT} {K : Int64 → VT → Prop} {a b : Nat} (ha : a < 2 ^ 62) (hb : b < 2 ^ 62) (h : K (lN (Nat.gcd a b)) V) : wp_X7_commonDivisor V (lN a) (lN b) K :=
  ⟨2 * 62 + 1, x_gcd_L 62 a b 0 ha hb (Nat.le_refl _) (by decide) h⟩
theorem m_gcd {V : VT} {K : Int64 → VT → Prop} {a b : Nat} (ha : a < 2 ^ 62) (hb : b < 2 ^ 62) (h : K (lN (Nat.gcd a b)) V) : wp_X8_common V (lN a) (lN b) K :=
  ⟨2 * 62 + 1, m_gcd_L 62 a b ha hb (Nat.le_refl _) h⟩
def mV (w : Int32) (S B : Nat) : Int64 := if w = 0 then lN S / lN (Nat.gcd B S) else lN B / lN (Nat.gcd B S)
