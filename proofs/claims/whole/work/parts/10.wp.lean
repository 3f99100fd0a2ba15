def wp_X0_clear (V : VT)  (K : VT → Prop) : Prop :=
  ∀ V1 : VT, V1 = up2 V 5 5 (0 : Int32) →
  K V1
def wp_X2_be (V : VT) (k0 : Nat) (k1 : Nat) (K : VT → Prop) : Prop :=
  ∀ V1 : VT, V1 = up2 V k0 0 (V k1 0) →
  ∀ V2 : VT, V2 = up2 V1 k0 1 (V1 k1 1) →
  ∀ V3 : VT, V3 = up2 V2 k0 2 (V2 k1 2) →
  ∀ V4 : VT, V4 = up2 V3 k0 3 (V3 k1 3) →
  K V4
def wp_X0_keep (V : VT) (k1 : Nat) (x2 : Int32) (K : VT → Prop) : Prop :=
  vp_in (V 5 4) 24 ∧
  wp_X2_be V (52 + ((V 5 4)).toNatClampNeg) (k1 + 4) (fun V2 =>
  vp_in (V2 5 4) 24 ∧
  ∀ V4 : VT, V4 = up2 V2 7 ((V2 5 4)).toNatClampNeg (V2 k1 8) →
  vp_in (V4 5 4) 24 ∧
  ∀ V6 : VT, V6 = up2 V4 8 ((V4 5 4)).toNatClampNeg x2 →
  vp_in x2 24 ∧
  vp_in (V6 5 4) 24 ∧
  ∀ V9 : VT, V9 = up2 V6 9 ((V6 5 4)).toNatClampNeg (V6 (k1 + 1) (x2).toNatClampNeg) →
  ∀ V10 : VT, V10 = up2 V9 5 4 (((V9 5 4) + (1 : Int32)) - ((V9 5 4) + (1 : Int32)) / (24 : Int32) * (24 : Int32)) →
  ∀ V11 : VT, V11 = up2 V10 5 5 (imn ((V10 5 5) + (1 : Int32)) (24 : Int32)) →
  K V11)
def wp_X0_takeBack (V : VT) (k1 : Nat) (K : VT → Prop) : Prop :=
  ∀ V1 : VT, V1 = up2 V 5 4 ((((V 5 4) + (24 : Int32)) - (1 : Int32)) - (((V 5 4) + (24 : Int32)) - (1 : Int32)) / (24 : Int32) * (24 : Int32)) →
  ∀ V2 : VT, V2 = up2 V1 5 5 ((V1 5 5) - (1 : Int32)) →
  vp_in (V2 5 4) 24 ∧
  wp_X2_be V2 (k1 + 4) (52 + ((V2 5 4)).toNatClampNeg) (fun V4 =>
  vp_in (V4 5 4) 24 ∧
  ∀ V6 : VT, V6 = up2 V4 k1 8 (V4 7 ((V4 5 4)).toNatClampNeg) →
  vp_in (V6 5 4) 24 ∧
  vp_in (V6 5 4) 24 ∧
  vp_in (V6 8 ((V6 5 4)).toNatClampNeg) 24 ∧
  ∀ V10 : VT, V10 = up2 V6 (k1 + 1) ((V6 8 ((V6 5 4)).toNatClampNeg)).toNatClampNeg (V6 9 ((V6 5 4)).toNatClampNeg) →
  K V10)
def wp_X7_isOut_b10 (K : Int32 → VT → Prop)  (V : VT)  : Prop :=
  K (1 : Int32) V
def wp_X7_isOut (V : VT) (x0 : Int32) (x1 : Int32) (x2 : Int32) (K : Int32 → VT → Prop) : Prop :=
  ((x0 < x1 →
  wp_X7_isOut_b10 K  V) ∧
  (¬ x0 < x1 →
  ((x0 ≤ x2 →
  K (0 : Int32) V) ∧
  (¬ x0 ≤ x2 →
  wp_X7_isOut_b10 K  V))))
def wp_X3_kindAt (V : VT) (k0 : Nat) (x1 : Int32) (K : Int32 → VT → Prop) : Prop :=
  wp_X7_isOut V x1 (0 : Int32) ((V k0 5) - (1 : Int32)) (fun r2 V1 =>
  ((r2 = (0 : Int32) →
  vp_in x1 5 ∧
  K (V1 (k0 + 2) (x1).toNatClampNeg) V1) ∧
  (¬ r2 = (0 : Int32) →
  K (0 : Int32) V1)))
def wp_X3_forceAt (V : VT) (k0 : Nat) (x1 : Int32) (K : Int32 → VT → Prop) : Prop :=
  wp_X7_isOut V x1 (0 : Int32) ((V k0 5) - (1 : Int32)) (fun r2 V1 =>
  ((r2 = (0 : Int32) →
  vp_in x1 5 ∧
  K (V1 (k0 + 3) (x1).toNatClampNeg) V1) ∧
  (¬ r2 = (0 : Int32) →
  K (0 : Int32) V1)))
def wp_X1_begin (V : VT) (k1 : Nat) (x2 : Int32) (K : VT → Prop) : Prop :=
  ∀ V1 : VT, V1 = up2 V 13 1 (0 : Int32) →
  wp_X3_kindAt V1 k1 x2 (fun r3 V2 =>
  ∀ V4 : VT, V4 = up2 V2 13 2 r3 →
  ∀ V5 : VT, V5 = up2 V4 13 3 x2 →
  wp_X3_forceAt V5 k1 x2 (fun r7 V6 =>
  ∀ V8 : VT, V8 = up2 V6 13 4 r7 →
  ∀ V9 : VT, V9 = up2 V8 13 5 (V8 (k1 + 4) 1) →
  K V9))
def wp_X1_leave (V : VT) (x1 : Int32) (K : VT → Prop) : Prop :=
  (((nI 16) ≤ (V 13 1) →
  K V) ∧
  (¬ (nI 16) ≤ (V 13 1) →
  vp_in (V 13 1) 16 ∧
  ∀ V3 : VT, V3 = up2 V 14 ((V 13 1)).toNatClampNeg x1 →
  ∀ V4 : VT, V4 = up2 V3 13 1 ((V3 13 1) + (1 : Int32)) →
  K V4))
def wp_X1_lentSize (V : VT)  (K : Int32 → VT → Prop) : Prop :=
  wp_X1_leave V (10 : Int32) (fun V1 =>
  K (V1 13 4) V1)
def wp_X1_lentMark (V : VT)  (K : Int32 → VT → Prop) : Prop :=
  wp_X1_leave V (20 : Int32) (fun V1 =>
  K (V1 13 3) V1)
def wp_X1_drivingMark (V : VT)  (K : Int32 → VT → Prop) : Prop :=
  wp_X1_leave V (21 : Int32) (fun V1 =>
  wp_X1_lentMark V1  (fun r3 V2 =>
  K (r3 + (V2 13 5)) V2))
def wp_X1_drivenMark (V : VT)  (K : Int32 → VT → Prop) : Prop :=
  (((V 13 2) = (2 : Int32) →
  wp_X1_leave V (24 : Int32) (fun V2 =>
  wp_X1_drivingMark V2  (fun r4 V3 =>
  K ((2 : Int32) * r4) V3))) ∧
  ((V 13 2) = (3 : Int32) →
  wp_X1_leave V (22 : Int32) (fun V6 =>
  wp_X1_drivingMark V6  (fun r8 V7 =>
  K (r8 - (1000 : Int32)) V7))) ∧
  (¬ (V 13 2) = (2 : Int32) → ¬ (V 13 2) = (3 : Int32) →
  wp_X1_drivingMark V  (fun r10 V9 =>
  K r10 V9)))
def wp_X1_drivingSize (V : VT)  (K : Int32 → VT → Prop) : Prop :=
  wp_X1_leave V (11 : Int32) (fun V1 =>
  wp_X1_lentSize V1  (fun r3 V2 =>
  wp_X1_drivenMark V2  (fun r5 V4 =>
  K (r3 + r5) V4)))
def wp_X1_brakingSize (V : VT)  (K : Int32 → VT → Prop) : Prop :=
  wp_X1_leave V (13 : Int32) (fun V1 =>
  wp_X1_lentSize V1  (fun r3 V2 =>
  K (r3 - (100 : Int32)) V2))
def wp_X1_brakedSize (V : VT)  (K : Int32 → VT → Prop) : Prop :=
  ((¬ (V 13 2) = (5 : Int32) →
  wp_X1_brakingSize V  (fun r3 V2 =>
  K r3 V2)) ∧
  ((V 13 2) = (5 : Int32) →
  wp_X1_leave V (14 : Int32) (fun V4 =>
  wp_X1_brakingSize V4  (fun r6 V5 =>
  K ((2 : Int32) * r6) V5))))
def wp_X1_size_b54 (K : Int32 → VT → Prop)  (V : VT)  : Prop :=
  wp_X1_drivingSize V  (fun r9 V8 =>
  K r9 V8)
def wp_X1_size_b49 (K : Int32 → VT → Prop)  (V : VT)  : Prop :=
  wp_X1_brakedSize V  (fun r11 V10 =>
  K r11 V10)
def wp_X1_size (V : VT)  (K : Int32 → VT → Prop) : Prop :=
  (((V 13 2) = (2 : Int32) →
  wp_X1_leave V (12 : Int32) (fun V2 =>
  wp_X1_drivingSize V2  (fun r4 V3 =>
  K ((0 : Int32) - r4) V3))) ∧
  ((V 13 2) = (3 : Int32) →
  wp_X1_size_b54 K  V) ∧
  ((V 13 2) = (4 : Int32) →
  wp_X1_size_b49 K  V) ∧
  ((V 13 2) = (5 : Int32) →
  wp_X1_size_b49 K  V) ∧
  (¬ (V 13 2) = (2 : Int32) → ¬ (V 13 2) = (3 : Int32) → ¬ (V 13 2) = (4 : Int32) → ¬ (V 13 2) = (5 : Int32) →
  wp_X1_size_b54 K  V))
def wp_X7_isOfKind_L4 (K : Int32 → VT → Prop)  : Nat → VT → Int32 → Int32 → Int32 → Prop
  | 0, _, _, _, _ => False
  | n + 1, V, x1, x2, x3 =>
    (((nI (stN 2)) ≤ x3 →
    K (0 : Int32) V) ∧
    (¬ (nI (stN 2)) ≤ x3 →
    ((x2 < (0 : Int32) →
    K (0 : Int32) V) ∧
    (¬ x2 < (0 : Int32) →
    (((nI (stN 2)) ≤ x2 →
    K (0 : Int32) V) ∧
    (¬ (nI (stN 2)) ≤ x2 →
    ((¬ x2 = x1 →
    vp_in x2 (stN 2) ∧
    (wp_X7_isOfKind_L4 K  n) V x1 (stF 2 (x2).toNatClampNeg) (x3 + (1 : Int32))) ∧
    (x2 = x1 →
    K (1 : Int32) V))))))))
def wp_X7_isOfKind (V : VT) (x0 : Int32) (x1 : Int32) (K : Int32 → VT → Prop) : Prop :=
  ∃ n4 : Nat, wp_X7_isOfKind_L4 K  n4 V x1 x0 (0 : Int32)
def wp_X1_brakingMark (V : VT)  (K : Int32 → VT → Prop) : Prop :=
  wp_X1_leave V (23 : Int32) (fun V1 =>
  wp_X1_lentMark V1  (fun r3 V2 =>
  wp_X1_brakedSize V2  (fun r5 V4 =>
  K (r3 - r5) V4)))
def wp_X1_mark (V : VT)  (K : Int32 → VT → Prop) : Prop :=
  wp_X7_isOfKind V (V 13 2) (4 : Int32) (fun r2 V1 =>
  ((r2 = (0 : Int32) →
  wp_X1_drivenMark V1  (fun r5 V4 =>
  K r5 V4)) ∧
  (¬ r2 = (0 : Int32) →
  wp_X1_brakingMark V1  (fun r7 V6 =>
  K r7 V6))))
def wp_X2_stand (V : VT) (k0 : Nat) (x1 : Int32) (x2 : Int32) (x3 : Int32) (K : VT → Prop) : Prop :=
  ∀ V1 : VT, V1 = up2 V k0 0 x1 →
  ∀ V2 : VT, V2 = up2 V1 k0 1 x2 →
  ∀ V3 : VT, V3 = up2 V2 k0 2 x3 →
  ∀ V4 : VT, V4 = up2 V3 k0 3 (0 : Int32) →
  K V4
def wp_X2_tell (V : VT) (k0 : Nat) (x1 : Int32) (K : Int32 → VT → Prop) : Prop :=
  ((x1 = (0 : Int32) →
  K (V k0 0) V) ∧
  (x1 = (1 : Int32) →
  K (V k0 1) V) ∧
  (x1 = (2 : Int32) →
  K (V k0 2) V) ∧
  (¬ x1 = (0 : Int32) → ¬ x1 = (1 : Int32) → ¬ x1 = (2 : Int32) →
  K (V k0 3) V))
def wp_X2_changePace (V : VT) (k0 : Nat) (x1 : Int32) (K : VT → Prop) : Prop :=
  ∀ V1 : VT, V1 = up2 V k0 1 (imx (0 : Int32) (imn (9 : Int32) ((V k0 1) + x1))) →
  K V1
def wp_X2_takeTap_b82 (K : VT → Prop)  (V : VT) (t0 : Nat) (s1 : Int32) : Prop :=
  ∀ V12 : VT, V12 = up2 V t0 2 s1 →
  K V12
def wp_X2_takeTap_b36 (K : VT → Prop)  (V : VT) (k0 : Nat) (x2 : Int32) : Prop :=
  wp_X2_changePace V k0 x2 (fun V11 =>
  K V11)
def wp_X2_takeTap (V : VT) (k0 : Nat) (x1 : Int32) (x2 : Int32) (K : VT → Prop) : Prop :=
  ((x1 = (1 : Int32) →
  wp_X2_takeTap_b36 K  V k0 x2) ∧
  (x1 = (2 : Int32) →
  wp_X2_changePace V k0 (x2 / (2 : Int32)) (fun V3 =>
  (((V3 k0 2) ≤ (0 : Int32) →
  wp_X2_takeTap_b82 K  V3 k0 (imn (0 : Int32) ((V3 k0 2) + x2))) ∧
  (¬ (V3 k0 2) ≤ (0 : Int32) →
  wp_X2_takeTap_b82 K  V3 k0 (imx (0 : Int32) ((V3 k0 2) - x2)))))) ∧
  (x1 = (3 : Int32) →
  wp_X2_takeTap_b36 K  V k0 x2) ∧
  (x1 = (4 : Int32) →
  wp_X2_changePace V k0 ((0 : Int32) - x2) (fun V7 =>
  K V7)) ∧
  (x1 = (5 : Int32) →
  wp_X2_changePace V k0 ((0 : Int32) - x2) (fun V9 =>
  ∀ V10 : VT, V10 = up2 V9 k0 2 (0 : Int32) →
  K V10)) ∧
  (¬ x1 = (1 : Int32) → ¬ x1 = (2 : Int32) → ¬ x1 = (3 : Int32) → ¬ x1 = (4 : Int32) → ¬ x1 = (5 : Int32) →
  K V))
def wp_X2_leanFurther_b34 (K : VT → Prop)  (V : VT) (t0 : Nat) (s1 : Int32) (s2 : Int32) : Prop :=
  ∀ V4 : VT, V4 = up2 V t0 2 (s1 + s2) →
  K V4
def wp_X2_leanFurther (V : VT) (k0 : Nat) (x1 : Int32) (x2 : Int32) (K : VT → Prop) : Prop :=
  ((¬ (V k0 2) = (0 : Int32) →
  (((V k0 2) ≤ (0 : Int32) →
  wp_X2_leanFurther_b34 K  V k0 (V k0 2) ((0 : Int32) - x1)) ∧
  (¬ (V k0 2) ≤ (0 : Int32) →
  wp_X2_leanFurther_b34 K  V k0 (V k0 2) x1))) ∧
  ((V k0 2) = (0 : Int32) →
  ∀ V3 : VT, V3 = up2 V k0 2 x2 →
  K V3))
def wp_X2_comeTo (V : VT) (k0 : Nat) (x1 : Int32) (K : VT → Prop) : Prop :=
  ((x1 = (1 : Int32) →
  wp_X2_changePace V k0 (2 : Int32) (fun V2 =>
  K V2)) ∧
  (x1 = (2 : Int32) →
  wp_X2_changePace V k0 (-1 : Int32) (fun V4 =>
  K V4)) ∧
  (x1 = (3 : Int32) →
  ∀ V6 : VT, V6 = up2 V k0 2 (0 : Int32) →
  K V6) ∧
  (x1 = (4 : Int32) →
  wp_X2_leanFurther V k0 (2 : Int32) (2 : Int32) (fun V8 =>
  K V8)) ∧
  (x1 = (5 : Int32) →
  wp_X2_changePace V k0 (-1 : Int32) (fun V10 =>
  wp_X2_leanFurther V10 k0 (1 : Int32) (-1 : Int32) (fun V11 =>
  K V11))) ∧
  (¬ x1 = (1 : Int32) → ¬ x1 = (2 : Int32) → ¬ x1 = (3 : Int32) → ¬ x1 = (4 : Int32) → ¬ x1 = (5 : Int32) →
  K V))
def wp_X2_pass_b138 (K : VT → Prop)  (V : VT) (k0 : Nat) : Prop :=
  ∀ V18 : VT, V18 = up2 V k0 3 (1 : Int32) →
  K V18
def wp_X2_pass_b111 (K : VT → Prop)  (V : VT) (k0 : Nat) (k1 : Nat) : Prop :=
  wp_X7_isOut V (V k0 2) ((0 : Int32) - (V k1 6)) (V k1 6) (fun r14 V13 =>
  ((¬ r14 = (0 : Int32) →
  wp_X2_pass_b138 K  V13 k0) ∧
  (r14 = (0 : Int32) →
  ((¬ (V13 k0 1) = (0 : Int32) →
  K V13) ∧
  ((V13 k0 1) = (0 : Int32) →
  wp_X2_pass_b138 K  V13 k0)))))
def wp_X2_pass_b108 (K : VT → Prop)  (V : VT) (k0 : Nat) (k1 : Nat) (t0 : Nat) (s1 : Int32) (s2 : Int32) : Prop :=
  wp_X2_leanFurther V t0 s1 s2 (fun V17 =>
  wp_X2_pass_b111 K  V17 k0 k1)
def wp_X2_pass_b74 (K : VT → Prop)  (V : VT) (k0 : Nat) (k1 : Nat) : Prop :=
  wp_X2_changePace V k0 ((0 : Int32) - (V k1 7)) (fun V10 =>
  (((4 : Int32) ≤ (V10 k0 1) →
  wp_X2_pass_b111 K  V10 k0 k1) ∧
  (¬ (4 : Int32) ≤ (V10 k0 1) →
  ((¬ ((V10 k0 0) - (V10 k0 0) / (2 : Int32) * (2 : Int32)) = (0 : Int32) →
  wp_X2_pass_b108 K  V10 k0 k1 k0 (1 : Int32) (-1 : Int32)) ∧
  (((V10 k0 0) - (V10 k0 0) / (2 : Int32) * (2 : Int32)) = (0 : Int32) →
  wp_X2_pass_b108 K  V10 k0 k1 k0 (1 : Int32) (1 : Int32))))))
def wp_X2_pass (V : VT) (k0 : Nat) (k1 : Nat) (x2 : Int32) (x3 : Int32) (K : VT → Prop) : Prop :=
  (((V k0 3) = (0 : Int32) →
  wp_X2_takeTap V k0 x2 x3 (fun V2 =>
  ∀ V3 : VT, V3 = up2 V2 k0 0 ((V2 k0 0) + (((V2 k0 1) / (3 : Int32)) + (1 : Int32))) →
  (((V3 k0 0) < (V3 k1 4) →
  ((x2 = (3 : Int32) →
  wp_X2_pass_b74 K  V3 k0 k1) ∧
  (¬ x2 = (3 : Int32) →
  vp_in (V3 k0 0) 24 ∧
  wp_X2_comeTo V3 k0 (V3 (k1 + 1) ((V3 k0 0)).toNatClampNeg) (fun V7 =>
  wp_X2_pass_b74 K  V7 k0 k1)))) ∧
  (¬ (V3 k0 0) < (V3 k1 4) →
  ∀ V8 : VT, V8 = up2 V3 k0 0 (V3 k1 4) →
  ∀ V9 : VT, V9 = up2 V8 k0 3 (2 : Int32) →
  K V9)))) ∧
  (¬ (V k0 3) = (0 : Int32) →
  K V))
def wp_X3_isThere (V : VT) (k0 : Nat) (K : Int32 → VT → Prop) : Prop :=
  (((V k0 4) ≤ (0 : Int32) →
  K (0 : Int32) V) ∧
  (¬ (V k0 4) ≤ (0 : Int32) →
  K (1 : Int32) V))
def wp_X3_be (V : VT) (k0 : Nat) (k1 : Nat) (K : VT → Prop) : Prop :=
  ¬ (0 : Int32) < 0 ∧ ¬ (0 : Int32) < 0 ∧ ¬ (24 : Int32) < 0 ∧ ((0 : Int32)).toNatClampNeg + ((24 : Int32)).toNatClampNeg ≤ 24 ∧ ((0 : Int32)).toNatClampNeg + ((24 : Int32)).toNatClampNeg ≤ 24 ∧
  ∀ V1 : VT, V1 = upc V (k0 + 1) (va_cpy (V (k1 + 1)) (V (k0 + 1)) ((0 : Int32)).toNatClampNeg ((0 : Int32)).toNatClampNeg ((24 : Int32)).toNatClampNeg) →
  ¬ (0 : Int32) < 0 ∧ ¬ (0 : Int32) < 0 ∧ ¬ (5 : Int32) < 0 ∧ ((0 : Int32)).toNatClampNeg + ((5 : Int32)).toNatClampNeg ≤ 5 ∧ ((0 : Int32)).toNatClampNeg + ((5 : Int32)).toNatClampNeg ≤ 5 ∧
  ∀ V7 : VT, V7 = upc V1 (k0 + 2) (va_cpy (V1 (k1 + 2)) (V1 (k0 + 2)) ((0 : Int32)).toNatClampNeg ((0 : Int32)).toNatClampNeg ((5 : Int32)).toNatClampNeg) →
  ¬ (0 : Int32) < 0 ∧ ¬ (0 : Int32) < 0 ∧ ¬ (5 : Int32) < 0 ∧ ((0 : Int32)).toNatClampNeg + ((5 : Int32)).toNatClampNeg ≤ 5 ∧ ((0 : Int32)).toNatClampNeg + ((5 : Int32)).toNatClampNeg ≤ 5 ∧
  ∀ V13 : VT, V13 = upc V7 (k0 + 3) (va_cpy (V7 (k1 + 3)) (V7 (k0 + 3)) ((0 : Int32)).toNatClampNeg ((0 : Int32)).toNatClampNeg ((5 : Int32)).toNatClampNeg) →
  wp_X2_be V13 (k0 + 4) (k1 + 4) (fun V19 =>
  ∀ V20 : VT, V20 = up2 V19 k0 4 (V19 k1 4) →
  ∀ V21 : VT, V21 = up2 V20 k0 5 (V20 k1 5) →
  ∀ V22 : VT, V22 = up2 V21 k0 6 (V21 k1 6) →
  ∀ V23 : VT, V23 = up2 V22 k0 7 (V22 k1 7) →
  ∀ V24 : VT, V24 = up2 V23 k0 8 (V23 k1 8) →
  K V24)
def wp_X4_cost (V : VT)  (K : Int32 → VT → Prop) : Prop :=
  K ((V 10 3) / (8 : Int32)) V
def wp_X4_first (V : VT)  (K : Int32 → VT → Prop) : Prop :=
  ((¬ ((V 10 3) - (V 10 3) / (8 : Int32) * (8 : Int32)) = (0 : Int32) →
  K (((V 10 3) - (V 10 3) / (8 : Int32) * (8 : Int32)) - (1 : Int32)) V) ∧
  (((V 10 3) - (V 10 3) / (8 : Int32) * (8 : Int32)) = (0 : Int32) →
  K (-1000000 : Int32) V))
def wp_J7_fill_53178_L5 (K : VT → Prop)  : Nat → VT → Nat → Int32 → Int32 → Int32 → Prop
  | 0, _, _, _, _, _ => False
  | n + 1, V, k0, x1, x2, x3 =>
    ((x3 ≤ x2 →
    K V) ∧
    (¬ x3 ≤ x2 →
    vp_in x2 (nX k0) ∧
    ∀ V3 : VT, V3 = up2 V k0 (x2).toNatClampNeg x1 →
    (wp_J7_fill_53178_L5 K  n) V3 k0 x1 (x2 + (1 : Int32)) x3))
def wp_J7_fill_53178 (V : VT) (k0 : Nat) (x1 : Int32) (K : VT → Prop) : Prop :=
  ∃ n5 : Nat, wp_J7_fill_53178_L5 K  n5 V k0 x1 (0 : Int32) (nI (nX k0))
def wp_X4_placeOf (V : VT) (k0 : Nat) (K : Int32 → VT → Prop) : Prop :=
  K (((((V k0 0) * (99 : Int32)) + (((V k0 1) - (1 : Int32)) * (11 : Int32))) + (V k0 2)) + (5 : Int32)) V
def wp_X4_reach (V : VT) (x1 : Int32) (x2 : Int32) (K : VT → Prop) : Prop :=
  wp_X7_isOut V x1 (0 : Int32) ((nI 2376) - (1 : Int32)) (fun r2 V1 =>
  ((¬ r2 = (0 : Int32) →
  K V1) ∧
  (r2 = (0 : Int32) →
  vp_in x1 2376 ∧
  vp_in x1 2376 ∧
  ∀ V6 : VT, V6 = up2 V1 11 (x1).toNatClampNeg (imn (V1 11 (x1).toNatClampNeg) x2) →
  K V6)))
def wp_X4_spread_b172 (K : VT → Prop) (KL3 : VT → Nat → Int32 → Int32 → Int32 → Int32 → Prop) (V : VT) (k1 : Nat) (x2 : Int32) (x3 : Int32) (x4 : Int32) (x5 : Int32) : Prop :=
  KL3 V k1 x2 x3 x4 (x5 + (1 : Int32))
def wp_X4_spread_b100 (K : VT → Prop) (KL3 : VT → Nat → Int32 → Int32 → Int32 → Int32 → Prop) (V : VT) (k1 : Nat) (x2 : Int32) (x3 : Int32) (x4 : Int32) (x5 : Int32) (x6 : Int32) : Prop :=
  ((¬ (V 12 3) = (2 : Int32) →
  ((¬ (V 12 3) = (1 : Int32) →
  wp_X4_placeOf V 12 (fun r14 V13 =>
  wp_X4_reach V13 r14 x6 (fun V15 =>
  wp_X4_spread_b172 K KL3 V15 k1 x2 x3 x4 x5))) ∧
  ((V 12 3) = (1 : Int32) →
  ∀ V16 : VT, V16 = up2 V 10 4 ((V 10 4) ||| ((1 : Int32) <<< ((V 12 0) &&& (31 : Int32)))) →
  wp_X4_spread_b172 K KL3 V16 k1 x2 x3 x4 x5))) ∧
  ((V 12 3) = (2 : Int32) →
  ∀ V17 : VT, V17 = up2 V 10 3 (imn (V 10 3) x6) →
  wp_X4_spread_b172 K KL3 V17 k1 x2 x3 x4 x5))
def wp_X4_spread_b76 (K : VT → Prop) (KL3 : VT → Nat → Int32 → Int32 → Int32 → Int32 → Prop) (V : VT) (k1 : Nat) (x2 : Int32) (x3 : Int32) (x4 : Int32) (x5 : Int32) (s0 : Int32) (s1 : Int32) (s2 : Int32) : Prop :=
  ((¬ x2 = (V 10 2) →
  wp_X4_spread_b100 K KL3 V k1 x2 x3 x4 x5 (s0 + ((s1 + s2) * (8 : Int32)))) ∧
  (x2 = (V 10 2) →
  wp_X4_spread_b100 K KL3 V k1 x2 x3 x4 x5 ((s0 + ((s1 + s2) * (8 : Int32))) + (x5 + (1 : Int32)))))
def wp_X4_spread_L3 (K : VT → Prop)  : Nat → VT → Nat → Int32 → Int32 → Int32 → Int32 → Prop
  | 0, _, _, _, _, _, _ => False
  | n + 1, V, k1, x2, x3, x4, x5 =>
    (((V k1 5) ≤ x5 →
    K V) ∧
    (¬ (V k1 5) ≤ x5 →
    wp_X2_stand V 12 (x2 / (99 : Int32)) (((x2 - x2 / (99 : Int32) * (99 : Int32)) / (11 : Int32)) + (1 : Int32)) ((x2 - x2 / (11 : Int32) * (11 : Int32)) - (5 : Int32)) (fun V2 =>
    wp_X3_kindAt V2 k1 x5 (fun r4 V3 =>
    wp_X3_forceAt V3 k1 x5 (fun r6 V5 =>
    wp_X2_pass V5 12 k1 r4 r6 (fun V7 =>
    vp_in x2 2376 ∧
    (((0 : Int32) ≤ x5 →
    wp_X4_spread_b76 K (wp_X4_spread_L3 K  n) V7 k1 x2 x3 x4 x5 (V7 11 (x2).toNatClampNeg) x4 x3) ∧
    (¬ (0 : Int32) ≤ x5 →
    wp_X4_spread_b76 K (wp_X4_spread_L3 K  n) V7 k1 x2 x3 x4 x5 (V7 11 (x2).toNatClampNeg) x4 (0 : Int32)))))))))
def wp_X4_spread (V : VT) (k1 : Nat) (x2 : Int32) (x3 : Int32) (x4 : Int32) (K : VT → Prop) : Prop :=
  ∃ n3 : Nat, wp_X4_spread_L3 K  n3 V k1 x2 x3 x4 (-1 : Int32)
def wp_X4_walk_b104 (K : VT → Prop) (KL67 : VT → Nat → Int32 → Int32 → Int32 → Int32 → Prop) (V : VT) (k1 : Nat) (x3 : Int32) (x4 : Int32) (x5 : Int32) (x6 : Int32) : Prop :=
  KL67 V k1 x3 x4 x5 (x6 + (1 : Int32))
def wp_X4_walk_L67 (K : VT → Prop)  : Nat → VT → Nat → Int32 → Int32 → Int32 → Int32 → Prop
  | 0, _, _, _, _, _, _ => False
  | n + 1, V, k1, x3, x4, x5, x6 =>
    ((((V k1 4) * (99 : Int32)) ≤ x6 →
    K V) ∧
    (¬ ((V k1 4) * (99 : Int32)) ≤ x6 →
    vp_in x6 2376 ∧
    (((x5 * (8 : Int32)) ≤ (V 11 (x6).toNatClampNeg) →
    wp_X4_walk_b104 K (wp_X4_walk_L67 K  n) V k1 x3 x4 x5 x6) ∧
    (¬ (x5 * (8 : Int32)) ≤ (V 11 (x6).toNatClampNeg) →
    wp_X4_spread V k1 x6 x3 x4 (fun V13 =>
    wp_X4_walk_b104 K (wp_X4_walk_L67 K  n) V13 k1 x3 x4 x5 x6)))))
def wp_X4_walk_b15 (K : VT → Prop)  (V : VT) (k1 : Nat) (k2 : Nat) (x3 : Int32) (x4 : Int32) (x5 : Int32) (s1 : Int32) : Prop :=
  ∀ V2 : VT, V2 = up2 V 10 3 s1 →
  ∀ V3 : VT, V3 = up2 V2 10 4 (0 : Int32) →
  (((V3 k2 3) = (0 : Int32) →
  wp_J7_fill_53178 V3 11 (8000000 : Int32) (fun V5 =>
  wp_X4_placeOf V5 k2 (fun r7 V6 =>
  ∀ V8 : VT, V8 = up2 V6 10 2 r7 →
  wp_X4_reach V8 (V8 10 2) (0 : Int32) (fun V9 =>
  ∃ n67 : Nat, wp_X4_walk_L67 K  n67 V9 k1 x3 x4 x5 (imx (0 : Int32) (V9 10 2)))))) ∧
  (¬ (V3 k2 3) = (0 : Int32) →
  K V3))
def wp_X4_walk (V : VT) (k1 : Nat) (k2 : Nat) (x3 : Int32) (x4 : Int32) (x5 : Int32) (K : VT → Prop) : Prop :=
  ((¬ (V k2 3) = (2 : Int32) →
  wp_X4_walk_b15 K  V k1 k2 x3 x4 x5 (8000000 : Int32)) ∧
  ((V k2 3) = (2 : Int32) →
  wp_X4_walk_b15 K  V k1 k2 x3 x4 x5 (0 : Int32)))
def wp_X5_isMissing (V : VT) (k0 : Nat) (K : Int32 → VT → Prop) : Prop :=
  ((¬ (V k0 1) = (-1 : Int32) →
  K (0 : Int32) V) ∧
  ((V k0 1) = (-1 : Int32) →
  K (1 : Int32) V))
def wp_X5_become (V : VT) (k0 : Nat) (x1 : Int32) (x2 : Int32) (K : VT → Prop) : Prop :=
  ∀ V1 : VT, V1 = up2 V k0 1 x1 →
  ∀ V2 : VT, V2 = up2 V1 k0 2 x2 →
  wp_J7_fill_53178 V2 (k0 + 1) (0 : Int32) (fun V3 =>
  K V3)
def wp_X5_put_b31 (K : Int32 → VT → Prop)  (V : VT) (k0 : Nat) (x1 : Int32) (t0 : Nat) (s1 : Int32) (s2 : Int32) : Prop :=
  vp_in s1 (nX t0) ∧
  ∀ V4 : VT, V4 = up2 V t0 (s1).toNatClampNeg s2 →
  vp_in x1 40 ∧
  K (V4 (k0 + 1) (x1).toNatClampNeg) V4
def wp_X5_put (V : VT) (k0 : Nat) (x1 : Int32) (x2 : Int32) (K : Int32 → VT → Prop) : Prop :=
  ((¬ (V k0 1) = (0 : Int32) →
  ((¬ (V k0 1) = (1 : Int32) →
  wp_X5_put_b31 K  V k0 x1 (k0 + 1) x1 x2) ∧
  ((V k0 1) = (1 : Int32) →
  wp_X5_put_b31 K  V k0 x1 (k0 + 1) x1 ((x2).toInt16.toInt32)))) ∧
  ((V k0 1) = (0 : Int32) →
  wp_X5_put_b31 K  V k0 x1 (k0 + 1) x1 ((x2).toInt8.toInt32)))
def wp_X5_findingAt_b27 (K : Int32 → VT → Prop)  (V : VT)  : Prop :=
  K (2 : Int32) V
def wp_X5_findingAt (V : VT) (k0 : Nat) (x1 : Int32) (x2 : Int32) (K : Int32 → VT → Prop) : Prop :=
  wp_X5_isMissing V k0 (fun r2 V1 =>
  ((r2 = (0 : Int32) →
  ((x1 < (0 : Int32) →
  wp_X5_findingAt_b27 K  V1) ∧
  (¬ x1 < (0 : Int32) →
  ((x2 < (0 : Int32) →
  wp_X5_findingAt_b27 K  V1) ∧
  (¬ x2 < (0 : Int32) →
  ((x1 ≤ ((V1 k0 2) - x2) →
  K (0 : Int32) V1) ∧
  (¬ x1 ≤ ((V1 k0 2) - x2) →
  wp_X5_findingAt_b27 K  V1))))))) ∧
  (¬ r2 = (0 : Int32) →
  K (1 : Int32) V1)))
def wp_X6_add (V : VT) (x1 : Int32) (K : Int32 → VT → Prop) : Prop :=
  (((V 3 1) < (100 : Int32) →
  vp_in (V 3 1) 100 ∧
  ∀ V3 : VT, V3 = up2 V 4 ((V 3 1)).toNatClampNeg x1 →
  ∀ V4 : VT, V4 = up2 V3 3 1 ((V3 3 1) + (1 : Int32)) →
  K (1 : Int32) V4) ∧
  (¬ (V 3 1) < (100 : Int32) →
  K (0 : Int32) V))
def wp_X6_clear (V : VT)  (K : VT → Prop) : Prop :=
  ∀ V1 : VT, V1 = up2 V 3 1 (0 : Int32) →
  K V1
def wp_X6_fail (V : VT) (x1 : Int32) (K : VT → Prop) : Prop :=
  ((¬ (V 3 3) = (0 : Int32) →
  K V) ∧
  ((V 3 3) = (0 : Int32) →
  ∀ V2 : VT, V2 = up2 V 3 3 x1 →
  K V2))
def wp_X6_readSign_b32 (K : VT → Prop)  (V : VT)  : Prop :=
  wp_X6_fail V (1 : Int32) (fun V6 =>
  K V6)
def wp_X6_readSign (V : VT) (x1 : Int32) (K : VT → Prop) : Prop :=
  (((V 3 3) = (0 : Int32) →
  (((V 3 1) ≤ (V 3 2) →
  wp_X6_readSign_b32 K  V) ∧
  (¬ (V 3 1) ≤ (V 3 2) →
  vp_in (V 3 2) 100 ∧
  (((V 4 ((V 3 2)).toNatClampNeg) = x1 →
  ∀ V5 : VT, V5 = up2 V 3 2 ((V 3 2) + (1 : Int32)) →
  K V5) ∧
  (¬ (V 4 ((V 3 2)).toNatClampNeg) = x1 →
  wp_X6_readSign_b32 K  V))))) ∧
  (¬ (V 3 3) = (0 : Int32) →
  K V))
def wp_X6_readNumber_b105 (K : Int32 → VT → Prop)  (V : VT) (x3 : Int32) (x4 : Int32) : Prop :=
  ((¬ (V 3 3) = (0 : Int32) →
  K x3 V) ∧
  ((V 3 3) = (0 : Int32) →
  ∀ V15 : VT, V15 = up2 V 3 2 x4 →
  K x3 V15))
def wp_X6_readNumber_b83 (K : Int32 → VT → Prop)  (V : VT) (x3 : Int32) (x4 : Int32) : Prop :=
  wp_X6_fail V (1 : Int32) (fun V13 =>
  wp_X6_readNumber_b105 K  V13 x3 x4)
def wp_X6_readNumber_b63 (K : Int32 → VT → Prop)  (V : VT) (x1 : Int32) (x2 : Int32) (x3 : Int32) (x4 : Int32) : Prop :=
  ((x4 = (V 3 2) →
  wp_X6_readNumber_b83 K  V x3 x4) ∧
  (¬ x4 = (V 3 2) →
  ((x4 ≤ ((V 3 2) + (2 : Int32)) →
  wp_X7_isOut V x3 x1 x2 (fun r10 V9 =>
  ((r10 = (0 : Int32) →
  wp_X6_readNumber_b105 K  V9 x3 x4) ∧
  (¬ r10 = (0 : Int32) →
  wp_X6_fail V9 (2 : Int32) (fun V12 =>
  wp_X6_readNumber_b105 K  V12 x3 x4))))) ∧
  (¬ x4 ≤ ((V 3 2) + (2 : Int32)) →
  wp_X6_readNumber_b83 K  V x3 x4))))
def wp_X6_readNumber_L8 (K : Int32 → VT → Prop)  : Nat → VT → Int32 → Int32 → Int32 → Int32 → Prop
  | 0, _, _, _, _, _ => False
  | n + 1, V, x1, x2, x3, x4 =>
    (((V 3 1) ≤ x4 →
    wp_X6_readNumber_b63 K  V x1 x2 x3 x4) ∧
    (¬ (V 3 1) ≤ x4 →
    vp_in x4 100 ∧
    (((V 4 (x4).toNatClampNeg) < (48 : Int32) →
    wp_X6_readNumber_b63 K  V x1 x2 x3 x4) ∧
    (¬ (V 4 (x4).toNatClampNeg) < (48 : Int32) →
    vp_in x4 100 ∧
    (((57 : Int32) < (V 4 (x4).toNatClampNeg) →
    wp_X6_readNumber_b63 K  V x1 x2 x3 x4) ∧
    (¬ (57 : Int32) < (V 4 (x4).toNatClampNeg) →
    vp_in x4 100 ∧
    (wp_X6_readNumber_L8 K  n) V x1 x2 (((x3 * (10 : Int32)) + (V 4 (x4).toNatClampNeg)) - (48 : Int32)) (x4 + (1 : Int32))))))))
def wp_X6_readNumber (V : VT) (x1 : Int32) (x2 : Int32) (K : Int32 → VT → Prop) : Prop :=
  ∃ n8 : Nat, wp_X6_readNumber_L8 K  n8 V x1 x2 (0 : Int32) (V 3 2)
def wp_X6_readLaw (V : VT) (k1 : Nat) (K : VT → Prop) : Prop :=
  wp_X6_readSign V (104 : Int32) (fun V1 =>
  wp_X6_readNumber V1 (1 : Int32) (9 : Int32) (fun r3 V2 =>
  wp_X6_readSign V2 (44 : Int32) (fun V4 =>
  wp_X6_readNumber V4 (0 : Int32) (4 : Int32) (fun r6 V5 =>
  wp_X6_readSign V5 (44 : Int32) (fun V7 =>
  wp_X6_readNumber V7 (1 : Int32) (5 : Int32) (fun r9 V8 =>
  ∀ V10 : VT, V10 = up2 V8 k1 6 r9 →
  wp_X6_readSign V10 (44 : Int32) (fun V11 =>
  wp_X6_readNumber V11 (0 : Int32) (3 : Int32) (fun r13 V12 =>
  ∀ V14 : VT, V14 = up2 V12 k1 7 r13 →
  wp_X6_readSign V14 (59 : Int32) (fun V15 =>
  wp_X2_stand V15 (k1 + 4) (0 : Int32) r3 (r6 - (2 : Int32)) (fun V16 =>
  ∀ V17 : VT, V17 = up2 V16 k1 8 (0 : Int32) →
  K V17))))))))))
def wp_X6_lookUp_L2 (K : Int32 → VT → Prop)  : Nat → VT → Nat → Int32 → Prop
  | 0, _, _, _ => False
  | n + 1, V, q1, x2 =>
    (((nI (stN q1)) ≤ x2 →
    K (-1 : Int32) V) ∧
    (¬ (nI (stN q1)) ≤ x2 →
    (((V 3 1) ≤ (V 3 2) →
    K (-1 : Int32) V) ∧
    (¬ (V 3 1) ≤ (V 3 2) →
    vp_in (V 3 2) 100 ∧
    vp_in x2 (stN q1) ∧
    ((¬ (V 4 ((V 3 2)).toNatClampNeg) = (stF q1 (x2).toNatClampNeg) →
    (wp_X6_lookUp_L2 K  n) V q1 (x2 + (1 : Int32))) ∧
    ((V 4 ((V 3 2)).toNatClampNeg) = (stF q1 (x2).toNatClampNeg) →
    K x2 V))))))
def wp_X6_lookUp (V : VT) (q1 : Nat) (K : Int32 → VT → Prop) : Prop :=
  ∃ n2 : Nat, wp_X6_lookUp_L2 K  n2 V q1 (0 : Int32)
def wp_X6_readGrounds_b92 (K : VT → Prop)  (V : VT)  : Prop :=
  wp_X6_readSign V (59 : Int32) (fun V16 =>
  K V16)
def wp_X6_readGrounds_b80 (K : VT → Prop)  (V : VT) (k1 : Nat) : Prop :=
  ((¬ (V k1 4) = (0 : Int32) →
  wp_X6_readGrounds_b92 K  V) ∧
  ((V k1 4) = (0 : Int32) →
  wp_X6_fail V (1 : Int32) (fun V15 =>
  wp_X6_readGrounds_b92 K  V15)))
def wp_X6_readGrounds_L19 (K : VT → Prop)  : Nat → VT → Nat → Int32 → Prop
  | 0, _, _, _ => False
  | n + 1, V, k1, x2 =>
    ((¬ (V 3 3) = (0 : Int32) →
    wp_X6_readGrounds_b80 K  V k1) ∧
    ((V 3 3) = (0 : Int32) →
    ((x2 < (0 : Int32) →
    wp_X6_readGrounds_b80 K  V k1) ∧
    (¬ x2 < (0 : Int32) →
    (((24 : Int32) ≤ (V k1 4) →
    wp_X6_readGrounds_b80 K  V k1) ∧
    (¬ (24 : Int32) ≤ (V k1 4) →
    vp_in (V k1 4) 24 ∧
    ∀ V9 : VT, V9 = up2 V (k1 + 1) ((V k1 4)).toNatClampNeg x2 →
    ∀ V10 : VT, V10 = up2 V9 k1 4 ((V9 k1 4) + (1 : Int32)) →
    ∀ V11 : VT, V11 = up2 V10 3 2 ((V10 3 2) + (1 : Int32)) →
    wp_X6_lookUp V11 0 (fun r13 V12 =>
    (wp_X6_readGrounds_L19 K  n) V12 k1 r13)))))))
def wp_X6_readGrounds (V : VT) (k1 : Nat) (K : VT → Prop) : Prop :=
  wp_X6_readSign V (103 : Int32) (fun V1 =>
  ∀ V2 : VT, V2 = up2 V1 k1 4 (0 : Int32) →
  wp_X6_lookUp V2 0 (fun r4 V3 =>
  ∃ n19 : Nat, wp_X6_readGrounds_L19 K  n19 V3 k1 r4))
def wp_X6_readTap (V : VT) (k1 : Nat) (K : VT → Prop) : Prop :=
  wp_X6_lookUp V 1 (fun r2 V1 =>
  (((0 : Int32) ≤ r2 →
  (((V1 k1 5) < (5 : Int32) →
  ∀ V5 : VT, V5 = up2 V1 3 2 ((V1 3 2) + (1 : Int32)) →
  vp_in (V5 k1 5) 5 ∧
  ∀ V7 : VT, V7 = up2 V5 (k1 + 2) ((V5 k1 5)).toNatClampNeg ((1 : Int32) + r2) →
  wp_X6_readNumber V7 (1 : Int32) (5 : Int32) (fun r9 V8 =>
  vp_in (V7 k1 5) 5 ∧
  ∀ V11 : VT, V11 = up2 V8 (k1 + 3) ((V7 k1 5)).toNatClampNeg r9 →
  ∀ V12 : VT, V12 = up2 V11 k1 5 ((V11 k1 5) + (1 : Int32)) →
  wp_X6_readSign V12 (59 : Int32) (fun V13 =>
  K V13))) ∧
  (¬ (V1 k1 5) < (5 : Int32) →
  wp_X6_fail V1 (3 : Int32) (fun V14 =>
  K V14)))) ∧
  (¬ (0 : Int32) ≤ r2 →
  wp_X6_fail V1 (1 : Int32) (fun V15 =>
  K V15))))
def wp_X6_readTaps_L7 (K : VT → Prop)  : Nat → VT → Nat → Int32 → Prop
  | 0, _, _, _ => False
  | n + 1, V, k1, x2 =>
    (((5 : Int32) < x2 →
    K V) ∧
    (¬ (5 : Int32) < x2 →
    ((¬ (V 3 3) = (0 : Int32) →
    K V) ∧
    ((V 3 3) = (0 : Int32) →
    (((V 3 1) ≤ (V 3 2) →
    K V) ∧
    (¬ (V 3 1) ≤ (V 3 2) →
    wp_X6_readTap V k1 (fun V5 =>
    (wp_X6_readTaps_L7 K  n) V5 k1 (x2 + (1 : Int32)))))))))
def wp_X6_readTaps (V : VT) (k1 : Nat) (K : VT → Prop) : Prop :=
  ∀ V1 : VT, V1 = up2 V k1 5 (0 : Int32) →
  ∃ n7 : Nat, wp_X6_readTaps_L7 K  n7 V1 k1 (0 : Int32)
def wp_X6_readInto (V : VT) (k1 : Nat) (K : Int32 → VT → Prop) : Prop :=
  ∀ V1 : VT, V1 = up2 V 3 2 (0 : Int32) →
  ∀ V2 : VT, V2 = up2 V1 3 3 (0 : Int32) →
  wp_X6_readLaw V2 k1 (fun V3 =>
  wp_X6_readGrounds V3 k1 (fun V4 =>
  wp_X6_readTaps V4 k1 (fun V5 =>
  K (V5 3 3) V5)))
def wp_X7_found (V : VT) (x1 : Int32) (K : Int32 → VT → Prop) : Prop :=
  ∀ V1 : VT, V1 = up2 V 0 10 x1 →
  K ((-1000010 : Int32) - x1) V1
def wp_X7_row (V : VT) (x1 : Int32) (x2 : Int32) (x3 : Int32) (K : Int32 → VT → Prop) : Prop :=
  wp_X7_isOut V x1 (0 : Int32) (7 : Int32) (fun r2 V1 =>
  ((¬ r2 = (0 : Int32) →
  K (-1000001 : Int32) V1) ∧
  (r2 = (0 : Int32) →
  wp_X7_isOut V1 x2 (0 : Int32) (2 : Int32) (fun r5 V4 =>
  ((¬ r5 = (0 : Int32) →
  K (-1000001 : Int32) V4) ∧
  (r5 = (0 : Int32) →
  ((x3 ≤ (40 : Int32) →
  (((0 : Int32) ≤ x3 →
  vp_in x1 8 ∧
  wp_X5_become V4 (36 + 2 * (x1).toNatClampNeg) x2 x3 (fun V10 =>
  ∀ V11 : VT, V11 = up2 V10 0 10 (0 : Int32) →
  K x3 V11)) ∧
  (¬ (0 : Int32) ≤ x3 →
  wp_X7_found V4 (4 : Int32) (fun r13 V12 =>
  K r13 V12)))) ∧
  (¬ x3 ≤ (40 : Int32) →
  K (-1000001 : Int32) V4))))))))
def wp_X7_set (V : VT) (x1 : Int32) (x2 : Int32) (x3 : Int32) (K : Int32 → VT → Prop) : Prop :=
  wp_X7_isOut V x1 (0 : Int32) (7 : Int32) (fun r2 V1 =>
  ((r2 = (0 : Int32) →
  vp_in x1 8 ∧
  wp_X5_findingAt V1 (36 + 2 * (x1).toNatClampNeg) x2 (1 : Int32) (fun r6 V5 =>
  ((r6 = (0 : Int32) →
  ∀ V8 : VT, V8 = up2 V5 0 10 (0 : Int32) →
  vp_in x1 8 ∧
  wp_X5_put V8 (36 + 2 * (x1).toNatClampNeg) x2 x3 (fun r11 V10 =>
  K r11 V10)) ∧
  (¬ r6 = (0 : Int32) →
  wp_X7_found V5 r6 (fun r13 V12 =>
  K r13 V12))))) ∧
  (¬ r2 = (0 : Int32) →
  K (-1000001 : Int32) V1)))
def wp_X7_copy_b103 (K : Int32 → VT → Prop)  (V : VT)  : Prop :=
  wp_X7_found V (2 : Int32) (fun r34 V33 =>
  K r34 V33)
def wp_X7_copy_b55 (K : Int32 → VT → Prop)  (V : VT)  : Prop :=
  wp_X7_found V (1 : Int32) (fun r32 V31 =>
  K r32 V31)
def wp_X7_copy (V : VT) (x1 : Int32) (x2 : Int32) (x3 : Int32) (x4 : Int32) (x5 : Int32) (K : Int32 → VT → Prop) : Prop :=
  wp_X7_isOut V x1 (0 : Int32) (7 : Int32) (fun r2 V1 =>
  ((¬ r2 = (0 : Int32) →
  K (-1000001 : Int32) V1) ∧
  (r2 = (0 : Int32) →
  wp_X7_isOut V1 x3 (0 : Int32) (7 : Int32) (fun r5 V4 =>
  ((r5 = (0 : Int32) →
  vp_in x1 8 ∧
  vp_in x3 8 ∧
  wp_X5_isMissing V4 (36 + 2 * (x1).toNatClampNeg) (fun r10 V9 =>
  ((¬ r10 = (0 : Int32) →
  wp_X7_copy_b55 K  V9) ∧
  (r10 = (0 : Int32) →
  wp_X5_isMissing V9 (36 + 2 * (x3).toNatClampNeg) (fun r13 V12 =>
  ((r13 = (0 : Int32) →
  (((V12 (36 + 2 * (x1).toNatClampNeg) 1) = (V12 (36 + 2 * (x3).toNatClampNeg) 1) →
  wp_X5_findingAt V12 (36 + 2 * (x1).toNatClampNeg) x2 x5 (fun r17 V16 =>
  ((¬ r17 = (0 : Int32) →
  wp_X7_copy_b103 K  V16) ∧
  (r17 = (0 : Int32) →
  wp_X5_findingAt V16 (36 + 2 * (x3).toNatClampNeg) x4 x5 (fun r20 V19 =>
  ((r20 = (0 : Int32) →
  ¬ x2 < 0 ∧ ¬ x4 < 0 ∧ ¬ x5 < 0 ∧ (x2).toNatClampNeg + (x5).toNatClampNeg ≤ 40 ∧ (x4).toNatClampNeg + (x5).toNatClampNeg ≤ 40 ∧
  ∀ V22 : VT, V22 = upc V19 ((36 + 2 * (x3).toNatClampNeg) + 1) (va_cpy (V19 ((36 + 2 * (x1).toNatClampNeg) + 1)) (V19 ((36 + 2 * (x3).toNatClampNeg) + 1)) (x2).toNatClampNeg (x4).toNatClampNeg (x5).toNatClampNeg) →
  ∀ V28 : VT, V28 = up2 V22 0 10 (0 : Int32) →
  K x5 V28) ∧
  (¬ r20 = (0 : Int32) →
  wp_X7_copy_b103 K  V19))))))) ∧
  (¬ (V12 (36 + 2 * (x1).toNatClampNeg) 1) = (V12 (36 + 2 * (x3).toNatClampNeg) 1) →
  wp_X7_found V12 (5 : Int32) (fun r30 V29 =>
  K r30 V29)))) ∧
  (¬ r13 = (0 : Int32) →
  wp_X7_copy_b55 K  V12))))))) ∧
  (¬ r5 = (0 : Int32) →
  K (-1000001 : Int32) V4))))))
def wp_X7_drop (V : VT) (x1 : Int32) (K : Int32 → VT → Prop) : Prop :=
  wp_X7_isOut V x1 (0 : Int32) (7 : Int32) (fun r2 V1 =>
  ((r2 = (0 : Int32) →
  vp_in x1 8 ∧
  wp_X5_isMissing V1 (36 + 2 * (x1).toNatClampNeg) (fun r6 V5 =>
  ((r6 = (0 : Int32) →
  vp_in x1 8 ∧
  vp_in x1 8 ∧
  wp_X5_become V5 (36 + 2 * (x1).toNatClampNeg) (-1 : Int32) (0 : Int32) (fun V10 =>
  ∀ V11 : VT, V11 = up2 V10 0 10 (0 : Int32) →
  K (V5 (36 + 2 * (x1).toNatClampNeg) 2) V11)) ∧
  (¬ r6 = (0 : Int32) →
  wp_X7_found V5 (1 : Int32) (fun r13 V12 =>
  K r13 V12))))) ∧
  (¬ r2 = (0 : Int32) →
  K (-1000001 : Int32) V1)))
def wp_X7_feed (V : VT) (x1 : Int32) (K : Int32 → VT → Prop) : Prop :=
  wp_X7_isOut V x1 (0 : Int32) (255 : Int32) (fun r2 V1 =>
  ((r2 = (0 : Int32) →
  wp_X6_add V1 x1 (fun r5 V4 =>
  ((r5 = (0 : Int32) →
  K (-1000003 : Int32) V4) ∧
  (¬ r5 = (0 : Int32) →
  K (V4 3 1) V4)))) ∧
  (¬ r2 = (0 : Int32) →
  K (-1000001 : Int32) V1)))
def wp_X7_lane (V : VT)  (K : Int32 → VT → Prop) : Prop :=
  wp_X6_readInto V 21 (fun r2 V1 =>
  wp_X6_clear V1  (fun V3 =>
  ((r2 = (0 : Int32) →
  wp_X3_be V3 16 21 (fun V5 =>
  wp_X0_clear V5  (fun V6 =>
  K (V6 16 5) V6))) ∧
  (¬ r2 = (0 : Int32) →
  ∀ V7 : VT, V7 = up2 V3 0 9 r2 →
  K ((-1000100 : Int32) - (V1 3 2)) V7))))
def wp_X7_fault (V : VT)  (K : Int32 → VT → Prop) : Prop :=
  K (V 0 9) V
def wp_X7_undo (V : VT)  (K : Int32 → VT → Prop) : Prop :=
  ((¬ (V 5 5) = (0 : Int32) →
  wp_X0_takeBack V 16 (fun V2 =>
  K (V2 5 5) V2)) ∧
  ((V 5 5) = (0 : Int32) →
  K (-1000002 : Int32) V))
def wp_X7_moment (V : VT) (x1 : Int32) (K : Int32 → VT → Prop) : Prop :=
  wp_X3_isThere V 16 (fun r2 V1 =>
  ((¬ r2 = (0 : Int32) →
  wp_X7_isOut V1 x1 (-1 : Int32) ((V1 16 5) - (1 : Int32)) (fun r5 V4 =>
  ((r5 = (0 : Int32) →
  (((V4 20 3) = (0 : Int32) →
  (((V4 16 8) < (999 : Int32) →
  wp_X0_keep V4 16 (0 : Int32) (fun V9 =>
  wp_X3_kindAt V9 16 x1 (fun r11 V10 =>
  wp_X3_forceAt V10 16 x1 (fun r13 V12 =>
  wp_X2_pass V12 20 16 r11 r13 (fun V14 =>
  ∀ V15 : VT, V15 = up2 V14 16 8 ((V14 16 8) + (1 : Int32)) →
  K (V15 20 0) V15))))) ∧
  (¬ (V4 16 8) < (999 : Int32) →
  K (-1000003 : Int32) V4))) ∧
  (¬ (V4 20 3) = (0 : Int32) →
  K (-1000002 : Int32) V4))) ∧
  (¬ r5 = (0 : Int32) →
  K (-1000001 : Int32) V4)))) ∧
  (r2 = (0 : Int32) →
  K (-1000002 : Int32) V1)))
def wp_X7_setUp (V : VT) (x1 : Int32) (x2 : Int32) (x3 : Int32) (K : Int32 → VT → Prop) : Prop :=
  wp_X3_isThere V 16 (fun r2 V1 =>
  ((¬ r2 = (0 : Int32) →
  wp_X7_isOut V1 x1 (0 : Int32) ((V1 16 4) - (1 : Int32)) (fun r5 V4 =>
  ((¬ r5 = (0 : Int32) →
  K (-1000001 : Int32) V4) ∧
  (r5 = (0 : Int32) →
  wp_X7_isOut V4 x2 (1 : Int32) (9 : Int32) (fun r8 V7 =>
  ((¬ r8 = (0 : Int32) →
  K (-1000001 : Int32) V7) ∧
  (r8 = (0 : Int32) →
  wp_X7_isOut V7 x3 ((0 : Int32) - (V7 16 6)) (V7 16 6) (fun r11 V10 =>
  ((r11 = (0 : Int32) →
  wp_X0_keep V10 16 (0 : Int32) (fun V13 =>
  wp_X2_stand V13 20 x1 x2 x3 (fun V14 =>
  K (V10 20 0) V14))) ∧
  (¬ r11 = (0 : Int32) →
  K (-1000001 : Int32) V10)))))))))) ∧
  (r2 = (0 : Int32) →
  K (-1000002 : Int32) V1)))
def wp_X7_lay (V : VT) (x1 : Int32) (x2 : Int32) (K : Int32 → VT → Prop) : Prop :=
  wp_X3_isThere V 16 (fun r2 V1 =>
  ((¬ r2 = (0 : Int32) →
  wp_X7_isOut V1 x1 (0 : Int32) ((V1 16 4) - (1 : Int32)) (fun r5 V4 =>
  ((¬ r5 = (0 : Int32) →
  K (-1000001 : Int32) V4) ∧
  (r5 = (0 : Int32) →
  wp_X7_isOut V4 x2 (0 : Int32) (5 : Int32) (fun r8 V7 =>
  ((r8 = (0 : Int32) →
  vp_in x1 24 ∧
  wp_X0_keep V7 16 x1 (fun V11 =>
  vp_in x1 24 ∧
  ∀ V13 : VT, V13 = up2 V11 17 (x1).toNatClampNeg x2 →
  K (V7 17 (x1).toNatClampNeg) V13)) ∧
  (¬ r8 = (0 : Int32) →
  K (-1000001 : Int32) V7))))))) ∧
  (r2 = (0 : Int32) →
  K (-1000002 : Int32) V1)))
def wp_X7_hoop (V : VT) (x1 : Int32) (K : Int32 → VT → Prop) : Prop :=
  wp_X3_isThere V 16 (fun r2 V1 =>
  ((¬ r2 = (0 : Int32) →
  wp_X7_isOut V1 x1 (0 : Int32) (4 : Int32) (fun r5 V4 =>
  ((r5 = (0 : Int32) →
  ((¬ x1 = (4 : Int32) →
  wp_X2_tell V4 20 x1 (fun r9 V8 =>
  K r9 V8)) ∧
  (x1 = (4 : Int32) →
  K (V4 16 8) V4))) ∧
  (¬ r5 = (0 : Int32) →
  K (-1000001 : Int32) V4)))) ∧
  (r2 = (0 : Int32) →
  K (-1000002 : Int32) V1)))
def wp_X7_ground (V : VT) (x1 : Int32) (K : Int32 → VT → Prop) : Prop :=
  wp_X7_isOut V x1 (0 : Int32) ((V 16 4) - (1 : Int32)) (fun r2 V1 =>
  ((r2 = (0 : Int32) →
  vp_in x1 24 ∧
  K (V1 17 (x1).toNatClampNeg) V1) ∧
  (¬ r2 = (0 : Int32) →
  K (-1000001 : Int32) V1)))
def wp_X7_force (V : VT) (x1 : Int32) (K : Int32 → VT → Prop) : Prop :=
  wp_X7_isOut V x1 (0 : Int32) ((V 16 5) - (1 : Int32)) (fun r2 V1 =>
  ((r2 = (0 : Int32) →
  wp_X3_forceAt V1 16 x1 (fun r5 V4 =>
  K r5 V4)) ∧
  (¬ r2 = (0 : Int32) →
  K (-1000001 : Int32) V1)))
def wp_X7_ahead_L51 (K : Int32 → VT → Prop)  : Nat → VT → Int32 → Int32 → Int32 → Prop
  | 0, _, _, _, _ => False
  | n + 1, V, x1, x2, x3 =>
    ((x1 ≤ x3 →
    wp_X2_tell V 15 x2 (fun r13 V12 =>
    K r13 V12)) ∧
    (¬ x1 ≤ x3 →
    wp_X2_pass V 15 16 (0 : Int32) (0 : Int32) (fun V14 =>
    (wp_X7_ahead_L51 K  n) V14 x1 x2 (x3 + (1 : Int32)))))
def wp_X7_ahead (V : VT) (x1 : Int32) (x2 : Int32) (K : Int32 → VT → Prop) : Prop :=
  wp_X3_isThere V 16 (fun r2 V1 =>
  ((¬ r2 = (0 : Int32) →
  wp_X7_isOut V1 x1 (0 : Int32) (40 : Int32) (fun r5 V4 =>
  ((¬ r5 = (0 : Int32) →
  K (-1000001 : Int32) V4) ∧
  (r5 = (0 : Int32) →
  wp_X7_isOut V4 x2 (0 : Int32) (3 : Int32) (fun r8 V7 =>
  ((r8 = (0 : Int32) →
  wp_X2_be V7 15 20 (fun V10 =>
  ∃ n51 : Nat, wp_X7_ahead_L51 K  n51 V10 x1 x2 (0 : Int32))) ∧
  (¬ r8 = (0 : Int32) →
  K (-1000001 : Int32) V7))))))) ∧
  (r2 = (0 : Int32) →
  K (-1000002 : Int32) V1)))
def wp_X7_leastCost (V : VT) (x1 : Int32) (x2 : Int32) (x3 : Int32) (K : Int32 → VT → Prop) : Prop :=
  wp_X3_isThere V 16 (fun r2 V1 =>
  ((¬ r2 = (0 : Int32) →
  wp_X7_isOut V1 x1 (0 : Int32) (1 : Int32) (fun r5 V4 =>
  ((r5 = (0 : Int32) →
  wp_X4_walk V4 16 20 x2 x3 (1000000 : Int32) (fun V7 =>
  wp_X4_cost V7  (fun r9 V8 =>
  ((¬ r9 = (1000000 : Int32) →
  ((¬ x1 = (0 : Int32) →
  wp_X4_first V8  (fun r13 V12 =>
  K r13 V12)) ∧
  (x1 = (0 : Int32) →
  wp_X4_cost V8  (fun r15 V14 =>
  K r15 V14)))) ∧
  (r9 = (1000000 : Int32) →
  K (-1000000 : Int32) V8))))) ∧
  (¬ r5 = (0 : Int32) →
  K (-1000001 : Int32) V4)))) ∧
  (r2 = (0 : Int32) →
  K (-1000002 : Int32) V1)))
def wp_X7_fewest (V : VT) (x1 : Int32) (K : Int32 → VT → Prop) : Prop :=
  wp_X7_leastCost V x1 (1 : Int32) (0 : Int32) (fun r2 V1 =>
  K r2 V1)
def wp_X7_soonest (V : VT) (x1 : Int32) (K : Int32 → VT → Prop) : Prop :=
  wp_X7_leastCost V x1 (0 : Int32) (1 : Int32) (fun r2 V1 =>
  K r2 V1)
def wp_X7_canBeHome (V : VT) (k1 : Nat) (K : Int32 → VT → Prop) : Prop :=
  wp_X4_walk V 16 k1 (1 : Int32) (0 : Int32) (1000000 : Int32) (fun V1 =>
  wp_X4_cost V1  (fun r3 V2 =>
  ((r3 = (1000000 : Int32) →
  K (0 : Int32) V2) ∧
  (¬ r3 = (1000000 : Int32) →
  K (1 : Int32) V2))))
def wp_X7_heldFrom_L31 (K : Int32 → VT → Prop)  : Nat → VT → Int32 → Prop
  | 0, _, _ => False
  | n + 1, V, x1 =>
    (((9 : Int32) < x1 →
    K (-1000000 : Int32) V) ∧
    (¬ (9 : Int32) < x1 →
    wp_X2_stand V 15 (V 20 0) x1 (V 20 2) (fun V6 =>
    wp_X7_canBeHome V6 15 (fun r8 V7 =>
    ((r8 = (0 : Int32) →
    (wp_X7_heldFrom_L31 K  n) V7 (x1 + (1 : Int32))) ∧
    (¬ r8 = (0 : Int32) →
    K x1 V7))))))
def wp_X7_heldFrom (V : VT)  (K : Int32 → VT → Prop) : Prop :=
  wp_X3_isThere V 16 (fun r2 V1 =>
  ((¬ r2 = (0 : Int32) →
  (((V1 20 3) = (0 : Int32) →
  ∃ n31 : Nat, wp_X7_heldFrom_L31 K  n31 V1 (1 : Int32)) ∧
  (¬ (V1 20 3) = (0 : Int32) →
  K (-1000000 : Int32) V1))) ∧
  (r2 = (0 : Int32) →
  K (-1000002 : Int32) V1)))
def wp_X7_righted_b96 (K : Int32 → VT → Prop) (KL43 : VT → Int32 → Int32 → Prop) (V : VT) (x1 : Int32) (x2 : Int32) : Prop :=
  KL43 V x1 (x2 + (1 : Int32))
def wp_X7_righted_L43 (K : Int32 → VT → Prop)  : Nat → VT → Int32 → Int32 → Prop
  | 0, _, _, _ => False
  | n + 1, V, x1, x2 =>
    (((V 16 6) < x2 →
    K x1 V) ∧
    (¬ (V 16 6) < x2 →
    wp_X2_stand V 15 (V 20 0) (V 20 1) x2 (fun V7 =>
    wp_X7_canBeHome V7 15 (fun r9 V8 =>
    ((r9 = (0 : Int32) →
    wp_X7_righted_b96 K (wp_X7_righted_L43 K  n) V8 x1 x2) ∧
    (¬ r9 = (0 : Int32) →
    wp_X7_righted_b96 K (wp_X7_righted_L43 K  n) V8 (x1 + (1 : Int32)) x2))))))
def wp_X7_righted (V : VT)  (K : Int32 → VT → Prop) : Prop :=
  wp_X3_isThere V 16 (fun r2 V1 =>
  ((¬ r2 = (0 : Int32) →
  (((V1 16 5) = (0 : Int32) →
  K (-1000000 : Int32) V1) ∧
  (¬ (V1 16 5) = (0 : Int32) →
  (((V1 20 3) = (0 : Int32) →
  ∃ n43 : Nat, wp_X7_righted_L43 K  n43 V1 (0 : Int32) (0 : Int32)) ∧
  (¬ (V1 20 3) = (0 : Int32) →
  K (-1000000 : Int32) V1))))) ∧
  (r2 = (0 : Int32) →
  K (-1000002 : Int32) V1)))
def wp_X7_tapsIn_b53 (K : Int32 → VT → Prop) (KL6 : VT → Nat → Int32 → Int32 → Int32 → Int32 → Prop) (V : VT) (k1 : Nat) (x2 : Int32) (x3 : Int32) (x4 : Int32) (x5 : Int32) : Prop :=
  KL6 V k1 x2 x3 x4 (x5 + (1 : Int32))
def wp_X7_tapsIn_L6 (K : Int32 → VT → Prop)  : Nat → VT → Nat → Int32 → Int32 → Int32 → Int32 → Prop
  | 0, _, _, _, _, _, _ => False
  | n + 1, V, k1, x2, x3, x4, x5 =>
    (((x2 + x3) ≤ x5 →
    K x4 V) ∧
    (¬ (x2 + x3) ≤ x5 →
    vp_in x5 40 ∧
    wp_X7_isOut V (V (k1 + 1) (x5).toNatClampNeg) (-1 : Int32) ((V 16 5) - (1 : Int32)) (fun r4 V3 =>
    ((r4 = (0 : Int32) →
    vp_in x5 40 ∧
    (((V3 (k1 + 1) (x5).toNatClampNeg) < (0 : Int32) →
    wp_X7_tapsIn_b53 K (wp_X7_tapsIn_L6 K  n) V3 k1 x2 x3 x4 x5) ∧
    (¬ (V3 (k1 + 1) (x5).toNatClampNeg) < (0 : Int32) →
    wp_X7_tapsIn_b53 K (wp_X7_tapsIn_L6 K  n) V3 k1 x2 x3 (x4 + (1 : Int32)) x5))) ∧
    (¬ r4 = (0 : Int32) →
    K (-1000000 : Int32) V3)))))
def wp_X7_tapsIn (V : VT) (k1 : Nat) (x2 : Int32) (x3 : Int32) (K : Int32 → VT → Prop) : Prop :=
  ∃ n6 : Nat, wp_X7_tapsIn_L6 K  n6 V k1 x2 x3 (0 : Int32) x2
def wp_X7_plan_b176 (K : Int32 → VT → Prop)  (V : VT) (x4 : Int32) (x7 : Int32) : Prop :=
  ((¬ x4 = (0 : Int32) →
  K (V 15 3) V) ∧
  (x4 = (0 : Int32) →
  K x7 V))
def wp_X7_plan_L113 (K : Int32 → VT → Prop)  : Nat → VT → Int32 → Int32 → Int32 → Nat → Int32 → Prop
  | 0, _, _, _, _, _, _ => False
  | n + 1, V, x2, x3, x4, k5, x7 =>
    ((x3 ≤ x7 →
    wp_X7_plan_b176 K  V x4 x7) ∧
    (¬ x3 ≤ x7 →
    ((¬ (V 15 3) = (0 : Int32) →
    wp_X7_plan_b176 K  V x4 x7) ∧
    ((V 15 3) = (0 : Int32) →
    vp_in (x2 + x7) 40 ∧
    wp_X3_kindAt V 16 (V (k5 + 1) ((x2 + x7)).toNatClampNeg) (fun r28 V27 =>
    wp_X3_forceAt V27 16 (V (k5 + 1) ((x2 + x7)).toNatClampNeg) (fun r30 V29 =>
    wp_X2_pass V29 15 16 r28 r30 (fun V31 =>
    (wp_X7_plan_L113 K  n) V31 x2 x3 x4 k5 (x7 + (1 : Int32)))))))))
def wp_X7_plan (V : VT) (x1 : Int32) (x2 : Int32) (x3 : Int32) (x4 : Int32) (K : Int32 → VT → Prop) : Prop :=
  wp_X3_isThere V 16 (fun r2 V1 =>
  ((¬ r2 = (0 : Int32) →
  wp_X7_isOut V1 x1 (0 : Int32) (7 : Int32) (fun r5 V4 =>
  ((¬ r5 = (0 : Int32) →
  K (-1000001 : Int32) V4) ∧
  (r5 = (0 : Int32) →
  wp_X7_isOut V4 x3 (0 : Int32) (24 : Int32) (fun r8 V7 =>
  ((¬ r8 = (0 : Int32) →
  K (-1000001 : Int32) V7) ∧
  (r8 = (0 : Int32) →
  wp_X7_isOut V7 x4 (0 : Int32) (1 : Int32) (fun r11 V10 =>
  ((r11 = (0 : Int32) →
  vp_in x1 8 ∧
  wp_X5_findingAt V10 (36 + 2 * (x1).toNatClampNeg) x2 x3 (fun r15 V14 =>
  ((r15 = (0 : Int32) →
  wp_X7_tapsIn V14 (36 + 2 * (x1).toNatClampNeg) x2 x3 (fun r18 V17 =>
  ((¬ r18 = (-1000000 : Int32) →
  ∀ V20 : VT, V20 = up2 V17 0 10 (0 : Int32) →
  wp_X2_be V20 15 20 (fun V21 =>
  ∃ n113 : Nat, wp_X7_plan_L113 K  n113 V21 x2 x3 x4 (36 + 2 * (x1).toNatClampNeg) (0 : Int32))) ∧
  (r18 = (-1000000 : Int32) →
  K (-1000001 : Int32) V17)))) ∧
  (¬ r15 = (0 : Int32) →
  wp_X7_found V14 r15 (fun r23 V22 =>
  K r23 V22))))) ∧
  (¬ r11 = (0 : Int32) →
  K (-1000001 : Int32) V10)))))))))) ∧
  (r2 = (0 : Int32) →
  K (-1000002 : Int32) V1)))
def wp_X7_comesSo_L3 (K : Int32 → VT → Prop)  : Nat → VT → Nat → Int32 → Int32 → Int32 → Prop
  | 0, _, _, _, _, _ => False
  | n + 1, V, k1, x2, x3, x4 =>
    ((x3 ≤ x4 →
    K (1 : Int32) V) ∧
    (¬ x3 ≤ x4 →
    vp_in (x2 + x4) 40 ∧
    (((V 15 0) = (V (k1 + 1) ((x2 + x4)).toNatClampNeg) →
    wp_X2_pass V 15 16 (0 : Int32) (0 : Int32) (fun V4 =>
    (wp_X7_comesSo_L3 K  n) V4 k1 x2 x3 (x4 + (1 : Int32)))) ∧
    (¬ (V 15 0) = (V (k1 + 1) ((x2 + x4)).toNatClampNeg) →
    K (0 : Int32) V))))
def wp_X7_comesSo (V : VT) (k1 : Nat) (x2 : Int32) (x3 : Int32) (K : Int32 → VT → Prop) : Prop :=
  ∃ n3 : Nat, wp_X7_comesSo_L3 K  n3 V k1 x2 x3 (0 : Int32)
def wp_X7_pacesSeen_b74 (K : Int32 → VT → Prop) (KL6 : VT → Nat → Int32 → Int32 → Int32 → Int32 → Prop) (V : VT) (k1 : Nat) (x2 : Int32) (x3 : Int32) (x4 : Int32) (x5 : Int32) : Prop :=
  KL6 V k1 x2 x3 x4 (x5 + (1 : Int32))
def wp_X7_pacesSeen_L6 (K : Int32 → VT → Prop)  : Nat → VT → Nat → Int32 → Int32 → Int32 → Int32 → Prop
  | 0, _, _, _, _, _, _ => False
  | n + 1, V, k1, x2, x3, x4, x5 =>
    (((9 : Int32) < x5 →
    K x4 V) ∧
    (¬ (9 : Int32) < x5 →
    wp_X2_stand V 15 (V 20 0) x5 (V 20 2) (fun V2 =>
    wp_X2_pass V2 15 16 (0 : Int32) (0 : Int32) (fun V3 =>
    wp_X7_comesSo V3 k1 x2 x3 (fun r5 V4 =>
    ((r5 = (0 : Int32) →
    wp_X7_pacesSeen_b74 K (wp_X7_pacesSeen_L6 K  n) V4 k1 x2 x3 x4 x5) ∧
    (¬ r5 = (0 : Int32) →
    wp_X7_pacesSeen_b74 K (wp_X7_pacesSeen_L6 K  n) V4 k1 x2 x3 (x4 ||| ((1 : Int32) <<< (x5 &&& (31 : Int32)))) x5)))))))
def wp_X7_pacesSeen (V : VT) (k1 : Nat) (x2 : Int32) (x3 : Int32) (K : Int32 → VT → Prop) : Prop :=
  ∃ n6 : Nat, wp_X7_pacesSeen_L6 K  n6 V k1 x2 x3 (0 : Int32) (1 : Int32)
def wp_X7_leansSeen_b89 (K : Int32 → VT → Prop) (KL14 : VT → Nat → Int32 → Int32 → Int32 → Int32 → Prop) (V : VT) (k1 : Nat) (x2 : Int32) (x3 : Int32) (x4 : Int32) (x5 : Int32) : Prop :=
  KL14 V k1 x2 x3 x4 (x5 + (1 : Int32))
def wp_X7_leansSeen_L14 (K : Int32 → VT → Prop)  : Nat → VT → Nat → Int32 → Int32 → Int32 → Int32 → Prop
  | 0, _, _, _, _, _, _ => False
  | n + 1, V, k1, x2, x3, x4, x5 =>
    (((V 16 6) < x5 →
    K x4 V) ∧
    (¬ (V 16 6) < x5 →
    wp_X2_stand V 15 (V 20 0) (V 20 1) x5 (fun V2 =>
    wp_X2_pass V2 15 16 (0 : Int32) (0 : Int32) (fun V3 =>
    wp_X7_comesSo V3 k1 x2 x3 (fun r5 V4 =>
    ((r5 = (0 : Int32) →
    wp_X7_leansSeen_b89 K (wp_X7_leansSeen_L14 K  n) V4 k1 x2 x3 x4 x5) ∧
    (¬ r5 = (0 : Int32) →
    wp_X7_leansSeen_b89 K (wp_X7_leansSeen_L14 K  n) V4 k1 x2 x3 (x4 ||| ((1 : Int32) <<< ((x5 + (5 : Int32)) &&& (31 : Int32)))) x5)))))))
def wp_X7_leansSeen (V : VT) (k1 : Nat) (x2 : Int32) (x3 : Int32) (K : Int32 → VT → Prop) : Prop :=
  ∃ n14 : Nat, wp_X7_leansSeen_L14 K  n14 V k1 x2 x3 (0 : Int32) ((0 : Int32) - (V 16 6))
def wp_X7_seen (V : VT) (x1 : Int32) (x2 : Int32) (x3 : Int32) (x4 : Int32) (K : Int32 → VT → Prop) : Prop :=
  wp_X3_isThere V 16 (fun r2 V1 =>
  ((¬ r2 = (0 : Int32) →
  wp_X7_isOut V1 x1 (0 : Int32) (7 : Int32) (fun r5 V4 =>
  ((¬ r5 = (0 : Int32) →
  K (-1000001 : Int32) V4) ∧
  (r5 = (0 : Int32) →
  wp_X7_isOut V4 x3 (1 : Int32) (8 : Int32) (fun r8 V7 =>
  ((¬ r8 = (0 : Int32) →
  K (-1000001 : Int32) V7) ∧
  (r8 = (0 : Int32) →
  wp_X7_isOut V7 x4 (0 : Int32) (1 : Int32) (fun r11 V10 =>
  ((r11 = (0 : Int32) →
  (((V10 20 3) = (0 : Int32) →
  vp_in x1 8 ∧
  wp_X5_findingAt V10 (36 + 2 * (x1).toNatClampNeg) x2 x3 (fun r16 V15 =>
  ((r16 = (0 : Int32) →
  ∀ V18 : VT, V18 = up2 V15 0 10 (0 : Int32) →
  ((¬ x4 = (0 : Int32) →
  vp_in x1 8 ∧
  wp_X7_leansSeen V18 (36 + 2 * (x1).toNatClampNeg) x2 x3 (fun r22 V21 =>
  K r22 V21)) ∧
  (x4 = (0 : Int32) →
  vp_in x1 8 ∧
  wp_X7_pacesSeen V18 (36 + 2 * (x1).toNatClampNeg) x2 x3 (fun r25 V24 =>
  K r25 V24)))) ∧
  (¬ r16 = (0 : Int32) →
  wp_X7_found V15 r16 (fun r27 V26 =>
  K r27 V26))))) ∧
  (¬ (V10 20 3) = (0 : Int32) →
  K (-1000002 : Int32) V10))) ∧
  (¬ r11 = (0 : Int32) →
  K (-1000001 : Int32) V10)))))))))) ∧
  (r2 = (0 : Int32) →
  K (-1000002 : Int32) V1)))
def wp_X7_who_b160 (K : Int32 → VT → Prop) (KL94 : VT → Int32 → Int32 → Int32 → Int32 → Int32 → Int32 → Prop) (V : VT) (x1 : Int32) (x2 : Int32) (x3 : Int32) (x4 : Int32) (x6 : Int32) (x7 : Int32) : Prop :=
  KL94 V x1 x2 x3 x4 x6 (x7 + (1 : Int32))
def wp_X7_who_L94 (K : Int32 → VT → Prop)  : Nat → VT → Int32 → Int32 → Int32 → Int32 → Int32 → Int32 → Prop
  | 0, _, _, _, _, _, _, _ => False
  | n + 1, V, x1, x2, x3, x4, x6, x7 =>
    (((5 : Int32) < x7 →
    K x6 V) ∧
    (¬ (5 : Int32) < x7 →
    wp_X2_be V 15 20 (fun V19 =>
    wp_X3_forceAt V19 16 x1 (fun r21 V20 =>
    wp_X2_pass V20 15 16 x7 r21 (fun V22 =>
    vp_in x2 8 ∧
    wp_X7_comesSo V22 (36 + 2 * (x2).toNatClampNeg) x3 x4 (fun r25 V24 =>
    ((r25 = (0 : Int32) →
    wp_X7_who_b160 K (wp_X7_who_L94 K  n) V24 x1 x2 x3 x4 x6 x7) ∧
    (¬ r25 = (0 : Int32) →
    wp_X7_who_b160 K (wp_X7_who_L94 K  n) V24 x1 x2 x3 x4 (x6 ||| ((1 : Int32) <<< (x7 &&& (31 : Int32)))) x7))))))))
def wp_X7_who (V : VT) (x1 : Int32) (x2 : Int32) (x3 : Int32) (x4 : Int32) (K : Int32 → VT → Prop) : Prop :=
  wp_X7_isOut V x1 (0 : Int32) ((V 16 5) - (1 : Int32)) (fun r2 V1 =>
  ((¬ r2 = (0 : Int32) →
  K (-1000001 : Int32) V1) ∧
  (r2 = (0 : Int32) →
  wp_X7_isOut V1 x2 (0 : Int32) (7 : Int32) (fun r5 V4 =>
  ((¬ r5 = (0 : Int32) →
  K (-1000001 : Int32) V4) ∧
  (r5 = (0 : Int32) →
  wp_X7_isOut V4 x4 (1 : Int32) (8 : Int32) (fun r8 V7 =>
  ((r8 = (0 : Int32) →
  (((V7 20 3) = (0 : Int32) →
  vp_in x2 8 ∧
  wp_X5_findingAt V7 (36 + 2 * (x2).toNatClampNeg) x3 x4 (fun r13 V12 =>
  ((r13 = (0 : Int32) →
  ∀ V15 : VT, V15 = up2 V12 0 10 (0 : Int32) →
  ∃ n94 : Nat, wp_X7_who_L94 K  n94 V15 x1 x2 x3 x4 (0 : Int32) (1 : Int32)) ∧
  (¬ r13 = (0 : Int32) →
  wp_X7_found V12 r13 (fun r17 V16 =>
  K r17 V16))))) ∧
  (¬ (V7 20 3) = (0 : Int32) →
  K (-1000002 : Int32) V7))) ∧
  (¬ r8 = (0 : Int32) →
  K (-1000001 : Int32) V7)))))))))
def wp_X7_falls (V : VT)  (K : Int32 → VT → Prop) : Prop :=
  wp_X3_isThere V 16 (fun r2 V1 =>
  ((¬ r2 = (0 : Int32) →
  wp_X4_walk V1 16 20 (1 : Int32) (0 : Int32) (1000000 : Int32) (fun V4 =>
  K (V4 10 4) V4)) ∧
  (r2 = (0 : Int32) →
  K (-1000002 : Int32) V1)))
def wp_X7_fewestIfFlat (V : VT) (x1 : Int32) (x2 : Int32) (K : Int32 → VT → Prop) : Prop :=
  vp_in x1 24 ∧
  ((¬ (V 17 (x1).toNatClampNeg) = (0 : Int32) →
  vp_in x1 24 ∧
  ∀ V4 : VT, V4 = up2 V 17 (x1).toNatClampNeg (0 : Int32) →
  wp_X4_walk V4 16 20 (1 : Int32) (0 : Int32) x2 (fun V5 =>
  vp_in x1 24 ∧
  ∀ V7 : VT, V7 = up2 V5 17 (x1).toNatClampNeg (V 17 (x1).toNatClampNeg) →
  wp_X4_cost V7  (fun r9 V8 =>
  K r9 V8))) ∧
  ((V 17 (x1).toNatClampNeg) = (0 : Int32) →
  K x2 V))
def wp_X7_mend_b114 (K : Int32 → VT → Prop)  (V : VT) (x1 : Int32) (x2 : Int32) (x3 : Int32) : Prop :=
  ((¬ x2 = (1000000 : Int32) →
  ((¬ x1 = (0 : Int32) →
  K x2 V) ∧
  (x1 = (0 : Int32) →
  K x3 V))) ∧
  (x2 = (1000000 : Int32) →
  K (-1000000 : Int32) V))
def wp_X7_mend_b108 (K : Int32 → VT → Prop) (KL71 : VT → Int32 → Int32 → Int32 → Int32 → Prop) (V : VT) (x1 : Int32) (x2 : Int32) (x3 : Int32) (x4 : Int32) : Prop :=
  KL71 V x1 x2 x3 (x4 + (1 : Int32))
def wp_X7_mend_L71 (K : Int32 → VT → Prop)  : Nat → VT → Int32 → Int32 → Int32 → Int32 → Prop
  | 0, _, _, _, _, _ => False
  | n + 1, V, x1, x2, x3, x4 =>
    (((V 16 4) ≤ x4 →
    wp_X7_mend_b114 K  V x1 x2 x3) ∧
    (¬ (V 16 4) ≤ x4 →
    ((x2 ≤ (0 : Int32) →
    wp_X7_mend_b114 K  V x1 x2 x3) ∧
    (¬ x2 ≤ (0 : Int32) →
    wp_X7_fewestIfFlat V x4 x2 (fun r13 V12 =>
    ((x2 ≤ r13 →
    wp_X7_mend_b108 K (wp_X7_mend_L71 K  n) V12 x1 x2 x3 x4) ∧
    (¬ x2 ≤ r13 →
    wp_X7_mend_b108 K (wp_X7_mend_L71 K  n) V12 x1 r13 x4 x4)))))))
def wp_X7_mend (V : VT) (x1 : Int32) (K : Int32 → VT → Prop) : Prop :=
  wp_X3_isThere V 16 (fun r2 V1 =>
  ((¬ r2 = (0 : Int32) →
  wp_X7_isOut V1 x1 (0 : Int32) (1 : Int32) (fun r5 V4 =>
  ((r5 = (0 : Int32) →
  wp_X4_walk V4 16 20 (1 : Int32) (0 : Int32) (1000000 : Int32) (fun V7 =>
  wp_X4_cost V7  (fun r9 V8 =>
  ∃ n71 : Nat, wp_X7_mend_L71 K  n71 V8 x1 r9 (0 : Int32) ((V8 20 0) + (1 : Int32))))) ∧
  (¬ r5 = (0 : Int32) →
  K (-1000001 : Int32) V4)))) ∧
  (r2 = (0 : Int32) →
  K (-1000002 : Int32) V1)))
def wp_X7_isHomeIf_b109 (K : Int32 → VT → Prop)  (V : VT)  : Prop :=
  ((¬ (V 15 3) = (2 : Int32) →
  K (0 : Int32) V) ∧
  ((V 15 3) = (2 : Int32) →
  K (1 : Int32) V))
def wp_X7_isHomeIf_b74 (K : Int32 → VT → Prop) (KL20 : VT → Int32 → Nat → Int32 → Int32 → Int32 → Int32 → Prop) (V : VT) (x1 : Int32) (k2 : Nat) (x3 : Int32) (x4 : Int32) (x5 : Int32) (x6 : Int32) (x7 : Int32) : Prop :=
  wp_X3_kindAt V 16 x7 (fun r9 V8 =>
  wp_X3_forceAt V8 16 x7 (fun r11 V10 =>
  wp_X2_pass V10 15 16 r9 r11 (fun V12 =>
  KL20 V12 x1 k2 x3 x4 x5 (x6 + (1 : Int32)))))
def wp_X7_isHomeIf_b69 (K : Int32 → VT → Prop) (KL20 : VT → Int32 → Nat → Int32 → Int32 → Int32 → Int32 → Prop) (V : VT) (x1 : Int32) (k2 : Nat) (x3 : Int32) (x4 : Int32) (x5 : Int32) (x6 : Int32) (s0 : Int32) : Prop :=
  wp_X7_isHomeIf_b74 K KL20 V x1 k2 x3 x4 (x5 + (1 : Int32)) x6 s0
def wp_X7_isHomeIf_L20 (K : Int32 → VT → Prop)  : Nat → VT → Int32 → Nat → Int32 → Int32 → Int32 → Int32 → Prop
  | 0, _, _, _, _, _, _, _ => False
  | n + 1, V, x1, k2, x3, x4, x5, x6 =>
    ((x4 ≤ x6 →
    wp_X7_isHomeIf_b109 K  V) ∧
    (¬ x4 ≤ x6 →
    ((¬ (V 15 3) = (0 : Int32) →
    wp_X7_isHomeIf_b109 K  V) ∧
    ((V 15 3) = (0 : Int32) →
    vp_in (x3 + x6) 40 ∧
    (((V (k2 + 1) ((x3 + x6)).toNatClampNeg) < (0 : Int32) →
    wp_X7_isHomeIf_b74 K (wp_X7_isHomeIf_L20 K  n) V x1 k2 x3 x4 x5 x6 (V (k2 + 1) ((x3 + x6)).toNatClampNeg)) ∧
    (¬ (V (k2 + 1) ((x3 + x6)).toNatClampNeg) < (0 : Int32) →
    ((¬ ((x1 >>> (x5 &&& (31 : Int32))) &&& (1 : Int32)) = (1 : Int32) →
    wp_X7_isHomeIf_b69 K (wp_X7_isHomeIf_L20 K  n) V x1 k2 x3 x4 x5 x6 (V (k2 + 1) ((x3 + x6)).toNatClampNeg)) ∧
    (((x1 >>> (x5 &&& (31 : Int32))) &&& (1 : Int32)) = (1 : Int32) →
    wp_X7_isHomeIf_b69 K (wp_X7_isHomeIf_L20 K  n) V x1 k2 x3 x4 x5 x6 (-1 : Int32)))))))))
def wp_X7_isHomeIf (V : VT) (x1 : Int32) (k2 : Nat) (x3 : Int32) (x4 : Int32) (K : Int32 → VT → Prop) : Prop :=
  wp_X2_be V 15 20 (fun V1 =>
  ∃ n20 : Nat, wp_X7_isHomeIf_L20 K  n20 V1 x1 k2 x3 x4 (0 : Int32) (0 : Int32))
def wp_J6_bitCount_0f7a4 (V : VT) (x0 : Int32) (K : Int32 → VT → Prop) : Prop :=
  ∀ z1 : Int32, z1 = (x0 - (((x0).toUInt32 >>> (((1 : Int32)).toUInt32 &&& Int32.toUInt32 31)).toInt32 &&& (1431655765 : Int32))) →
  ∀ z2 : Int32, z2 = ((z1 &&& (858993459 : Int32)) + (((z1).toUInt32 >>> (((2 : Int32)).toUInt32 &&& Int32.toUInt32 31)).toInt32 &&& (858993459 : Int32))) →
  ∀ z3 : Int32, z3 = ((z2 + ((z2).toUInt32 >>> (((4 : Int32)).toUInt32 &&& Int32.toUInt32 31)).toInt32) &&& (252645135 : Int32)) →
  ∀ z4 : Int32, z4 = ((z3 + ((z3).toUInt32 >>> (((8 : Int32)).toUInt32 &&& Int32.toUInt32 31)).toInt32) + (((z3 + ((z3).toUInt32 >>> (((8 : Int32)).toUInt32 &&& Int32.toUInt32 31)).toInt32)).toUInt32 >>> (((16 : Int32)).toUInt32 &&& Int32.toUInt32 31)).toInt32) →
  K (z4 &&& (63 : Int32)) V
def wp_X7_power_L5 (K : Int64 → VT → Prop)  : Nat → VT → Int32 → Int32 → Int64 → Int32 → Prop
  | 0, _, _, _, _, _ => False
  | n + 1, V, x0, x1, y2, x4 =>
    ((x1 ≤ x4 →
    K y2 V) ∧
    (¬ x1 ≤ x4 →
    (wp_X7_power_L5 K  n) V x0 x1 (y2 * (x0).toInt64) (x4 + (1 : Int32))))
def wp_X7_power (V : VT) (x0 : Int32) (x1 : Int32) (K : Int64 → VT → Prop) : Prop :=
  ∃ n5 : Nat, wp_X7_power_L5 K  n5 V x0 x1 (1 : Int64) (0 : Int32)
def wp_X7_commonDivisor_L9 (K : Int64 → VT → Prop)  : Nat → VT → Int64 → Int64 → Int32 → Prop
  | 0, _, _, _, _ => False
  | n + 1, V, y4, y6, x8 =>
    (((1000 : Int32) ≤ x8 →
    K y4 V) ∧
    (¬ (1000 : Int32) ≤ x8 →
    (((lg_cmp y6 (0 : Int64)) = (0 : Int32) →
    K y4 V) ∧
    (¬ (lg_cmp y6 (0 : Int64)) = (0 : Int32) →
    ¬ y6 = 0 ∧
    (wp_X7_commonDivisor_L9 K  n) V y6 (y4 - y4 / y6 * y6) (x8 + (1 : Int32))))))
def wp_X7_commonDivisor (V : VT) (y0 : Int64) (y2 : Int64) (K : Int64 → VT → Prop) : Prop :=
  ∃ n9 : Nat, wp_X7_commonDivisor_L9 K  n9 V y0 y2 (0 : Int32)
def wp_X7_miss_b183 (K : Int64 → VT → Prop) (KL128 : VT → Int32 → Int32 → Int32 → Int32 → Nat → Int32 → Int64 → Int32 → Prop) (V : VT) (x2 : Int32) (x3 : Int32) (x4 : Int32) (x5 : Int32) (k6 : Nat) (x8 : Int32) (y9 : Int64) (x11 : Int32) : Prop :=
  KL128 V x2 x3 x4 x5 k6 x8 y9 (x11 + (1 : Int32))
def wp_X7_miss_L128 (K : Int64 → VT → Prop)  : Nat → VT → Int32 → Int32 → Int32 → Int32 → Nat → Int32 → Int64 → Int32 → Prop
  | 0, _, _, _, _, _, _, _, _, _ => False
  | n + 1, V, x2, x3, x4, x5, k6, x8, y9, x11 =>
    ((((1 : Int32) <<< (x8 &&& (31 : Int32))) ≤ x11 →
    wp_X7_power V (10 : Int32) x8 (fun r29 V28 =>
    wp_X7_commonDivisor V28 r29 y9 (fun r31 V30 =>
    ((¬ (lg_cmp r31 (0 : Int64)) = (0 : Int32) →
    ((¬ x5 = (0 : Int32) →
    ¬ r31 = 0 ∧
    K (r29 / r31) V30) ∧
    (x5 = (0 : Int32) →
    ¬ r31 = 0 ∧
    K (y9 / r31) V30))) ∧
    ((lg_cmp r31 (0 : Int64)) = (0 : Int32) →
    K (-1000000 : Int64) V30))))) ∧
    (¬ ((1 : Int32) <<< (x8 &&& (31 : Int32))) ≤ x11 →
    wp_X7_isHomeIf V x11 k6 x2 x3 (fun r37 V36 =>
    ((r37 = (0 : Int32) →
    wp_X7_miss_b183 K (wp_X7_miss_L128 K  n) V36 x2 x3 x4 x5 k6 x8 y9 x11) ∧
    (¬ r37 = (0 : Int32) →
    wp_J6_bitCount_0f7a4 V36 x11 (fun r40 V39 =>
    wp_X7_power V39 x4 r40 (fun r42 V41 =>
    wp_X7_power V41 ((10 : Int32) - x4) (x8 - r40) (fun r44 V43 =>
    wp_X7_miss_b183 K (wp_X7_miss_L128 K  n) V43 x2 x3 x4 x5 k6 x8 (y9 + (r42 * r44)) x11))))))))
def wp_X7_miss_b113 (K : Int64 → VT → Prop)  (V : VT)  : Prop :=
  K (-1000001 : Int64) V
def wp_X7_miss_b55 (K : Int64 → VT → Prop)  (V : VT)  : Prop :=
  K (-1000001 : Int64) V
def wp_X7_miss (V : VT) (x1 : Int32) (x2 : Int32) (x3 : Int32) (x4 : Int32) (x5 : Int32) (K : Int64 → VT → Prop) : Prop :=
  wp_X3_isThere V 16 (fun r2 V1 =>
  ((¬ r2 = (0 : Int32) →
  wp_X7_isOut V1 x1 (0 : Int32) (7 : Int32) (fun r5 V4 =>
  ((¬ r5 = (0 : Int32) →
  wp_X7_miss_b55 K  V4) ∧
  (r5 = (0 : Int32) →
  wp_X7_isOut V4 x3 (1 : Int32) (24 : Int32) (fun r8 V7 =>
  ((¬ r8 = (0 : Int32) →
  wp_X7_miss_b55 K  V7) ∧
  (r8 = (0 : Int32) →
  wp_X7_isOut V7 x4 (0 : Int32) (10 : Int32) (fun r11 V10 =>
  ((¬ r11 = (0 : Int32) →
  wp_X7_miss_b55 K  V10) ∧
  (r11 = (0 : Int32) →
  wp_X7_isOut V10 x5 (0 : Int32) (1 : Int32) (fun r14 V13 =>
  ((r14 = (0 : Int32) →
  vp_in x1 8 ∧
  wp_X5_findingAt V13 (36 + 2 * (x1).toNatClampNeg) x2 x3 (fun r18 V17 =>
  ((r18 = (0 : Int32) →
  wp_X7_tapsIn V17 (36 + 2 * (x1).toNatClampNeg) x2 x3 (fun r21 V20 =>
  ((r21 = (-1000000 : Int32) →
  wp_X7_miss_b113 K  V20) ∧
  (¬ r21 = (-1000000 : Int32) →
  ((r21 ≤ (8 : Int32) →
  ∀ V24 : VT, V24 = up2 V20 0 10 (0 : Int32) →
  ∃ n128 : Nat, wp_X7_miss_L128 K  n128 V24 x2 x3 x4 x5 (36 + 2 * (x1).toNatClampNeg) r21 (0 : Int64) (0 : Int32)) ∧
  (¬ r21 ≤ (8 : Int32) →
  wp_X7_miss_b113 K  V20)))))) ∧
  (¬ r18 = (0 : Int32) →
  wp_X7_found V17 r18 (fun r26 V25 =>
  K ((r26).toInt64) V25))))) ∧
  (¬ r14 = (0 : Int32) →
  wp_X7_miss_b55 K  V13))))))))))))) ∧
  (r2 = (0 : Int32) →
  K (-1000002 : Int64) V1)))
def wp_X7_drawn_b139 (K : Int32 → VT → Prop)  (V : VT) (x3 : Int32) (x6 : Int32) : Prop :=
  ((¬ x3 = (0 : Int32) →
  K x6 V) ∧
  (x3 = (0 : Int32) →
  K (V 15 0) V))
def wp_X7_drawn_L67 (K : Int32 → VT → Prop)  : Nat → VT → Int32 → Int32 → Int64 → Int32 → Prop
  | 0, _, _, _, _, _ => False
  | n + 1, V, x1, x3, y4, x6 =>
    ((x1 ≤ x6 →
    wp_X7_drawn_b139 K  V x3 x6) ∧
    (¬ x1 ≤ x6 →
    ((¬ (V 15 3) = (0 : Int32) →
    wp_X7_drawn_b139 K  V x3 x6) ∧
    ((V 15 3) = (0 : Int32) →
    ∀ z16 : Int64, z16 = ((y4 * (16807 : Int64)) - (y4 * (16807 : Int64)) / (2147483647 : Int64) * (2147483647 : Int64)) →
    wp_X3_kindAt V 16 (((z16 - z16 / (8 : Int64) * (8 : Int64))).toInt32) (fun r18 V17 =>
    wp_X3_forceAt V17 16 (((z16 - z16 / (8 : Int64) * (8 : Int64))).toInt32) (fun r20 V19 =>
    wp_X2_pass V19 15 16 r18 r20 (fun V21 =>
    (wp_X7_drawn_L67 K  n) V21 x1 x3 z16 (x6 + (1 : Int32)))))))))
def wp_X7_drawn (V : VT) (x1 : Int32) (x2 : Int32) (x3 : Int32) (K : Int32 → VT → Prop) : Prop :=
  wp_X3_isThere V 16 (fun r2 V1 =>
  ((¬ r2 = (0 : Int32) →
  wp_X7_isOut V1 x1 (0 : Int32) (40 : Int32) (fun r5 V4 =>
  ((¬ r5 = (0 : Int32) →
  K (-1000001 : Int32) V4) ∧
  (r5 = (0 : Int32) →
  wp_X7_isOut V4 x2 (1 : Int32) (999999 : Int32) (fun r8 V7 =>
  ((¬ r8 = (0 : Int32) →
  K (-1000001 : Int32) V7) ∧
  (r8 = (0 : Int32) →
  wp_X7_isOut V7 x3 (0 : Int32) (1 : Int32) (fun r11 V10 =>
  ((r11 = (0 : Int32) →
  wp_X2_be V10 15 20 (fun V13 =>
  ∃ n67 : Nat, wp_X7_drawn_L67 K  n67 V13 x1 x3 ((x2).toInt64) (0 : Int32))) ∧
  (¬ r11 = (0 : Int32) →
  K (-1000001 : Int32) V10)))))))))) ∧
  (r2 = (0 : Int32) →
  K (-1000002 : Int32) V1)))
def wp_X7_image (V : VT) (x1 : Int32) (K : Int32 → VT → Prop) : Prop :=
  wp_X7_isOut V x1 (0 : Int32) (1 : Int32) (fun r2 V1 =>
  ((r2 = (0 : Int32) →
  wp_X3_isThere V1 16 (fun r5 V4 =>
  ((¬ r5 = (0 : Int32) →
  vp_in x1 2 ∧
  wp_X3_be V4 (26 + 5 * (x1).toNatClampNeg) 16 (fun V8 =>
  K (1 : Int32) V8)) ∧
  (r5 = (0 : Int32) →
  K (-1000002 : Int32) V4)))) ∧
  (¬ r2 = (0 : Int32) →
  K (-1000001 : Int32) V1)))
def wp_X7_restore (V : VT) (x1 : Int32) (K : Int32 → VT → Prop) : Prop :=
  wp_X7_isOut V x1 (0 : Int32) (1 : Int32) (fun r2 V1 =>
  ((r2 = (0 : Int32) →
  vp_in x1 2 ∧
  wp_X3_isThere V1 (26 + 5 * (x1).toNatClampNeg) (fun r6 V5 =>
  ((¬ r6 = (0 : Int32) →
  vp_in x1 2 ∧
  wp_X3_be V5 16 (26 + 5 * (x1).toNatClampNeg) (fun V9 =>
  wp_X0_clear V9  (fun V10 =>
  K (1 : Int32) V10))) ∧
  (r6 = (0 : Int32) →
  K (-1000002 : Int32) V5)))) ∧
  (¬ r2 = (0 : Int32) →
  K (-1000001 : Int32) V1)))
def wp_X7_kind (V : VT) (x1 : Int32) (K : Int32 → VT → Prop) : Prop :=
  wp_X7_isOut V x1 (0 : Int32) ((V 16 5) - (1 : Int32)) (fun r2 V1 =>
  ((r2 = (0 : Int32) →
  wp_X3_kindAt V1 16 x1 (fun r5 V4 =>
  K r5 V4)) ∧
  (¬ r2 = (0 : Int32) →
  K (-1000001 : Int32) V1)))
def wp_X7_as (V : VT) (x1 : Int32) (x2 : Int32) (K : Int32 → VT → Prop) : Prop :=
  wp_X7_isOut V x1 (0 : Int32) ((V 16 5) - (1 : Int32)) (fun r2 V1 =>
  ((¬ r2 = (0 : Int32) →
  K (-1000001 : Int32) V1) ∧
  (r2 = (0 : Int32) →
  wp_X7_isOut V1 x2 (0 : Int32) (5 : Int32) (fun r5 V4 =>
  ((r5 = (0 : Int32) →
  wp_X3_kindAt V4 16 x1 (fun r8 V7 =>
  wp_X7_isOfKind V7 r8 x2 (fun r10 V9 =>
  ((¬ r10 = (0 : Int32) →
  ∀ V12 : VT, V12 = up2 V9 0 10 (0 : Int32) →
  K x1 V12) ∧
  (r10 = (0 : Int32) →
  wp_X7_found V9 (3 : Int32) (fun r14 V13 =>
  K r14 V13)))))) ∧
  (¬ r5 = (0 : Int32) →
  K (-1000001 : Int32) V4))))))
def wp_X7_ask (V : VT) (x1 : Int32) (x2 : Int32) (K : Int32 → VT → Prop) : Prop :=
  wp_X7_isOut V x1 (0 : Int32) ((V 16 5) - (1 : Int32)) (fun r2 V1 =>
  ((¬ r2 = (0 : Int32) →
  K (-1000001 : Int32) V1) ∧
  (r2 = (0 : Int32) →
  wp_X7_isOut V1 x2 (0 : Int32) (1 : Int32) (fun r5 V4 =>
  ((r5 = (0 : Int32) →
  wp_X1_begin V4 16 x1 (fun V7 =>
  ((¬ x2 = (0 : Int32) →
  wp_X1_mark V7  (fun r10 V9 =>
  K r10 V9)) ∧
  (x2 = (0 : Int32) →
  wp_X1_size V7  (fun r12 V11 =>
  K r12 V11))))) ∧
  (¬ r5 = (0 : Int32) →
  K (-1000001 : Int32) V4))))))
def wp_X7_trace (V : VT) (x1 : Int32) (K : Int32 → VT → Prop) : Prop :=
  wp_X7_isOut V x1 (0 : Int32) ((V 13 1) - (1 : Int32)) (fun r2 V1 =>
  ((r2 = (0 : Int32) →
  vp_in x1 16 ∧
  K (V1 14 (x1).toNatClampNeg) V1) ∧
  (¬ r2 = (0 : Int32) →
  K (-1000000 : Int32) V1)))
def wp_X7_rowsThere_b25 (K : Int32 → VT → Prop) (KL4 : VT → Int32 → Int32 → Prop) (V : VT) (x1 : Int32) (x2 : Int32) : Prop :=
  KL4 V x1 (x2 + (1 : Int32))
def wp_X7_rowsThere_L4 (K : Int32 → VT → Prop)  : Nat → VT → Int32 → Int32 → Prop
  | 0, _, _, _ => False
  | n + 1, V, x1, x2 =>
    (((8 : Int32) ≤ x2 →
    K x1 V) ∧
    (¬ (8 : Int32) ≤ x2 →
    vp_in x2 8 ∧
    wp_X5_isMissing V (36 + 2 * (x2).toNatClampNeg) (fun r4 V3 =>
    ((¬ r4 = (0 : Int32) →
    wp_X7_rowsThere_b25 K (wp_X7_rowsThere_L4 K  n) V3 x1 x2) ∧
    (r4 = (0 : Int32) →
    wp_X7_rowsThere_b25 K (wp_X7_rowsThere_L4 K  n) V3 (x1 + (1 : Int32)) x2)))))
def wp_X7_rowsThere (V : VT)  (K : Int32 → VT → Prop) : Prop :=
  ∃ n4 : Nat, wp_X7_rowsThere_L4 K  n4 V (0 : Int32) (0 : Int32)
def wp_X7_count (V : VT) (x1 : Int32) (K : Int32 → VT → Prop) : Prop :=
  ((x1 = (0 : Int32) →
  wp_X7_rowsThere V  (fun r3 V2 =>
  K r3 V2)) ∧
  (x1 = (1 : Int32) →
  K (V 16 4) V) ∧
  (x1 = (2 : Int32) →
  K (V 16 5) V) ∧
  (x1 = (3 : Int32) →
  K (V 16 6) V) ∧
  (x1 = (4 : Int32) →
  K (V 16 7) V) ∧
  (x1 = (5 : Int32) →
  K (V 16 8) V) ∧
  (x1 = (6 : Int32) →
  K (V 5 5) V) ∧
  (x1 = (7 : Int32) →
  K (V 3 1) V) ∧
  (¬ x1 = (0 : Int32) → ¬ x1 = (1 : Int32) → ¬ x1 = (2 : Int32) → ¬ x1 = (3 : Int32) → ¬ x1 = (4 : Int32) → ¬ x1 = (5 : Int32) → ¬ x1 = (6 : Int32) → ¬ x1 = (7 : Int32) →
  K (-1000001 : Int32) V))
def wp_X7_status (V : VT)  (K : Int32 → VT → Prop) : Prop :=
  K (V 0 10) V
def wp_X8_in (V : VT) (y0 : Int64) (y2 : Int64) (y4 : Int64) (K : Int32 → VT → Prop) : Prop :=
  (((lg_cmp y0 y2) < (0 : Int32) →
  K (0 : Int32) V) ∧
  (¬ (lg_cmp y0 y2) < (0 : Int32) →
  (((0 : Int32) < (lg_cmp y0 y4) →
  K (0 : Int32) V) ∧
  (¬ (0 : Int32) < (lg_cmp y0 y4) →
  K (1 : Int32) V))))
def wp_X8_finds (V : VT) (x1 : Int32) (K : Int32 → VT → Prop) : Prop :=
  ∀ V1 : VT, V1 = up2 V 0 4 x1 →
  K ((-1000010 : Int32) - x1) V1
def wp_X8_well (V : VT) (x1 : Int32) (K : Int32 → VT → Prop) : Prop :=
  ∀ V1 : VT, V1 = up2 V 0 4 (0 : Int32) →
  K x1 V1
def wp_X8_isRow (V : VT) (x0 : Int32) (K : Int32 → VT → Prop) : Prop :=
  wp_X8_in V ((x0).toInt64) (0 : Int64) (7 : Int64) (fun r2 V1 =>
  (r2 = 0 ∨ r2 = 1) ∧ K r2 V1)
def wp_X8_row_L55 (K : Int32 → VT → Prop)  : Nat → VT → Int32 → Int32 → Int32 → Prop
  | 0, _, _, _, _ => False
  | n + 1, V, x1, x3, x4 =>
    (((40 : Int32) ≤ x4 →
    wp_X8_well V x3 (fun r17 V16 =>
    K r17 V16)) ∧
    (¬ (40 : Int32) ≤ x4 →
    vp_in (((40 : Int32) * x1) + x4) 320 ∧
    ∀ V19 : VT, V19 = up2 V 3 ((((40 : Int32) * x1) + x4)).toNatClampNeg (0 : Int32) →
    (wp_X8_row_L55 K  n) V19 x1 x3 (x4 + (1 : Int32))))
def wp_X8_row (V : VT) (x1 : Int32) (x2 : Int32) (x3 : Int32) (K : Int32 → VT → Prop) : Prop :=
  wp_X8_isRow V x1 (fun r2 V1 =>
  ((r2 = (0 : Int32) →
  K (-1000001 : Int32) V1) ∧
  (¬ r2 = (0 : Int32) →
  wp_X8_in V1 ((x2).toInt64) (0 : Int64) (2 : Int64) (fun r5 V4 =>
  ((r5 = (0 : Int32) →
  K (-1000001 : Int32) V4) ∧
  (¬ r5 = (0 : Int32) →
  ((x3 ≤ (40 : Int32) →
  (((0 : Int32) ≤ x3 →
  vp_in x1 8 ∧
  ∀ V10 : VT, V10 = up2 V4 1 (x1).toNatClampNeg x2 →
  vp_in x1 8 ∧
  ∀ V12 : VT, V12 = up2 V10 2 (x1).toNatClampNeg x3 →
  ∃ n55 : Nat, wp_X8_row_L55 K  n55 V12 x1 x3 (0 : Int32)) ∧
  (¬ (0 : Int32) ≤ x3 →
  wp_X8_finds V4 (4 : Int32) (fun r14 V13 =>
  K r14 V13)))) ∧
  (¬ x3 ≤ (40 : Int32) →
  K (-1000001 : Int32) V4))))))))
def wp_X8_set_b89 (K : Int32 → VT → Prop)  (V : VT) (x1 : Int32) (x2 : Int32) (s1 : Int32) (s2 : Int32) : Prop :=
  vp_in s1 320 ∧
  ∀ V18 : VT, V18 = up2 V 3 (s1).toNatClampNeg s2 →
  vp_in (((40 : Int32) * x1) + x2) 320 ∧
  wp_X8_well V18 (V18 3 ((((40 : Int32) * x1) + x2)).toNatClampNeg) (fun r21 V20 =>
  K r21 V20)
def wp_X8_set (V : VT) (x1 : Int32) (x2 : Int32) (x3 : Int32) (K : Int32 → VT → Prop) : Prop :=
  wp_X8_isRow V x1 (fun r2 V1 =>
  ((¬ r2 = (0 : Int32) →
  vp_in x1 8 ∧
  (((0 : Int32) ≤ (V1 1 (x1).toNatClampNeg) →
  vp_in x1 8 ∧
  wp_X8_in V1 ((x2).toInt64) (0 : Int64) ((((V1 2 (x1).toNatClampNeg) - (1 : Int32))).toInt64) (fun r8 V7 =>
  ((¬ r8 = (0 : Int32) →
  vp_in x1 8 ∧
  ((¬ (V7 1 (x1).toNatClampNeg) = (0 : Int32) →
  ((¬ (V7 1 (x1).toNatClampNeg) = (1 : Int32) →
  wp_X8_set_b89 K  V7 x1 x2 (((40 : Int32) * x1) + x2) x3) ∧
  ((V7 1 (x1).toNatClampNeg) = (1 : Int32) →
  wp_X8_set_b89 K  V7 x1 x2 (((40 : Int32) * x1) + x2) ((x3).toInt16.toInt32)))) ∧
  ((V7 1 (x1).toNatClampNeg) = (0 : Int32) →
  wp_X8_set_b89 K  V7 x1 x2 (((40 : Int32) * x1) + x2) ((x3).toInt8.toInt32)))) ∧
  (r8 = (0 : Int32) →
  wp_X8_finds V7 (2 : Int32) (fun r14 V13 =>
  K r14 V13))))) ∧
  (¬ (0 : Int32) ≤ (V1 1 (x1).toNatClampNeg) →
  wp_X8_finds V1 (1 : Int32) (fun r16 V15 =>
  K r16 V15)))) ∧
  (r2 = (0 : Int32) →
  K (-1000001 : Int32) V1)))
def wp_X8_isPart (V : VT) (x1 : Int32) (x2 : Int32) (x3 : Int32) (K : Int32 → VT → Prop) : Prop :=
  ((x2 < (0 : Int32) →
  K (0 : Int32) V) ∧
  (¬ x2 < (0 : Int32) →
  ((x3 < (0 : Int32) →
  K (0 : Int32) V) ∧
  (¬ x3 < (0 : Int32) →
  vp_in x1 8 ∧
  (((0 : Int32) < (lg_cmp ((x2).toInt64 + (x3).toInt64) (((V 2 (x1).toNatClampNeg)).toInt64)) →
  K (0 : Int32) V) ∧
  (¬ (0 : Int32) < (lg_cmp ((x2).toInt64 + (x3).toInt64) (((V 2 (x1).toNatClampNeg)).toInt64)) →
  K (1 : Int32) V))))))
def wp_X8_copy_L131 (K : Int32 → VT → Prop)  : Nat → VT → Int32 → Int32 → Int32 → Int32 → Prop
  | 0, _, _, _, _, _ => False
  | n + 1, V, x3, x4, x5, x6 =>
    ((x5 ≤ x6 →
    wp_X8_well V x5 (fun r32 V31 =>
    K r32 V31)) ∧
    (¬ x5 ≤ x6 →
    vp_in x6 40 ∧
    vp_in ((((40 : Int32) * x3) + x4) + x6) 320 ∧
    ∀ V35 : VT, V35 = up2 V 3 (((((40 : Int32) * x3) + x4) + x6)).toNatClampNeg (V 4 (x6).toNatClampNeg) →
    (wp_X8_copy_L131 K  n) V35 x3 x4 x5 (x6 + (1 : Int32))))
def wp_X8_copy_L94 (K : Int32 → VT → Prop)  : Nat → VT → Int32 → Int32 → Int32 → Int32 → Int32 → Int32 → Prop
  | 0, _, _, _, _, _, _, _ => False
  | n + 1, V, x1, x2, x3, x4, x5, x6 =>
    ((x5 ≤ x6 →
    ∃ n131 : Nat, wp_X8_copy_L131 K  n131 V x3 x4 x5 (0 : Int32)) ∧
    (¬ x5 ≤ x6 →
    vp_in ((((40 : Int32) * x1) + x2) + x6) 320 ∧
    vp_in x6 40 ∧
    ∀ V29 : VT, V29 = up2 V 4 (x6).toNatClampNeg (V 3 (((((40 : Int32) * x1) + x2) + x6)).toNatClampNeg) →
    (wp_X8_copy_L94 K  n) V29 x1 x2 x3 x4 x5 (x6 + (1 : Int32))))
def wp_X8_copy_b85 (K : Int32 → VT → Prop)  (V : VT)  : Prop :=
  wp_X8_finds V (2 : Int32) (fun r25 V24 =>
  K r25 V24)
def wp_X8_copy_b35 (K : Int32 → VT → Prop)  (V : VT)  : Prop :=
  wp_X8_finds V (1 : Int32) (fun r23 V22 =>
  K r23 V22)
def wp_X8_copy (V : VT) (x1 : Int32) (x2 : Int32) (x3 : Int32) (x4 : Int32) (x5 : Int32) (K : Int32 → VT → Prop) : Prop :=
  wp_X8_isRow V x1 (fun r2 V1 =>
  ((r2 = (0 : Int32) →
  K (-1000001 : Int32) V1) ∧
  (¬ r2 = (0 : Int32) →
  wp_X8_isRow V1 x3 (fun r5 V4 =>
  ((¬ r5 = (0 : Int32) →
  vp_in x1 8 ∧
  (((V4 1 (x1).toNatClampNeg) < (0 : Int32) →
  wp_X8_copy_b35 K  V4) ∧
  (¬ (V4 1 (x1).toNatClampNeg) < (0 : Int32) →
  vp_in x3 8 ∧
  (((0 : Int32) ≤ (V4 1 (x3).toNatClampNeg) →
  vp_in x1 8 ∧
  vp_in x3 8 ∧
  (((V4 1 (x1).toNatClampNeg) = (V4 1 (x3).toNatClampNeg) →
  wp_X8_isPart V4 x1 x2 x5 (fun r15 V14 =>
  ((r15 = (0 : Int32) →
  wp_X8_copy_b85 K  V14) ∧
  (¬ r15 = (0 : Int32) →
  wp_X8_isPart V14 x3 x4 x5 (fun r18 V17 =>
  ((¬ r18 = (0 : Int32) →
  ∃ n94 : Nat, wp_X8_copy_L94 K  n94 V17 x1 x2 x3 x4 x5 (0 : Int32)) ∧
  (r18 = (0 : Int32) →
  wp_X8_copy_b85 K  V17))))))) ∧
  (¬ (V4 1 (x1).toNatClampNeg) = (V4 1 (x3).toNatClampNeg) →
  wp_X8_finds V4 (5 : Int32) (fun r21 V20 =>
  K r21 V20)))) ∧
  (¬ (0 : Int32) ≤ (V4 1 (x3).toNatClampNeg) →
  wp_X8_copy_b35 K  V4))))) ∧
  (r5 = (0 : Int32) →
  K (-1000001 : Int32) V4))))))
def wp_X8_drop (V : VT) (x1 : Int32) (K : Int32 → VT → Prop) : Prop :=
  wp_X8_isRow V x1 (fun r2 V1 =>
  ((¬ r2 = (0 : Int32) →
  vp_in x1 8 ∧
  (((0 : Int32) ≤ (V1 1 (x1).toNatClampNeg) →
  vp_in x1 8 ∧
  ∀ V7 : VT, V7 = up2 V1 1 (x1).toNatClampNeg (-1 : Int32) →
  vp_in x1 8 ∧
  wp_X8_well V7 (V7 2 (x1).toNatClampNeg) (fun r10 V9 =>
  K r10 V9)) ∧
  (¬ (0 : Int32) ≤ (V1 1 (x1).toNatClampNeg) →
  wp_X8_finds V1 (1 : Int32) (fun r12 V11 =>
  K r12 V11)))) ∧
  (r2 = (0 : Int32) →
  K (-1000001 : Int32) V1)))
def wp_X8_partOf (V : VT) (x1 : Int32) (x2 : Int32) (x3 : Int32) (K : Int32 → VT → Prop) : Prop :=
  vp_in x1 8 ∧
  (((0 : Int32) ≤ (V 1 (x1).toNatClampNeg) →
  wp_X8_isPart V x1 x2 x3 (fun r4 V3 =>
  ((r4 = (0 : Int32) →
  K (2 : Int32) V3) ∧
  (¬ r4 = (0 : Int32) →
  K (0 : Int32) V3)))) ∧
  (¬ (0 : Int32) ≤ (V 1 (x1).toNatClampNeg) →
  K (1 : Int32) V))
def wp_X8_feed (V : VT) (x1 : Int32) (K : Int32 → VT → Prop) : Prop :=
  wp_X8_in V ((x1).toInt64) (0 : Int64) (255 : Int64) (fun r2 V1 =>
  ((¬ r2 = (0 : Int32) →
  ((¬ (V1 0 8) = (100 : Int32) →
  vp_in (V1 0 8) 100 ∧
  ∀ V6 : VT, V6 = up2 V1 7 ((V1 0 8)).toNatClampNeg x1 →
  ∀ V7 : VT, V7 = up2 V6 0 8 ((V6 0 8) + (1 : Int32)) →
  K (V7 0 8) V7) ∧
  ((V1 0 8) = (100 : Int32) →
  K (-1000003 : Int32) V1))) ∧
  (r2 = (0 : Int32) →
  K (-1000001 : Int32) V1)))
def wp_X8_here (V : VT)  (K : Int32 → VT → Prop) : Prop :=
  (((V 0 8) ≤ (V 0 9) →
  K (0 : Int32) V) ∧
  (¬ (V 0 8) ≤ (V 0 9) →
  vp_in (V 0 9) 100 ∧
  K (V 7 ((V 0 9)).toNatClampNeg) V))
def wp_X8_wrong (V : VT) (x1 : Int32) (x2 : Int32) (K : VT → Prop) : Prop :=
  ((¬ (V 0 10) = (0 : Int32) →
  K V) ∧
  ((V 0 10) = (0 : Int32) →
  ∀ V2 : VT, V2 = up2 V 0 10 x1 →
  ∀ V3 : VT, V3 = up2 V2 0 11 x2 →
  K V3))
def wp_X8_must_b52 (K : VT → Prop)  (V : VT) (s1 : Int32) (s2 : Int32) : Prop :=
  ∀ V8 : VT, V8 = up2 V 0 9 (s1 + s2) →
  K V8
def wp_X8_must_b35 (K : VT → Prop)  (V : VT)  : Prop :=
  ((¬ (V 0 10) = (0 : Int32) →
  wp_X8_must_b52 K  V (V 0 9) (0 : Int32)) ∧
  ((V 0 10) = (0 : Int32) →
  wp_X8_must_b52 K  V (V 0 9) (1 : Int32)))
def wp_X8_must_b26 (K : VT → Prop)  (V : VT)  : Prop :=
  wp_X8_wrong V (1 : Int32) (V 0 9) (fun V7 =>
  wp_X8_must_b35 K  V7)
def wp_X8_must (V : VT) (x1 : Int32) (K : VT → Prop) : Prop :=
  ((¬ (V 0 10) = (0 : Int32) →
  wp_X8_must_b35 K  V) ∧
  ((V 0 10) = (0 : Int32) →
  (((V 0 9) = (V 0 8) →
  wp_X8_must_b26 K  V) ∧
  (¬ (V 0 9) = (V 0 8) →
  wp_X8_here V  (fun r4 V3 =>
  ((r4 = x1 →
  wp_X8_must_b35 K  V3) ∧
  (¬ r4 = x1 →
  wp_X8_must_b26 K  V3)))))))
def wp_X8_number_b106 (K : Int32 → VT → Prop)  (V : VT) (x3 : Int32) (x4 : Int32) : Prop :=
  wp_X8_wrong V (1 : Int32) x3 (fun V18 =>
  K x4 V18)
def wp_X8_number_b88 (K : Int32 → VT → Prop)  (V : VT) (x1 : Int32) (x2 : Int32) (x3 : Int32) (x4 : Int32) : Prop :=
  (((V 0 9) = x3 →
  wp_X8_number_b106 K  V x3 x4) ∧
  (¬ (V 0 9) = x3 →
  ((((V 0 9) - x3) ≤ (2 : Int32) →
  wp_X8_in V ((x4).toInt64) ((x1).toInt64) ((x2).toInt64) (fun r14 V13 =>
  ((¬ r14 = (0 : Int32) →
  K x4 V13) ∧
  (r14 = (0 : Int32) →
  wp_X8_wrong V13 (2 : Int32) x3 (fun V16 =>
  K x4 V16))))) ∧
  (¬ ((V 0 9) - x3) ≤ (2 : Int32) →
  wp_X8_number_b106 K  V x3 x4))))
def wp_X8_number_b73 (K : Int32 → VT → Prop) (KL17 : VT → Int32 → Int32 → Int32 → Int32 → Prop) (V : VT) (x1 : Int32) (x2 : Int32) (x3 : Int32) (s0 : Int32) : Prop :=
  ∀ V17 : VT, V17 = up2 V 0 9 ((V 0 9) + (1 : Int32)) →
  KL17 V17 x1 x2 x3 s0
def wp_X8_number_L17 (K : Int32 → VT → Prop)  : Nat → VT → Int32 → Int32 → Int32 → Int32 → Prop
  | 0, _, _, _, _, _ => False
  | n + 1, V, x1, x2, x3, x4 =>
    (((V 0 8) ≤ (V 0 9) →
    wp_X8_number_b88 K  V x1 x2 x3 x4) ∧
    (¬ (V 0 8) ≤ (V 0 9) →
    wp_X8_here V  (fun r4 V3 =>
    wp_X8_in V3 ((r4).toInt64) (48 : Int64) (57 : Int64) (fun r6 V5 =>
    ((r6 = (0 : Int32) →
    wp_X8_number_b88 K  V5 x1 x2 x3 x4) ∧
    (¬ r6 = (0 : Int32) →
    ((((V5 0 9) - x3) ≤ (2 : Int32) →
    wp_X8_here V5  (fun r10 V9 =>
    wp_X8_number_b73 K (wp_X8_number_L17 K  n) V9 x1 x2 x3 ((((10 : Int32) * x4) + r10) - (48 : Int32)))) ∧
    (¬ ((V5 0 9) - x3) ≤ (2 : Int32) →
    wp_X8_number_b73 K (wp_X8_number_L17 K  n) V5 x1 x2 x3 x4))))))))
def wp_X8_number (V : VT) (x1 : Int32) (x2 : Int32) (K : Int32 → VT → Prop) : Prop :=
  (((V 0 10) = (0 : Int32) →
  ∃ n17 : Nat, wp_X8_number_L17 K  n17 V x1 x2 (V 0 9) (0 : Int32)) ∧
  (¬ (V 0 10) = (0 : Int32) →
  K x1 V))
def wp_X8_groundOf (V : VT) (x0 : Int32) (K : Int32 → VT → Prop) : Prop :=
  ((¬ x0 = (102 : Int32) →
  ((¬ x0 = (100 : Int32) →
  ((¬ x0 = (117 : Int32) →
  ((¬ x0 = (114 : Int32) →
  ((¬ x0 = (115 : Int32) →
  ((¬ x0 = (119 : Int32) →
  K (-1 : Int32) V) ∧
  (x0 = (119 : Int32) →
  K (5 : Int32) V))) ∧
  (x0 = (115 : Int32) →
  K (4 : Int32) V))) ∧
  (x0 = (114 : Int32) →
  K (3 : Int32) V))) ∧
  (x0 = (117 : Int32) →
  K (2 : Int32) V))) ∧
  (x0 = (100 : Int32) →
  K (1 : Int32) V))) ∧
  (x0 = (102 : Int32) →
  K (0 : Int32) V))
def wp_X8_kindOf (V : VT) (x0 : Int32) (K : Int32 → VT → Prop) : Prop :=
  ((¬ x0 = (118 : Int32) →
  ((¬ x0 = (105 : Int32) →
  ((¬ x0 = (111 : Int32) →
  ((¬ x0 = (98 : Int32) →
  ((¬ x0 = (116 : Int32) →
  K (-1 : Int32) V) ∧
  (x0 = (116 : Int32) →
  K (5 : Int32) V))) ∧
  (x0 = (98 : Int32) →
  K (4 : Int32) V))) ∧
  (x0 = (111 : Int32) →
  K (3 : Int32) V))) ∧
  (x0 = (105 : Int32) →
  K (2 : Int32) V))) ∧
  (x0 = (118 : Int32) →
  K (1 : Int32) V))
def wp_X8_readLaw (V : VT)  (K : VT → Prop) : Prop :=
  wp_X8_must V (104 : Int32) (fun V1 =>
  wp_X8_number V1 (1 : Int32) (9 : Int32) (fun r3 V2 =>
  ∀ V4 : VT, V4 = up2 V2 0 13 r3 →
  wp_X8_must V4 (44 : Int32) (fun V5 =>
  wp_X8_number V5 (0 : Int32) (4 : Int32) (fun r7 V6 =>
  ∀ V8 : VT, V8 = up2 V6 0 14 (r7 - (2 : Int32)) →
  wp_X8_must V8 (44 : Int32) (fun V9 =>
  wp_X8_number V9 (1 : Int32) (5 : Int32) (fun r11 V10 =>
  vp_in (2 : Int32) 38 ∧
  ∀ V13 : VT, V13 = up2 V10 6 ((2 : Int32)).toNatClampNeg r11 →
  wp_X8_must V13 (44 : Int32) (fun V14 =>
  wp_X8_number V14 (0 : Int32) (3 : Int32) (fun r16 V15 =>
  vp_in (3 : Int32) 38 ∧
  ∀ V18 : VT, V18 = up2 V15 6 ((3 : Int32)).toNatClampNeg r16 →
  wp_X8_must V18 (59 : Int32) (fun V19 =>
  K V19)))))))))
def wp_X8_readGrounds_b120 (K : VT → Prop)  (V : VT)  : Prop :=
  wp_X8_must V (59 : Int32) (fun V28 =>
  K V28)
def wp_X8_readGrounds_b95 (K : VT → Prop)  (V : VT)  : Prop :=
  ((¬ (V 0 10) = (0 : Int32) →
  wp_X8_readGrounds_b120 K  V) ∧
  ((V 0 10) = (0 : Int32) →
  vp_in (0 : Int32) 38 ∧
  ((¬ (V 6 ((0 : Int32)).toNatClampNeg) = (0 : Int32) →
  wp_X8_readGrounds_b120 K  V) ∧
  ((V 6 ((0 : Int32)).toNatClampNeg) = (0 : Int32) →
  wp_X8_wrong V (1 : Int32) (V 0 9) (fun V27 =>
  wp_X8_readGrounds_b120 K  V27)))))
def wp_X8_readGrounds_L13 (K : VT → Prop)  : Nat → VT → Prop
  | 0, _ => False
  | n + 1, V =>
    ((¬ (V 0 10) = (0 : Int32) →
    wp_X8_readGrounds_b95 K  V) ∧
    ((V 0 10) = (0 : Int32) →
    vp_in (0 : Int32) 38 ∧
    (((24 : Int32) ≤ (V 6 ((0 : Int32)).toNatClampNeg) →
    wp_X8_readGrounds_b95 K  V) ∧
    (¬ (24 : Int32) ≤ (V 6 ((0 : Int32)).toNatClampNeg) →
    (((V 0 8) ≤ (V 0 9) →
    wp_X8_readGrounds_b95 K  V) ∧
    (¬ (V 0 8) ≤ (V 0 9) →
    wp_X8_here V  (fun r9 V8 =>
    wp_X8_groundOf V8 r9 (fun r11 V10 =>
    ((r11 < (0 : Int32) →
    wp_X8_readGrounds_b95 K  V10) ∧
    (¬ r11 < (0 : Int32) →
    vp_in (0 : Int32) 38 ∧
    wp_X8_here V10  (fun r15 V14 =>
    wp_X8_groundOf V14 r15 (fun r17 V16 =>
    vp_in ((4 : Int32) + (V10 6 ((0 : Int32)).toNatClampNeg)) 38 ∧
    ∀ V19 : VT, V19 = up2 V16 6 (((4 : Int32) + (V10 6 ((0 : Int32)).toNatClampNeg))).toNatClampNeg r17 →
    vp_in (0 : Int32) 38 ∧
    vp_in (0 : Int32) 38 ∧
    ∀ V22 : VT, V22 = up2 V19 6 ((0 : Int32)).toNatClampNeg ((V19 6 ((0 : Int32)).toNatClampNeg) + (1 : Int32)) →
    ∀ V23 : VT, V23 = up2 V22 0 9 ((V22 0 9) + (1 : Int32)) →
    (wp_X8_readGrounds_L13 K  n) V23))))))))))))
def wp_X8_readGrounds (V : VT)  (K : VT → Prop) : Prop :=
  wp_X8_must V (103 : Int32) (fun V1 =>
  vp_in (0 : Int32) 38 ∧
  ∀ V3 : VT, V3 = up2 V1 6 ((0 : Int32)).toNatClampNeg (0 : Int32) →
  ∃ n13 : Nat, wp_X8_readGrounds_L13 K  n13 V3)
def wp_X8_readTap_b43 (K : VT → Prop)  (V : VT) (x1 : Int32) : Prop :=
  ((¬ (V 0 10) = (0 : Int32) →
  K V) ∧
  ((V 0 10) = (0 : Int32) →
  ∀ V11 : VT, V11 = up2 V 0 9 ((V 0 9) + (1 : Int32)) →
  vp_in (1 : Int32) 38 ∧
  vp_in ((28 : Int32) + ((2 : Int32) * (V11 6 ((1 : Int32)).toNatClampNeg))) 38 ∧
  ∀ V14 : VT, V14 = up2 V11 6 (((28 : Int32) + ((2 : Int32) * (V11 6 ((1 : Int32)).toNatClampNeg)))).toNatClampNeg x1 →
  vp_in (1 : Int32) 38 ∧
  wp_X8_number V14 (1 : Int32) (5 : Int32) (fun r17 V16 =>
  vp_in (((28 : Int32) + ((2 : Int32) * (V14 6 ((1 : Int32)).toNatClampNeg))) + (1 : Int32)) 38 ∧
  ∀ V19 : VT, V19 = up2 V16 6 ((((28 : Int32) + ((2 : Int32) * (V14 6 ((1 : Int32)).toNatClampNeg))) + (1 : Int32))).toNatClampNeg r17 →
  wp_X8_must V19 (59 : Int32) (fun V20 =>
  vp_in (1 : Int32) 38 ∧
  vp_in (1 : Int32) 38 ∧
  ∀ V23 : VT, V23 = up2 V20 6 ((1 : Int32)).toNatClampNeg ((V20 6 ((1 : Int32)).toNatClampNeg) + (1 : Int32)) →
  K V23))))
def wp_X8_readTap (V : VT)  (K : VT → Prop) : Prop :=
  wp_X8_here V  (fun r2 V1 =>
  wp_X8_kindOf V1 r2 (fun r4 V3 =>
  (((0 : Int32) ≤ r4 →
  vp_in (1 : Int32) 38 ∧
  ((¬ (V3 6 ((1 : Int32)).toNatClampNeg) = (5 : Int32) →
  wp_X8_readTap_b43 K  V3 r4) ∧
  ((V3 6 ((1 : Int32)).toNatClampNeg) = (5 : Int32) →
  wp_X8_wrong V3 (3 : Int32) (V3 0 9) (fun V8 =>
  wp_X8_readTap_b43 K  V8 r4)))) ∧
  (¬ (0 : Int32) ≤ r4 →
  wp_X8_wrong V3 (1 : Int32) (V3 0 9) (fun V9 =>
  wp_X8_readTap_b43 K  V9 r4)))))
def wp_X8_puts (V : VT) (x1 : Int32) (x2 : Int32) (x3 : Int32) (x4 : Int32) (K : VT → Prop) : Prop :=
  ∀ V1 : VT, V1 = up2 V 0 16 x1 →
  ∀ V2 : VT, V2 = up2 V1 0 17 x2 →
  ∀ V3 : VT, V3 = up2 V2 0 18 x3 →
  ∀ V4 : VT, V4 = up2 V3 0 19 x4 →
  K V4
def wp_X8_lane_L94 (K : Int32 → VT → Prop)  : Nat → VT → Int32 → Prop
  | 0, _, _ => False
  | n + 1, V, x1 =>
    (((38 : Int32) ≤ x1 →
    ∀ V15 : VT, V15 = up2 V 0 15 (1 : Int32) →
    wp_X8_puts V15 (0 : Int32) (V15 0 13) (V15 0 14) (0 : Int32) (fun V16 =>
    ∀ V17 : VT, V17 = up2 V16 0 20 (0 : Int32) →
    ∀ V18 : VT, V18 = up2 V17 0 22 (0 : Int32) →
    vp_in (1 : Int32) 38 ∧
    K (V18 5 ((1 : Int32)).toNatClampNeg) V18)) ∧
    (¬ (38 : Int32) ≤ x1 →
    vp_in x1 38 ∧
    vp_in x1 38 ∧
    ∀ V22 : VT, V22 = up2 V 5 (x1).toNatClampNeg (V 6 (x1).toNatClampNeg) →
    (wp_X8_lane_L94 K  n) V22 (x1 + (1 : Int32))))
def wp_X8_lane_b64 (K : Int32 → VT → Prop)  (V : VT)  : Prop :=
  ∀ V11 : VT, V11 = up2 V 0 8 (0 : Int32) →
  (((V11 0 10) = (0 : Int32) →
  ∃ n94 : Nat, wp_X8_lane_L94 K  n94 V11 (0 : Int32)) ∧
  (¬ (V11 0 10) = (0 : Int32) →
  ∀ V13 : VT, V13 = up2 V11 0 12 (V11 0 10) →
  K ((-1000100 : Int32) - (V13 0 11)) V13))
def wp_X8_lane_L39 (K : Int32 → VT → Prop)  : Nat → VT → Prop
  | 0, _ => False
  | n + 1, V =>
    ((¬ (V 0 10) = (0 : Int32) →
    wp_X8_lane_b64 K  V) ∧
    ((V 0 10) = (0 : Int32) →
    (((V 0 8) ≤ (V 0 9) →
    wp_X8_lane_b64 K  V) ∧
    (¬ (V 0 8) ≤ (V 0 9) →
    wp_X8_readTap V  (fun V10 =>
    (wp_X8_lane_L39 K  n) V10)))))
def wp_X8_lane_L12 (K : Int32 → VT → Prop)  : Nat → VT → Int32 → Prop
  | 0, _, _ => False
  | n + 1, V, x1 =>
    (((38 : Int32) ≤ x1 →
    wp_X8_readLaw V  (fun V4 =>
    wp_X8_readGrounds V4  (fun V5 =>
    ∃ n39 : Nat, wp_X8_lane_L39 K  n39 V5))) ∧
    (¬ (38 : Int32) ≤ x1 →
    vp_in x1 38 ∧
    ∀ V7 : VT, V7 = up2 V 6 (x1).toNatClampNeg (0 : Int32) →
    (wp_X8_lane_L12 K  n) V7 (x1 + (1 : Int32))))
def wp_X8_lane (V : VT)  (K : Int32 → VT → Prop) : Prop :=
  ∀ V1 : VT, V1 = up2 V 0 9 (0 : Int32) →
  ∀ V2 : VT, V2 = up2 V1 0 10 (0 : Int32) →
  ∃ n12 : Nat, wp_X8_lane_L12 K  n12 V2 (0 : Int32)
def wp_X8_fault (V : VT)  (K : Int32 → VT → Prop) : Prop :=
  K (V 0 12) V
def wp_X8_isTap (V : VT) (x1 : Int32) (K : Int32 → VT → Prop) : Prop :=
  vp_in (1 : Int32) 38 ∧
  wp_X8_in V ((x1).toInt64) (0 : Int64) ((((V 5 ((1 : Int32)).toNatClampNeg) - (1 : Int32))).toInt64) (fun r3 V2 =>
  (r3 = 0 ∨ r3 = 1) ∧ K r3 V2)
def wp_X8_kindAt (V : VT) (x1 : Int32) (K : Int32 → VT → Prop) : Prop :=
  vp_in ((28 : Int32) + ((2 : Int32) * x1)) 38 ∧
  K (V 5 (((28 : Int32) + ((2 : Int32) * x1))).toNatClampNeg) V
def wp_X8_forceAt (V : VT) (x1 : Int32) (K : Int32 → VT → Prop) : Prop :=
  vp_in (((28 : Int32) + ((2 : Int32) * x1)) + (1 : Int32)) 38 ∧
  K (V 5 ((((28 : Int32) + ((2 : Int32) * x1)) + (1 : Int32))).toNatClampNeg) V
def wp_X8_paces_b40 (K : VT → Prop)  (V : VT) (s1 : Int32) : Prop :=
  ∀ V4 : VT, V4 = up2 V 0 17 s1 →
  K V4
def wp_X8_paces (V : VT) (x1 : Int32) (K : VT → Prop) : Prop :=
  ∀ V1 : VT, V1 = up2 V 0 17 ((V 0 17) + x1) →
  (((0 : Int32) ≤ (V1 0 17) →
  (((V1 0 17) ≤ (9 : Int32) →
  wp_X8_paces_b40 K  V1 (V1 0 17)) ∧
  (¬ (V1 0 17) ≤ (9 : Int32) →
  wp_X8_paces_b40 K  V1 (9 : Int32)))) ∧
  (¬ (0 : Int32) ≤ (V1 0 17) →
  wp_X8_paces_b40 K  V1 (0 : Int32)))
def wp_X8_from0 (V : VT) (x0 : Int32) (x1 : Int32) (x2 : Int32) (K : Int32 → VT → Prop) : Prop :=
  ((x0 ≤ (0 : Int32) →
  (((0 : Int32) ≤ x0 →
  K x2 V) ∧
  (¬ (0 : Int32) ≤ x0 →
  K (x0 - x1) V))) ∧
  (¬ x0 ≤ (0 : Int32) →
  K (x0 + x1) V))
def wp_X8_taps_b78 (K : VT → Prop)  (V : VT) (s1 : Int32) : Prop :=
  ∀ V10 : VT, V10 = up2 V 0 18 s1 →
  K V10
def wp_X8_taps_b63 (K : VT → Prop)  (V : VT) (s0 : Int32) : Prop :=
  (((0 : Int32) ≤ (V 0 18) →
  wp_X8_taps_b78 K  V s0) ∧
  (¬ (0 : Int32) ≤ (V 0 18) →
  wp_X8_taps_b78 K  V (-s0)))
def wp_X8_taps_b50 (K : VT → Prop)  (V : VT) (x2 : Int32) (s0 : Int32) : Prop :=
  ((s0 ≤ x2 →
  wp_X8_taps_b63 K  V (0 : Int32)) ∧
  (¬ s0 ≤ x2 →
  wp_X8_taps_b63 K  V (s0 - x2)))
def wp_X8_taps_b23 (K : VT → Prop)  (V : VT) (x1 : Int32) (x2 : Int32) (s1 : Int32) : Prop :=
  wp_X8_paces V s1 (fun V3 =>
  ((¬ x1 = (2 : Int32) →
  ((¬ x1 = (5 : Int32) →
  K V3) ∧
  (x1 = (5 : Int32) →
  ∀ V6 : VT, V6 = up2 V3 0 18 (0 : Int32) →
  K V6))) ∧
  (x1 = (2 : Int32) →
  (((0 : Int32) ≤ (V3 0 18) →
  wp_X8_taps_b50 K  V3 x2 (V3 0 18)) ∧
  (¬ (0 : Int32) ≤ (V3 0 18) →
  wp_X8_taps_b50 K  V3 x2 (-(V3 0 18)))))))
def wp_X8_taps (V : VT) (x1 : Int32) (x2 : Int32) (K : VT → Prop) : Prop :=
  ((¬ x1 = (2 : Int32) →
  (((4 : Int32) ≤ x1 →
  wp_X8_taps_b23 K  V x1 x2 (-x2)) ∧
  (¬ (4 : Int32) ≤ x1 →
  wp_X8_taps_b23 K  V x1 x2 x2))) ∧
  (x1 = (2 : Int32) →
  wp_X8_taps_b23 K  V x1 x2 (x2 / (2 : Int32))))
def wp_X8_grounds (V : VT)  (K : VT → Prop) : Prop :=
  vp_in ((4 : Int32) + (V 0 16)) 38 ∧
  (((V 5 (((4 : Int32) + (V 0 16))).toNatClampNeg) = (1 : Int32) →
  wp_X8_paces V (2 : Int32) (fun V3 =>
  K V3)) ∧
  ((V 5 (((4 : Int32) + (V 0 16))).toNatClampNeg) = (2 : Int32) →
  wp_X8_paces V (-1 : Int32) (fun V5 =>
  K V5)) ∧
  ((V 5 (((4 : Int32) + (V 0 16))).toNatClampNeg) = (3 : Int32) →
  ∀ V7 : VT, V7 = up2 V 0 18 (0 : Int32) →
  K V7) ∧
  ((V 5 (((4 : Int32) + (V 0 16))).toNatClampNeg) = (4 : Int32) →
  wp_X8_from0 V (V 0 18) (2 : Int32) (2 : Int32) (fun r10 V9 =>
  ∀ V11 : VT, V11 = up2 V9 0 18 r10 →
  K V11)) ∧
  ((V 5 (((4 : Int32) + (V 0 16))).toNatClampNeg) = (5 : Int32) →
  wp_X8_paces V (-1 : Int32) (fun V13 =>
  wp_X8_from0 V13 (V13 0 18) (1 : Int32) (-1 : Int32) (fun r15 V14 =>
  ∀ V16 : VT, V16 = up2 V14 0 18 r15 →
  K V16))) ∧
  (¬ (V 5 (((4 : Int32) + (V 0 16))).toNatClampNeg) = (1 : Int32) → ¬ (V 5 (((4 : Int32) + (V 0 16))).toNatClampNeg) = (2 : Int32) → ¬ (V 5 (((4 : Int32) + (V 0 16))).toNatClampNeg) = (3 : Int32) → ¬ (V 5 (((4 : Int32) + (V 0 16))).toNatClampNeg) = (4 : Int32) → ¬ (V 5 (((4 : Int32) + (V 0 16))).toNatClampNeg) = (5 : Int32) →
  K V))
def wp_X8_goes_b167 (K : VT → Prop)  (V : VT) (s1 : Int32) : Prop :=
  ∀ V24 : VT, V24 = up2 V 0 19 s1 →
  K V24
def wp_X8_goes_b162 (K : VT → Prop)  (V : VT)  : Prop :=
  wp_X8_goes_b167 K  V (1 : Int32)
def wp_X8_goes_b124 (K : VT → Prop)  (V : VT) (s1 : Int32) : Prop :=
  ∀ V16 : VT, V16 = up2 V 0 18 s1 →
  vp_in (2 : Int32) 38 ∧
  (((V16 5 ((2 : Int32)).toNatClampNeg) < (V16 0 18) →
  wp_X8_goes_b162 K  V16) ∧
  (¬ (V16 5 ((2 : Int32)).toNatClampNeg) < (V16 0 18) →
  vp_in (2 : Int32) 38 ∧
  (((V16 0 18) < (-(V16 5 ((2 : Int32)).toNatClampNeg)) →
  wp_X8_goes_b162 K  V16) ∧
  (¬ (V16 0 18) < (-(V16 5 ((2 : Int32)).toNatClampNeg)) →
  ((¬ (V16 0 17) = (0 : Int32) →
  wp_X8_goes_b167 K  V16 (0 : Int32)) ∧
  ((V16 0 17) = (0 : Int32) →
  wp_X8_goes_b162 K  V16))))))
def wp_X8_goes_b114 (K : VT → Prop)  (V : VT) (s1 : Int32) (s2 : Int32) (s3 : Int32) : Prop :=
  wp_X8_from0 V s1 s2 s3 (fun r23 V22 =>
  wp_X8_goes_b124 K  V22 r23)
def wp_X8_goes_b75 (K : VT → Prop)  (V : VT)  : Prop :=
  vp_in (3 : Int32) 38 ∧
  wp_X8_paces V (-(V 5 ((3 : Int32)).toNatClampNeg)) (fun V13 =>
  (((4 : Int32) ≤ (V13 0 17) →
  wp_X8_goes_b124 K  V13 (V13 0 18)) ∧
  (¬ (4 : Int32) ≤ (V13 0 17) →
  ((¬ ((V13 0 16) - (V13 0 16) / (2 : Int32) * (2 : Int32)) = (0 : Int32) →
  wp_X8_goes_b114 K  V13 (V13 0 18) (1 : Int32) (-1 : Int32)) ∧
  (((V13 0 16) - (V13 0 16) / (2 : Int32) * (2 : Int32)) = (0 : Int32) →
  wp_X8_goes_b114 K  V13 (V13 0 18) (1 : Int32) (1 : Int32))))))
def wp_X8_goes_b10 (K : VT → Prop)  (V : VT) (x1 : Int32) : Prop :=
  ∀ V3 : VT, V3 = up2 V 0 16 ((V 0 16) + (((V 0 17) / (3 : Int32)) + (1 : Int32))) →
  ∀ V4 : VT, V4 = up2 V3 0 20 ((V3 0 20) + (1 : Int32)) →
  vp_in (0 : Int32) 38 ∧
  (((V4 0 16) < (V4 5 ((0 : Int32)).toNatClampNeg) →
  ((x1 = (3 : Int32) →
  wp_X8_goes_b75 K  V4) ∧
  (¬ x1 = (3 : Int32) →
  wp_X8_grounds V4  (fun V8 =>
  wp_X8_goes_b75 K  V8)))) ∧
  (¬ (V4 0 16) < (V4 5 ((0 : Int32)).toNatClampNeg) →
  vp_in (0 : Int32) 38 ∧
  ∀ V10 : VT, V10 = up2 V4 0 16 (V4 5 ((0 : Int32)).toNatClampNeg) →
  ∀ V11 : VT, V11 = up2 V10 0 19 (2 : Int32) →
  K V11))
def wp_X8_goes (V : VT) (x1 : Int32) (x2 : Int32) (K : VT → Prop) : Prop :=
  ((x1 ≤ (0 : Int32) →
  wp_X8_goes_b10 K  V x1) ∧
  (¬ x1 ≤ (0 : Int32) →
  wp_X8_taps V x1 x2 (fun V2 =>
  wp_X8_goes_b10 K  V2 x1)))
def wp_X8_goesWith_b27 (K : VT → Prop)  (V : VT) (s1 : Int32) (s2 : Int32) : Prop :=
  wp_X8_goes V s1 s2 (fun V7 =>
  K V7)
def wp_X8_goesWith_b14 (K : VT → Prop)  (V : VT) (x1 : Int32) (s1 : Int32) : Prop :=
  (((0 : Int32) ≤ x1 →
  wp_X8_forceAt V x1 (fun r6 V5 =>
  wp_X8_goesWith_b27 K  V5 s1 r6)) ∧
  (¬ (0 : Int32) ≤ x1 →
  wp_X8_goesWith_b27 K  V s1 (0 : Int32)))
def wp_X8_goesWith (V : VT) (x1 : Int32) (K : VT → Prop) : Prop :=
  (((0 : Int32) ≤ x1 →
  wp_X8_kindAt V x1 (fun r3 V2 =>
  wp_X8_goesWith_b14 K  V2 x1 r3)) ∧
  (¬ (0 : Int32) ≤ x1 →
  wp_X8_goesWith_b14 K  V x1 (0 : Int32)))
def wp_X8_notes_L114 (K : VT → Prop)  : Nat → VT → Int32 → Int32 → Prop
  | 0, _, _, _ => False
  | n + 1, V, x1, x2 =>
    (((24 : Int32) ≤ x2 →
    ∀ V18 : VT, V18 = up2 V 0 22 ((V 0 22) + (1 : Int32)) →
    K V18) ∧
    (¬ (24 : Int32) ≤ x2 →
    vp_in ((4 : Int32) + x2) 38 ∧
    vp_in ((x1 + (5 : Int32)) + x2) 696 ∧
    ∀ V21 : VT, V21 = up2 V 8 (((x1 + (5 : Int32)) + x2)).toNatClampNeg (V 5 (((4 : Int32) + x2)).toNatClampNeg) →
    (wp_X8_notes_L114 K  n) V21 x1 (x2 + (1 : Int32))))
def wp_X8_notes_b46 (K : VT → Prop)  (V : VT)  : Prop :=
  vp_in ((29 : Int32) * (V 0 22)) 696 ∧
  ∀ V3 : VT, V3 = up2 V 8 (((29 : Int32) * (V 0 22))).toNatClampNeg (V 0 16) →
  vp_in (((29 : Int32) * (V 0 22)) + (1 : Int32)) 696 ∧
  ∀ V5 : VT, V5 = up2 V3 8 ((((29 : Int32) * (V 0 22)) + (1 : Int32))).toNatClampNeg (V3 0 17) →
  vp_in (((29 : Int32) * (V 0 22)) + (2 : Int32)) 696 ∧
  ∀ V7 : VT, V7 = up2 V5 8 ((((29 : Int32) * (V 0 22)) + (2 : Int32))).toNatClampNeg (V5 0 18) →
  vp_in (((29 : Int32) * (V 0 22)) + (3 : Int32)) 696 ∧
  ∀ V9 : VT, V9 = up2 V7 8 ((((29 : Int32) * (V 0 22)) + (3 : Int32))).toNatClampNeg (V7 0 19) →
  vp_in (((29 : Int32) * (V 0 22)) + (4 : Int32)) 696 ∧
  ∀ V11 : VT, V11 = up2 V9 8 ((((29 : Int32) * (V 0 22)) + (4 : Int32))).toNatClampNeg (V9 0 20) →
  ∃ n114 : Nat, wp_X8_notes_L114 K  n114 V11 ((29 : Int32) * (V 0 22)) (0 : Int32)
def wp_X8_notes_L12 (K : VT → Prop)  : Nat → VT → Int32 → Prop
  | 0, _, _ => False
  | n + 1, V, x1 =>
    (((696 : Int32) ≤ x1 →
    ∀ V13 : VT, V13 = up2 V 0 22 (23 : Int32) →
    wp_X8_notes_b46 K  V13) ∧
    (¬ (696 : Int32) ≤ x1 →
    vp_in x1 696 ∧
    vp_in (x1 - (29 : Int32)) 696 ∧
    ∀ V16 : VT, V16 = up2 V 8 ((x1 - (29 : Int32))).toNatClampNeg (V 8 (x1).toNatClampNeg) →
    (wp_X8_notes_L12 K  n) V16 (x1 + (1 : Int32))))
def wp_X8_notes (V : VT)  (K : VT → Prop) : Prop :=
  ((¬ (V 0 22) = (24 : Int32) →
  wp_X8_notes_b46 K  V) ∧
  ((V 0 22) = (24 : Int32) →
  ∃ n12 : Nat, wp_X8_notes_L12 K  n12 V (29 : Int32)))
def wp_X8_undo_L76 (K : Int32 → VT → Prop)  : Nat → VT → Int32 → Int32 → Prop
  | 0, _, _, _ => False
  | n + 1, V, x1, x2 =>
    (((24 : Int32) ≤ x2 →
    K (V 0 22) V) ∧
    (¬ (24 : Int32) ≤ x2 →
    vp_in ((x1 + (5 : Int32)) + x2) 696 ∧
    vp_in ((4 : Int32) + x2) 38 ∧
    ∀ V13 : VT, V13 = up2 V 5 (((4 : Int32) + x2)).toNatClampNeg (V 8 (((x1 + (5 : Int32)) + x2)).toNatClampNeg) →
    (wp_X8_undo_L76 K  n) V13 x1 (x2 + (1 : Int32))))
def wp_X8_undo (V : VT)  (K : Int32 → VT → Prop) : Prop :=
  ((¬ (V 0 22) = (0 : Int32) →
  ∀ V2 : VT, V2 = up2 V 0 22 ((V 0 22) - (1 : Int32)) →
  vp_in ((29 : Int32) * (V2 0 22)) 696 ∧
  vp_in (((29 : Int32) * (V2 0 22)) + (1 : Int32)) 696 ∧
  vp_in (((29 : Int32) * (V2 0 22)) + (2 : Int32)) 696 ∧
  vp_in (((29 : Int32) * (V2 0 22)) + (3 : Int32)) 696 ∧
  wp_X8_puts V2 (V2 8 (((29 : Int32) * (V2 0 22))).toNatClampNeg) (V2 8 ((((29 : Int32) * (V2 0 22)) + (1 : Int32))).toNatClampNeg) (V2 8 ((((29 : Int32) * (V2 0 22)) + (2 : Int32))).toNatClampNeg) (V2 8 ((((29 : Int32) * (V2 0 22)) + (3 : Int32))).toNatClampNeg) (fun V7 =>
  vp_in (((29 : Int32) * (V2 0 22)) + (4 : Int32)) 696 ∧
  ∀ V9 : VT, V9 = up2 V7 0 20 (V7 8 ((((29 : Int32) * (V2 0 22)) + (4 : Int32))).toNatClampNeg) →
  ∃ n76 : Nat, wp_X8_undo_L76 K  n76 V9 ((29 : Int32) * (V2 0 22)) (0 : Int32))) ∧
  ((V 0 22) = (0 : Int32) →
  K (-1000002 : Int32) V))
def wp_X8_moment_b26 (K : Int32 → VT → Prop)  (V : VT) (x1 : Int32) : Prop :=
  (((V 0 19) = (0 : Int32) →
  ((¬ (V 0 20) = (999 : Int32) →
  wp_X8_notes V  (fun V8 =>
  wp_X8_goesWith V8 x1 (fun V9 =>
  K (V9 0 16) V9))) ∧
  ((V 0 20) = (999 : Int32) →
  K (-1000003 : Int32) V))) ∧
  (¬ (V 0 19) = (0 : Int32) →
  K (-1000002 : Int32) V))
def wp_X8_moment (V : VT) (x1 : Int32) (K : Int32 → VT → Prop) : Prop :=
  ((¬ (V 0 15) = (0 : Int32) →
  ((x1 = (-1 : Int32) →
  wp_X8_moment_b26 K  V x1) ∧
  (¬ x1 = (-1 : Int32) →
  wp_X8_isTap V x1 (fun r4 V3 =>
  ((¬ r4 = (0 : Int32) →
  wp_X8_moment_b26 K  V3 x1) ∧
  (r4 = (0 : Int32) →
  K (-1000001 : Int32) V3)))))) ∧
  ((V 0 15) = (0 : Int32) →
  K (-1000002 : Int32) V))
def wp_X8_setUp (V : VT) (x1 : Int32) (x2 : Int32) (x3 : Int32) (K : Int32 → VT → Prop) : Prop :=
  ((¬ (V 0 15) = (0 : Int32) →
  vp_in (0 : Int32) 38 ∧
  wp_X8_in V ((x1).toInt64) (0 : Int64) ((((V 5 ((0 : Int32)).toNatClampNeg) - (1 : Int32))).toInt64) (fun r4 V3 =>
  ((r4 = (0 : Int32) →
  K (-1000001 : Int32) V3) ∧
  (¬ r4 = (0 : Int32) →
  wp_X8_in V3 ((x2).toInt64) (1 : Int64) (9 : Int64) (fun r7 V6 =>
  ((r7 = (0 : Int32) →
  K (-1000001 : Int32) V6) ∧
  (¬ r7 = (0 : Int32) →
  wp_X8_in V6 ((x3).toInt64) (-5 : Int64) (5 : Int64) (fun r10 V9 =>
  ((r10 = (0 : Int32) →
  K (-1000001 : Int32) V9) ∧
  (¬ r10 = (0 : Int32) →
  vp_in (2 : Int32) 38 ∧
  vp_in (2 : Int32) 38 ∧
  wp_X8_in V9 ((x3).toInt64) (((-(V9 5 ((2 : Int32)).toNatClampNeg))).toInt64) (((V9 5 ((2 : Int32)).toNatClampNeg)).toInt64) (fun r15 V14 =>
  ((¬ r15 = (0 : Int32) →
  wp_X8_notes V14  (fun V17 =>
  wp_X8_puts V17 x1 x2 x3 (0 : Int32) (fun V18 =>
  K (V17 0 16) V18))) ∧
  (r15 = (0 : Int32) →
  K (-1000001 : Int32) V14))))))))))))) ∧
  ((V 0 15) = (0 : Int32) →
  K (-1000002 : Int32) V))
def wp_X8_lay (V : VT) (x1 : Int32) (x2 : Int32) (K : Int32 → VT → Prop) : Prop :=
  ((¬ (V 0 15) = (0 : Int32) →
  vp_in (0 : Int32) 38 ∧
  wp_X8_in V ((x1).toInt64) (0 : Int64) ((((V 5 ((0 : Int32)).toNatClampNeg) - (1 : Int32))).toInt64) (fun r4 V3 =>
  ((r4 = (0 : Int32) →
  K (-1000001 : Int32) V3) ∧
  (¬ r4 = (0 : Int32) →
  wp_X8_in V3 ((x2).toInt64) (0 : Int64) (5 : Int64) (fun r7 V6 =>
  ((¬ r7 = (0 : Int32) →
  wp_X8_notes V6  (fun V9 =>
  vp_in ((4 : Int32) + x1) 38 ∧
  vp_in ((4 : Int32) + x1) 38 ∧
  ∀ V12 : VT, V12 = up2 V9 5 (((4 : Int32) + x1)).toNatClampNeg x2 →
  K (V9 5 (((4 : Int32) + x1)).toNatClampNeg) V12)) ∧
  (r7 = (0 : Int32) →
  K (-1000001 : Int32) V6))))))) ∧
  ((V 0 15) = (0 : Int32) →
  K (-1000002 : Int32) V))
def wp_X8_hoopOf (V : VT) (x1 : Int32) (K : Int32 → VT → Prop) : Prop :=
  ((¬ x1 = (0 : Int32) →
  ((¬ x1 = (1 : Int32) →
  ((¬ x1 = (2 : Int32) →
  ((¬ x1 = (3 : Int32) →
  K (V 0 20) V) ∧
  (x1 = (3 : Int32) →
  K (V 0 19) V))) ∧
  (x1 = (2 : Int32) →
  K (V 0 18) V))) ∧
  (x1 = (1 : Int32) →
  K (V 0 17) V))) ∧
  (x1 = (0 : Int32) →
  K (V 0 16) V))
def wp_X8_hoop (V : VT) (x1 : Int32) (K : Int32 → VT → Prop) : Prop :=
  ((¬ (V 0 15) = (0 : Int32) →
  wp_X8_in V ((x1).toInt64) (0 : Int64) (4 : Int64) (fun r3 V2 =>
  ((r3 = (0 : Int32) →
  K (-1000001 : Int32) V2) ∧
  (¬ r3 = (0 : Int32) →
  wp_X8_hoopOf V2 x1 (fun r6 V5 =>
  K r6 V5))))) ∧
  ((V 0 15) = (0 : Int32) →
  K (-1000002 : Int32) V))
def wp_X8_ground (V : VT) (x1 : Int32) (K : Int32 → VT → Prop) : Prop :=
  vp_in (0 : Int32) 38 ∧
  wp_X8_in V ((x1).toInt64) (0 : Int64) ((((V 5 ((0 : Int32)).toNatClampNeg) - (1 : Int32))).toInt64) (fun r3 V2 =>
  ((r3 = (0 : Int32) →
  K (-1000001 : Int32) V2) ∧
  (¬ r3 = (0 : Int32) →
  vp_in ((4 : Int32) + x1) 38 ∧
  K (V2 5 (((4 : Int32) + x1)).toNatClampNeg) V2)))
def wp_X8_force (V : VT) (x1 : Int32) (K : Int32 → VT → Prop) : Prop :=
  wp_X8_isTap V x1 (fun r2 V1 =>
  ((r2 = (0 : Int32) →
  K (-1000001 : Int32) V1) ∧
  (¬ r2 = (0 : Int32) →
  wp_X8_forceAt V1 x1 (fun r5 V4 =>
  K r5 V4))))
def wp_X8_asides (V : VT)  (K : VT → Prop) : Prop :=
  ∀ V1 : VT, V1 = up2 V 0 23 (V 0 16) →
  ∀ V2 : VT, V2 = up2 V1 0 24 (V1 0 17) →
  ∀ V3 : VT, V3 = up2 V2 0 25 (V2 0 18) →
  ∀ V4 : VT, V4 = up2 V3 0 26 (V3 0 19) →
  ∀ V5 : VT, V5 = up2 V4 0 27 (V4 0 20) →
  K V5
def wp_X8_backs (V : VT)  (K : VT → Prop) : Prop :=
  wp_X8_puts V (V 0 23) (V 0 24) (V 0 25) (V 0 26) (fun V1 =>
  ∀ V2 : VT, V2 = up2 V1 0 20 (V1 0 27) →
  K V2)
def wp_X8_ahead_b67 (K : Int32 → VT → Prop)  (V : VT) (x2 : Int32) : Prop :=
  wp_X8_hoopOf V x2 (fun r13 V12 =>
  wp_X8_backs V12  (fun V14 =>
  K r13 V14))
def wp_X8_ahead_L43 (K : Int32 → VT → Prop)  : Nat → VT → Int32 → Int32 → Int32 → Prop
  | 0, _, _, _, _ => False
  | n + 1, V, x1, x2, x3 =>
    ((x1 ≤ x3 →
    wp_X8_ahead_b67 K  V x2) ∧
    (¬ x1 ≤ x3 →
    ((¬ (V 0 19) = (0 : Int32) →
    wp_X8_ahead_b67 K  V x2) ∧
    ((V 0 19) = (0 : Int32) →
    wp_X8_goes V (0 : Int32) (0 : Int32) (fun V11 =>
    (wp_X8_ahead_L43 K  n) V11 x1 x2 (x3 + (1 : Int32)))))))
def wp_X8_ahead (V : VT) (x1 : Int32) (x2 : Int32) (K : Int32 → VT → Prop) : Prop :=
  ((¬ (V 0 15) = (0 : Int32) →
  wp_X8_in V ((x1).toInt64) (0 : Int64) (40 : Int64) (fun r3 V2 =>
  ((r3 = (0 : Int32) →
  K (-1000001 : Int32) V2) ∧
  (¬ r3 = (0 : Int32) →
  wp_X8_in V2 ((x2).toInt64) (0 : Int64) (3 : Int64) (fun r6 V5 =>
  ((¬ r6 = (0 : Int32) →
  wp_X8_asides V5  (fun V8 =>
  ∃ n43 : Nat, wp_X8_ahead_L43 K  n43 V8 x1 x2 (0 : Int32))) ∧
  (r6 = (0 : Int32) →
  K (-1000001 : Int32) V5))))))) ∧
  ((V 0 15) = (0 : Int32) →
  K (-1000002 : Int32) V))
def wp_X8_place (V : VT) (x0 : Int32) (x1 : Int32) (x2 : Int32) (K : Int32 → VT → Prop) : Prop :=
  K (((((110 : Int32) * x0) + ((11 : Int32) * x1)) + x2) + (5 : Int32)) V
def wp_X8_costs_b40 (K : Int32 → VT → Prop)  (V : VT) (s0 : Int32) : Prop :=
  ((¬ (V 0 19) = (2 : Int32) →
  ((¬ (V 0 19) = (1 : Int32) →
  wp_X8_place V (V 0 16) (V 0 17) (V 0 18) (fun r8 V7 =>
  vp_in r8 2640 ∧
  K (s0 + (V7 9 (r8).toNatClampNeg)) V7)) ∧
  ((V 0 19) = (1 : Int32) →
  K (9999 : Int32) V))) ∧
  ((V 0 19) = (2 : Int32) →
  K s0 V))
def wp_X8_costs_b39 (K : Int32 → VT → Prop)  (V : VT)  : Prop :=
  wp_X8_costs_b40 K  V (1 : Int32)
def wp_X8_costs (V : VT) (x1 : Int32) (x2 : Int32) (x3 : Int32) (K : Int32 → VT → Prop) : Prop :=
  wp_X8_puts V (x1 / (110 : Int32)) ((x1 / (11 : Int32)) - (x1 / (11 : Int32)) / (10 : Int32) * (10 : Int32)) ((x1 - x1 / (11 : Int32) * (11 : Int32)) - (5 : Int32)) (0 : Int32) (fun V1 =>
  wp_X8_goesWith V1 x2 (fun V2 =>
  ((x3 = (0 : Int32) →
  wp_X8_costs_b39 K  V2) ∧
  (¬ x3 = (0 : Int32) →
  (((0 : Int32) ≤ x2 →
  wp_X8_costs_b39 K  V2) ∧
  (¬ (0 : Int32) ≤ x2 →
  wp_X8_costs_b40 K  V2 (0 : Int32)))))))
def wp_X8_works_b60 (K : VT → Prop) (KL27 : VT → Int32 → Int32 → Int32 → Int32 → Prop) (KL16 : VT → Int32 → Int32 → Prop) (V : VT) (x1 : Int32) (x2 : Int32) (x4 : Int32) (s0 : Int32) : Prop :=
  KL27 V x1 x2 s0 (x4 + (1 : Int32))
def wp_X8_works_L27 (K : VT → Prop) (KL16 : VT → Int32 → Int32 → Prop) : Nat → VT → Int32 → Int32 → Int32 → Int32 → Prop
  | 0, _, _, _, _, _ => False
  | n + 1, V, x1, x2, x3, x4 =>
    vp_in (1 : Int32) 38 ∧
    (((V 5 ((1 : Int32)).toNatClampNeg) ≤ x4 →
    vp_in x2 2640 ∧
    ∀ V8 : VT, V8 = up2 V 9 (x2).toNatClampNeg x3 →
    KL16 V8 x1 (x2 + (-1 : Int32))) ∧
    (¬ (V 5 ((1 : Int32)).toNatClampNeg) ≤ x4 →
    wp_X8_costs V x2 x4 x1 (fun r10 V9 =>
    ((x3 ≤ r10 →
    wp_X8_works_b60 K (wp_X8_works_L27 K KL16 n) KL16 V9 x1 x2 x4 x3) ∧
    (¬ x3 ≤ r10 →
    wp_X8_works_b60 K (wp_X8_works_L27 K KL16 n) KL16 V9 x1 x2 x4 r10)))))
def wp_X8_works_L16 (K : VT → Prop)  : Nat → VT → Int32 → Int32 → Prop
  | 0, _, _, _ => False
  | n + 1, V, x1, x2 =>
    ((x2 < (0 : Int32) →
    wp_X8_backs V  (fun V4 =>
    K V4)) ∧
    (¬ x2 < (0 : Int32) →
    ∃ n27 : Nat, wp_X8_works_L27 K (wp_X8_works_L16 K  n) n27 V x1 x2 (9999 : Int32) (-1 : Int32)))
def wp_X8_works (V : VT) (x1 : Int32) (K : VT → Prop) : Prop :=
  wp_X8_asides V  (fun V1 =>
  vp_in (0 : Int32) 38 ∧
  ∃ n16 : Nat, wp_X8_works_L16 K  n16 V1 x1 (((110 : Int32) * (V1 5 ((0 : Int32)).toNatClampNeg)) - (1 : Int32)))
def wp_X8_way_L76 (K : Int32 → VT → Prop)  : Nat → VT → Int32 → Int32 → Int32 → Prop
  | 0, _, _, _, _ => False
  | n + 1, V, x1, x3, x4 =>
    wp_X8_costs V x3 x4 x1 (fun r12 V11 =>
    vp_in x3 2640 ∧
    ((r12 = (V11 9 (x3).toNatClampNeg) →
    wp_X8_backs V11  (fun V15 =>
    (((0 : Int32) ≤ x4 →
    K x4 V15) ∧
    (¬ (0 : Int32) ≤ x4 →
    K (-1000000 : Int32) V15)))) ∧
    (¬ r12 = (V11 9 (x3).toNatClampNeg) →
    (wp_X8_way_L76 K  n) V11 x1 x3 (x4 + (1 : Int32)))))
def wp_X8_way (V : VT) (x1 : Int32) (x2 : Int32) (K : Int32 → VT → Prop) : Prop :=
  (((V 0 19) = (0 : Int32) →
  wp_X8_works V x1 (fun V2 =>
  wp_X8_place V2 (V2 0 16) (V2 0 17) (V2 0 18) (fun r4 V3 =>
  vp_in r4 2640 ∧
  (((V3 9 (r4).toNatClampNeg) < (9999 : Int32) →
  ((¬ x2 = (0 : Int32) →
  ∃ n76 : Nat, wp_X8_way_L76 K  n76 V3 x1 r4 (-1 : Int32)) ∧
  (x2 = (0 : Int32) →
  vp_in r4 2640 ∧
  K (V3 9 (r4).toNatClampNeg) V3))) ∧
  (¬ (V3 9 (r4).toNatClampNeg) < (9999 : Int32) →
  K (-1000000 : Int32) V3))))) ∧
  (¬ (V 0 19) = (0 : Int32) →
  ((¬ (V 0 19) = (2 : Int32) →
  K (-1000000 : Int32) V) ∧
  ((V 0 19) = (2 : Int32) →
  ((¬ x2 = (0 : Int32) →
  K (-1000000 : Int32) V) ∧
  (x2 = (0 : Int32) →
  K (0 : Int32) V))))))
def wp_X8_fewest (V : VT) (x1 : Int32) (K : Int32 → VT → Prop) : Prop :=
  ((¬ (V 0 15) = (0 : Int32) →
  wp_X8_in V ((x1).toInt64) (0 : Int64) (1 : Int64) (fun r3 V2 =>
  ((r3 = (0 : Int32) →
  K (-1000001 : Int32) V2) ∧
  (¬ r3 = (0 : Int32) →
  wp_X8_way V2 (1 : Int32) x1 (fun r6 V5 =>
  K r6 V5))))) ∧
  ((V 0 15) = (0 : Int32) →
  K (-1000002 : Int32) V))
def wp_X8_soonest (V : VT) (x1 : Int32) (K : Int32 → VT → Prop) : Prop :=
  ((¬ (V 0 15) = (0 : Int32) →
  wp_X8_in V ((x1).toInt64) (0 : Int64) (1 : Int64) (fun r3 V2 =>
  ((r3 = (0 : Int32) →
  K (-1000001 : Int32) V2) ∧
  (¬ r3 = (0 : Int32) →
  wp_X8_way V2 (0 : Int32) x1 (fun r6 V5 =>
  K r6 V5))))) ∧
  ((V 0 15) = (0 : Int32) →
  K (-1000002 : Int32) V))
def wp_X8_heldFrom_L27 (K : Int32 → VT → Prop)  : Nat → VT → Int32 → Prop
  | 0, _, _ => False
  | n + 1, V, x1 =>
    (((10 : Int32) ≤ x1 →
    K (-1000000 : Int32) V) ∧
    (¬ (10 : Int32) ≤ x1 →
    wp_X8_place V (V 0 16) x1 (V 0 18) (fun r6 V5 =>
    vp_in r6 2640 ∧
    (((9999 : Int32) ≤ (V5 9 (r6).toNatClampNeg) →
    (wp_X8_heldFrom_L27 K  n) V5 (x1 + (1 : Int32))) ∧
    (¬ (9999 : Int32) ≤ (V5 9 (r6).toNatClampNeg) →
    K x1 V5)))))
def wp_X8_heldFrom (V : VT)  (K : Int32 → VT → Prop) : Prop :=
  ((¬ (V 0 15) = (0 : Int32) →
  (((V 0 19) = (0 : Int32) →
  wp_X8_works V (1 : Int32) (fun V3 =>
  ∃ n27 : Nat, wp_X8_heldFrom_L27 K  n27 V3 (1 : Int32))) ∧
  (¬ (V 0 19) = (0 : Int32) →
  K (-1000000 : Int32) V))) ∧
  ((V 0 15) = (0 : Int32) →
  K (-1000002 : Int32) V))
def wp_X8_righted_b77 (K : Int32 → VT → Prop) (KL38 : VT → Int32 → Int32 → Prop) (V : VT) (x2 : Int32) (s0 : Int32) (s1 : Int32) : Prop :=
  KL38 V (s0 + s1) (x2 + (1 : Int32))
def wp_X8_righted_L38 (K : Int32 → VT → Prop)  : Nat → VT → Int32 → Int32 → Prop
  | 0, _, _, _ => False
  | n + 1, V, x1, x2 =>
    vp_in (2 : Int32) 38 ∧
    (((V 5 ((2 : Int32)).toNatClampNeg) < x2 →
    K x1 V) ∧
    (¬ (V 5 ((2 : Int32)).toNatClampNeg) < x2 →
    wp_X8_place V (V 0 16) (V 0 17) x2 (fun r9 V8 =>
    vp_in r9 2640 ∧
    (((9999 : Int32) ≤ (V8 9 (r9).toNatClampNeg) →
    wp_X8_righted_b77 K (wp_X8_righted_L38 K  n) V8 x2 x1 (0 : Int32)) ∧
    (¬ (9999 : Int32) ≤ (V8 9 (r9).toNatClampNeg) →
    wp_X8_righted_b77 K (wp_X8_righted_L38 K  n) V8 x2 x1 (1 : Int32))))))
def wp_X8_righted (V : VT)  (K : Int32 → VT → Prop) : Prop :=
  ((¬ (V 0 15) = (0 : Int32) →
  ((¬ (V 0 19) = (0 : Int32) →
  K (-1000000 : Int32) V) ∧
  ((V 0 19) = (0 : Int32) →
  vp_in (1 : Int32) 38 ∧
  ((¬ (V 5 ((1 : Int32)).toNatClampNeg) = (0 : Int32) →
  wp_X8_works V (1 : Int32) (fun V5 =>
  ∃ n38 : Nat, wp_X8_righted_L38 K  n38 V5 (0 : Int32) (0 : Int32))) ∧
  ((V 5 ((1 : Int32)).toNatClampNeg) = (0 : Int32) →
  K (-1000000 : Int32) V))))) ∧
  ((V 0 15) = (0 : Int32) →
  K (-1000002 : Int32) V))
def wp_X8_areTaps_b72 (K : Int32 → VT → Prop) (KL9 : VT → Int32 → Int32 → Int32 → Int32 → Int32 → Int32 → Prop) (V : VT) (x1 : Int32) (x2 : Int32) (x3 : Int32) (x5 : Int32) (x6 : Int32) (s0 : Int32) (s1 : Int32) : Prop :=
  KL9 V x1 x2 x3 (s0 + s1) x5 (x6 + (1 : Int32))
def wp_X8_areTaps_b52 (K : Int32 → VT → Prop) (KL9 : VT → Int32 → Int32 → Int32 → Int32 → Int32 → Int32 → Prop) (V : VT) (x1 : Int32) (x2 : Int32) (x3 : Int32) (x4 : Int32) (x6 : Int32) (s0 : Int32) : Prop :=
  vp_in x6 320 ∧
  ((¬ (V 3 (x6).toNatClampNeg) = (-1 : Int32) →
  wp_X8_areTaps_b72 K KL9 V x1 x2 x3 s0 x6 x4 (1 : Int32)) ∧
  ((V 3 (x6).toNatClampNeg) = (-1 : Int32) →
  wp_X8_areTaps_b72 K KL9 V x1 x2 x3 s0 x6 x4 (0 : Int32)))
def wp_X8_areTaps_b51 (K : Int32 → VT → Prop) (KL9 : VT → Int32 → Int32 → Int32 → Int32 → Int32 → Int32 → Prop) (V : VT) (x1 : Int32) (x2 : Int32) (x3 : Int32) (x4 : Int32) (x6 : Int32) : Prop :=
  wp_X8_areTaps_b52 K KL9 V x1 x2 x3 x4 x6 (0 : Int32)
def wp_X8_areTaps_b47 (K : Int32 → VT → Prop) (KL9 : VT → Int32 → Int32 → Int32 → Int32 → Int32 → Int32 → Prop) (V : VT) (x1 : Int32) (x2 : Int32) (x3 : Int32) (x4 : Int32) (x6 : Int32) : Prop :=
  wp_X8_areTaps_b52 K KL9 V x1 x2 x3 x4 x6 (1 : Int32)
def wp_X8_areTaps_L9 (K : Int32 → VT → Prop)  : Nat → VT → Int32 → Int32 → Int32 → Int32 → Int32 → Int32 → Prop
  | 0, _, _, _, _, _, _, _ => False
  | n + 1, V, x1, x2, x3, x4, x5, x6 =>
    (((x1 + x2) ≤ x6 →
    ((x5 = (0 : Int32) →
    K (0 : Int32) V) ∧
    (¬ x5 = (0 : Int32) →
    ((x3 < x4 →
    K (0 : Int32) V) ∧
    (¬ x3 < x4 →
    K (1 : Int32) V))))) ∧
    (¬ (x1 + x2) ≤ x6 →
    ((x5 = (0 : Int32) →
    wp_X8_areTaps_b51 K (wp_X8_areTaps_L9 K  n) V x1 x2 x3 x4 x6) ∧
    (¬ x5 = (0 : Int32) →
    vp_in x6 320 ∧
    (((V 3 (x6).toNatClampNeg) = (-1 : Int32) →
    wp_X8_areTaps_b47 K (wp_X8_areTaps_L9 K  n) V x1 x2 x3 x4 x6) ∧
    (¬ (V 3 (x6).toNatClampNeg) = (-1 : Int32) →
    vp_in x6 320 ∧
    wp_X8_isTap V (V 3 (x6).toNatClampNeg) (fun r9 V8 =>
    ((r9 = (0 : Int32) →
    wp_X8_areTaps_b51 K (wp_X8_areTaps_L9 K  n) V8 x1 x2 x3 x4 x6) ∧
    (¬ r9 = (0 : Int32) →
    wp_X8_areTaps_b47 K (wp_X8_areTaps_L9 K  n) V8 x1 x2 x3 x4 x6)))))))))
def wp_X8_areTaps (V : VT) (x1 : Int32) (x2 : Int32) (x3 : Int32) (K : Int32 → VT → Prop) : Prop :=
  ∃ n9 : Nat, wp_X8_areTaps_L9 K  n9 V x1 x2 x3 (0 : Int32) (1 : Int32) x1
def wp_X8_plan_b150 (K : Int32 → VT → Prop)  (V : VT) (s1 : Int32) : Prop :=
  wp_X8_well V s1 (fun r27 V26 =>
  K r27 V26)
def wp_X8_plan_b127 (K : Int32 → VT → Prop)  (V : VT) (x4 : Int32) (x7 : Int32) : Prop :=
  wp_X8_backs V  (fun V24 =>
  ((¬ x4 = (0 : Int32) →
  wp_X8_plan_b150 K  V24 (V 0 19)) ∧
  (x4 = (0 : Int32) →
  wp_X8_plan_b150 K  V24 x7)))
def wp_X8_plan_L94 (K : Int32 → VT → Prop)  : Nat → VT → Int32 → Int32 → Int32 → Int32 → Prop
  | 0, _, _, _, _, _ => False
  | n + 1, V, x3, x4, x6, x7 =>
    ((x3 ≤ x7 →
    wp_X8_plan_b127 K  V x4 x7) ∧
    (¬ x3 ≤ x7 →
    ((¬ (V 0 19) = (0 : Int32) →
    wp_X8_plan_b127 K  V x4 x7) ∧
    ((V 0 19) = (0 : Int32) →
    vp_in (x6 + x7) 320 ∧
    wp_X8_goesWith V (V 3 ((x6 + x7)).toNatClampNeg) (fun V23 =>
    (wp_X8_plan_L94 K  n) V23 x3 x4 x6 (x7 + (1 : Int32)))))))
def wp_X8_plan (V : VT) (x1 : Int32) (x2 : Int32) (x3 : Int32) (x4 : Int32) (K : Int32 → VT → Prop) : Prop :=
  ((¬ (V 0 15) = (0 : Int32) →
  wp_X8_isRow V x1 (fun r3 V2 =>
  ((r3 = (0 : Int32) →
  K (-1000001 : Int32) V2) ∧
  (¬ r3 = (0 : Int32) →
  wp_X8_in V2 ((x3).toInt64) (0 : Int64) (24 : Int64) (fun r6 V5 =>
  ((r6 = (0 : Int32) →
  K (-1000001 : Int32) V5) ∧
  (¬ r6 = (0 : Int32) →
  wp_X8_in V5 ((x4).toInt64) (0 : Int64) (1 : Int64) (fun r9 V8 =>
  ((¬ r9 = (0 : Int32) →
  wp_X8_partOf V8 x1 x2 x3 (fun r12 V11 =>
  ((r12 ≤ (0 : Int32) →
  wp_X8_areTaps V11 (((40 : Int32) * x1) + x2) x3 (24 : Int32) (fun r15 V14 =>
  ((¬ r15 = (0 : Int32) →
  wp_X8_asides V14  (fun V17 =>
  ∃ n94 : Nat, wp_X8_plan_L94 K  n94 V17 x3 x4 (((40 : Int32) * x1) + x2) (0 : Int32))) ∧
  (r15 = (0 : Int32) →
  K (-1000001 : Int32) V14)))) ∧
  (¬ r12 ≤ (0 : Int32) →
  wp_X8_finds V11 r12 (fun r19 V18 =>
  K r19 V18))))) ∧
  (r9 = (0 : Int32) →
  K (-1000001 : Int32) V8)))))))))) ∧
  ((V 0 15) = (0 : Int32) →
  K (-1000002 : Int32) V))
def wp_X8_isSeen_b61 (K : Int32 → VT → Prop) (KL6 : VT → Int32 → Int32 → Int32 → Int32 → Int32 → Int32 → Prop) (V : VT) (x1 : Int32) (x2 : Int32) (x3 : Int32) (x4 : Int32) (x6 : Int32) (s0 : Int32) : Prop :=
  KL6 V x1 x2 x3 x4 s0 (x6 + (1 : Int32))
def wp_X8_isSeen_b60 (K : Int32 → VT → Prop) (KL6 : VT → Int32 → Int32 → Int32 → Int32 → Int32 → Int32 → Prop) (V : VT) (x1 : Int32) (x2 : Int32) (x3 : Int32) (x4 : Int32) (x6 : Int32) : Prop :=
  wp_X8_isSeen_b61 K KL6 V x1 x2 x3 x4 x6 (0 : Int32)
def wp_X8_isSeen_b35 (K : Int32 → VT → Prop) (KL6 : VT → Int32 → Int32 → Int32 → Int32 → Int32 → Int32 → Prop) (V : VT) (x1 : Int32) (x2 : Int32) (x3 : Int32) (x4 : Int32) (x5 : Int32) (x6 : Int32) : Prop :=
  ((x5 = (0 : Int32) →
  wp_X8_isSeen_b60 K KL6 V x1 x2 x3 x4 x6) ∧
  (¬ x5 = (0 : Int32) →
  vp_in (x1 + x6) 320 ∧
  ((¬ (V 0 16) = (V 3 ((x1 + x6)).toNatClampNeg) →
  wp_X8_isSeen_b60 K KL6 V x1 x2 x3 x4 x6) ∧
  ((V 0 16) = (V 3 ((x1 + x6)).toNatClampNeg) →
  wp_X8_isSeen_b61 K KL6 V x1 x2 x3 x4 x6 (1 : Int32)))))
def wp_X8_isSeen_b30 (K : Int32 → VT → Prop) (KL6 : VT → Int32 → Int32 → Int32 → Int32 → Int32 → Int32 → Prop) (V : VT) (x1 : Int32) (x2 : Int32) (x3 : Int32) (x4 : Int32) (x5 : Int32) (x6 : Int32) (s1 : Int32) : Prop :=
  wp_X8_goes V s1 x4 (fun V8 =>
  wp_X8_isSeen_b35 K KL6 V8 x1 x2 x3 x4 x5 x6)
def wp_X8_isSeen_L6 (K : Int32 → VT → Prop)  : Nat → VT → Int32 → Int32 → Int32 → Int32 → Int32 → Int32 → Prop
  | 0, _, _, _, _, _, _, _ => False
  | n + 1, V, x1, x2, x3, x4, x5, x6 =>
    ((x2 ≤ x6 →
    (x5 = 0 ∨ x5 = 1) ∧ K x5 V) ∧
    (¬ x2 ≤ x6 →
    ((¬ (V 0 19) = (0 : Int32) →
    wp_X8_isSeen_b35 K (wp_X8_isSeen_L6 K  n) V x1 x2 x3 x4 x5 x6) ∧
    ((V 0 19) = (0 : Int32) →
    ((¬ x6 = (0 : Int32) →
    wp_X8_isSeen_b30 K (wp_X8_isSeen_L6 K  n) V x1 x2 x3 x4 x5 x6 (0 : Int32)) ∧
    (x6 = (0 : Int32) →
    wp_X8_isSeen_b30 K (wp_X8_isSeen_L6 K  n) V x1 x2 x3 x4 x5 x6 x3))))))
def wp_X8_isSeen (V : VT) (x1 : Int32) (x2 : Int32) (x3 : Int32) (x4 : Int32) (K : Int32 → VT → Prop) : Prop :=
  ∃ n6 : Nat, wp_X8_isSeen_L6 K  n6 V x1 x2 x3 x4 (1 : Int32) (0 : Int32)
def wp_X8_seen_b193 (K : Int32 → VT → Prop) (KL99 : VT → Int32 → Int32 → Int32 → Int32 → Int32 → Int32 → Prop) (V : VT) (x1 : Int32) (x2 : Int32) (x3 : Int32) (x4 : Int32) (x7 : Int32) (s0 : Int32) (s1 : Int32) : Prop :=
  wp_X8_backs V  (fun V33 =>
  KL99 V33 x1 x2 x3 x4 (s0 ||| s1) (x7 + (1 : Int32)))
def wp_X8_seen_b187 (K : Int32 → VT → Prop) (KL99 : VT → Int32 → Int32 → Int32 → Int32 → Int32 → Int32 → Prop) (V : VT) (x1 : Int32) (x2 : Int32) (x3 : Int32) (x4 : Int32) (x7 : Int32) (s0 : Int32) (s1 : Int32) (s2 : Int32) (s3 : Int32) : Prop :=
  wp_X8_seen_b193 K KL99 V x1 x2 x3 x4 x7 s0 (s1 <<< ((s2 + s3) &&& (31 : Int32)))
def wp_X8_seen_b153 (K : Int32 → VT → Prop) (KL99 : VT → Int32 → Int32 → Int32 → Int32 → Int32 → Int32 → Prop) (V : VT) (x1 : Int32) (x2 : Int32) (x3 : Int32) (x4 : Int32) (x6 : Int32) (x7 : Int32) (s1 : Int32) : Prop :=
  ∀ V28 : VT, V28 = up2 V 0 18 s1 →
  wp_X8_isSeen V28 (((40 : Int32) * x1) + x2) x3 (0 : Int32) (0 : Int32) (fun r30 V29 =>
  ((r30 = (0 : Int32) →
  wp_X8_seen_b193 K KL99 V29 x1 x2 x3 x4 x7 x6 (0 : Int32)) ∧
  (¬ r30 = (0 : Int32) →
  ((¬ x4 = (0 : Int32) →
  wp_X8_seen_b187 K KL99 V29 x1 x2 x3 x4 x7 x6 (1 : Int32) x7 (5 : Int32)) ∧
  (x4 = (0 : Int32) →
  wp_X8_seen_b187 K KL99 V29 x1 x2 x3 x4 x7 x6 (1 : Int32) x7 (0 : Int32))))))
def wp_X8_seen_b135 (K : Int32 → VT → Prop) (KL99 : VT → Int32 → Int32 → Int32 → Int32 → Int32 → Int32 → Prop) (V : VT) (x1 : Int32) (x2 : Int32) (x3 : Int32) (x4 : Int32) (x6 : Int32) (x7 : Int32) (s1 : Int32) : Prop :=
  ∀ V26 : VT, V26 = up2 V 0 17 s1 →
  ((¬ x4 = (0 : Int32) →
  wp_X8_seen_b153 K KL99 V26 x1 x2 x3 x4 x6 x7 x7) ∧
  (x4 = (0 : Int32) →
  wp_X8_seen_b153 K KL99 V26 x1 x2 x3 x4 x6 x7 (V26 0 18)))
def wp_X8_seen_b117 (K : Int32 → VT → Prop) (KL99 : VT → Int32 → Int32 → Int32 → Int32 → Int32 → Int32 → Prop) (V : VT) (x1 : Int32) (x2 : Int32) (x3 : Int32) (x4 : Int32) (x6 : Int32) (x7 : Int32) (s0 : Int32) (s1 : Int32) : Prop :=
  ((s1 < s0 →
  wp_X8_well V x6 (fun r24 V23 =>
  K r24 V23)) ∧
  (¬ s1 < s0 →
  ((¬ x4 = (0 : Int32) →
  wp_X8_seen_b135 K KL99 V x1 x2 x3 x4 x6 x7 (V 0 17)) ∧
  (x4 = (0 : Int32) →
  wp_X8_seen_b135 K KL99 V x1 x2 x3 x4 x6 x7 x7))))
def wp_X8_seen_L99 (K : Int32 → VT → Prop)  : Nat → VT → Int32 → Int32 → Int32 → Int32 → Int32 → Int32 → Prop
  | 0, _, _, _, _, _, _, _ => False
  | n + 1, V, x1, x2, x3, x4, x6, x7 =>
    ((¬ x4 = (0 : Int32) →
    vp_in (2 : Int32) 38 ∧
    wp_X8_seen_b117 K (wp_X8_seen_L99 K  n) V x1 x2 x3 x4 x6 x7 x7 (V 5 ((2 : Int32)).toNatClampNeg)) ∧
    (x4 = (0 : Int32) →
    wp_X8_seen_b117 K (wp_X8_seen_L99 K  n) V x1 x2 x3 x4 x6 x7 x7 (9 : Int32)))
def wp_X8_seen_b97 (K : Int32 → VT → Prop)  (V : VT) (x1 : Int32) (x2 : Int32) (x3 : Int32) (x4 : Int32) (x6 : Int32) (s0 : Int32) : Prop :=
  ∃ n99 : Nat, wp_X8_seen_L99 K  n99 V x1 x2 x3 x4 x6 s0
def wp_X8_seen (V : VT) (x1 : Int32) (x2 : Int32) (x3 : Int32) (x4 : Int32) (K : Int32 → VT → Prop) : Prop :=
  ((¬ (V 0 15) = (0 : Int32) →
  wp_X8_isRow V x1 (fun r3 V2 =>
  ((r3 = (0 : Int32) →
  K (-1000001 : Int32) V2) ∧
  (¬ r3 = (0 : Int32) →
  wp_X8_in V2 ((x3).toInt64) (1 : Int64) (8 : Int64) (fun r6 V5 =>
  ((r6 = (0 : Int32) →
  K (-1000001 : Int32) V5) ∧
  (¬ r6 = (0 : Int32) →
  wp_X8_in V5 ((x4).toInt64) (0 : Int64) (1 : Int64) (fun r9 V8 =>
  ((¬ r9 = (0 : Int32) →
  (((V8 0 19) = (0 : Int32) →
  wp_X8_partOf V8 x1 x2 x3 (fun r13 V12 =>
  ((r13 ≤ (0 : Int32) →
  wp_X8_asides V12  (fun V15 =>
  ((¬ x4 = (0 : Int32) →
  vp_in (2 : Int32) 38 ∧
  wp_X8_seen_b97 K  V15 x1 x2 x3 x4 (0 : Int32) (-(V15 5 ((2 : Int32)).toNatClampNeg))) ∧
  (x4 = (0 : Int32) →
  wp_X8_seen_b97 K  V15 x1 x2 x3 x4 (0 : Int32) (1 : Int32))))) ∧
  (¬ r13 ≤ (0 : Int32) →
  wp_X8_finds V12 r13 (fun r19 V18 =>
  K r19 V18))))) ∧
  (¬ (V8 0 19) = (0 : Int32) →
  K (-1000002 : Int32) V8))) ∧
  (r9 = (0 : Int32) →
  K (-1000001 : Int32) V8)))))))))) ∧
  ((V 0 15) = (0 : Int32) →
  K (-1000002 : Int32) V))
def wp_X8_who_b112 (K : Int32 → VT → Prop) (KL73 : VT → Int32 → Int32 → Int32 → Int32 → Int32 → Int32 → Prop) (V : VT) (x1 : Int32) (x2 : Int32) (x3 : Int32) (x4 : Int32) (x7 : Int32) (s0 : Int32) (s1 : Int32) : Prop :=
  wp_X8_backs V  (fun V25 =>
  KL73 V25 x1 x2 x3 x4 (s0 ||| s1) (x7 + (1 : Int32)))
def wp_X8_who_L73 (K : Int32 → VT → Prop)  : Nat → VT → Int32 → Int32 → Int32 → Int32 → Int32 → Int32 → Prop
  | 0, _, _, _, _, _, _, _ => False
  | n + 1, V, x1, x2, x3, x4, x6, x7 =>
    (((6 : Int32) ≤ x7 →
    wp_X8_well V x6 (fun r19 V18 =>
    K r19 V18)) ∧
    (¬ (6 : Int32) ≤ x7 →
    wp_X8_forceAt V x1 (fun r21 V20 =>
    wp_X8_isSeen V20 (((40 : Int32) * x2) + x3) x4 x7 r21 (fun r23 V22 =>
    ((r23 = (0 : Int32) →
    wp_X8_who_b112 K (wp_X8_who_L73 K  n) V22 x1 x2 x3 x4 x7 x6 (0 : Int32)) ∧
    (¬ r23 = (0 : Int32) →
    wp_X8_who_b112 K (wp_X8_who_L73 K  n) V22 x1 x2 x3 x4 x7 x6 ((1 : Int32) <<< (x7 &&& (31 : Int32)))))))))
def wp_X8_who (V : VT) (x1 : Int32) (x2 : Int32) (x3 : Int32) (x4 : Int32) (K : Int32 → VT → Prop) : Prop :=
  wp_X8_isTap V x1 (fun r2 V1 =>
  ((r2 = (0 : Int32) →
  K (-1000001 : Int32) V1) ∧
  (¬ r2 = (0 : Int32) →
  wp_X8_isRow V1 x2 (fun r5 V4 =>
  ((r5 = (0 : Int32) →
  K (-1000001 : Int32) V4) ∧
  (¬ r5 = (0 : Int32) →
  wp_X8_in V4 ((x4).toInt64) (1 : Int64) (8 : Int64) (fun r8 V7 =>
  ((¬ r8 = (0 : Int32) →
  (((V7 0 19) = (0 : Int32) →
  wp_X8_partOf V7 x2 x3 x4 (fun r12 V11 =>
  ((r12 ≤ (0 : Int32) →
  wp_X8_asides V11  (fun V14 =>
  ∃ n73 : Nat, wp_X8_who_L73 K  n73 V14 x1 x2 x3 x4 (0 : Int32) (1 : Int32))) ∧
  (¬ r12 ≤ (0 : Int32) →
  wp_X8_finds V11 r12 (fun r16 V15 =>
  K r16 V15))))) ∧
  (¬ (V7 0 19) = (0 : Int32) →
  K (-1000002 : Int32) V7))) ∧
  (r8 = (0 : Int32) →
  K (-1000001 : Int32) V7)))))))))
def wp_X8_falls_b186 (K : Int32 → VT → Prop) (KL70 : VT → Int32 → Int32 → Prop) (V : VT) (x1 : Int32) (x2 : Int32) : Prop :=
  KL70 V x1 (x2 + (1 : Int32))
def wp_X8_falls_b180 (K : Int32 → VT → Prop) (KL85 : VT → Int32 → Int32 → Int32 → Prop) (KL70 : VT → Int32 → Int32 → Prop) (V : VT) (x1 : Int32) (x2 : Int32) (x3 : Int32) : Prop :=
  KL85 V x1 x2 (x3 + (1 : Int32))
def wp_X8_falls_b150 (K : Int32 → VT → Prop) (KL85 : VT → Int32 → Int32 → Int32 → Prop) (KL70 : VT → Int32 → Int32 → Prop) (V : VT) (x2 : Int32) (x3 : Int32) (s0 : Int32) (s1 : Int32) : Prop :=
  ((¬ (V 0 19) = (0 : Int32) →
  wp_X8_falls_b180 K KL85 KL70 V (s0 ||| s1) x2 x3) ∧
  ((V 0 19) = (0 : Int32) →
  wp_X8_place V (V 0 16) (V 0 17) (V 0 18) (fun r23 V22 =>
  vp_in r23 2640 ∧
  ∀ V25 : VT, V25 = up2 V22 10 (r23).toNatClampNeg (1 : Int32) →
  wp_X8_falls_b180 K KL85 KL70 V25 (s0 ||| s1) x2 x3)))
def wp_X8_falls_L85 (K : Int32 → VT → Prop) (KL70 : VT → Int32 → Int32 → Prop) : Nat → VT → Int32 → Int32 → Int32 → Prop
  | 0, _, _, _, _ => False
  | n + 1, V, x1, x2, x3 =>
    vp_in (1 : Int32) 38 ∧
    (((V 5 ((1 : Int32)).toNatClampNeg) ≤ x3 →
    wp_X8_falls_b186 K KL70 V x1 x2) ∧
    (¬ (V 5 ((1 : Int32)).toNatClampNeg) ≤ x3 →
    vp_in x2 2640 ∧
    (((V 10 (x2).toNatClampNeg) = (0 : Int32) →
    wp_X8_falls_b186 K KL70 V x1 x2) ∧
    (¬ (V 10 (x2).toNatClampNeg) = (0 : Int32) →
    wp_X8_puts V (x2 / (110 : Int32)) ((x2 / (11 : Int32)) - (x2 / (11 : Int32)) / (10 : Int32) * (10 : Int32)) ((x2 - x2 / (11 : Int32) * (11 : Int32)) - (5 : Int32)) (0 : Int32) (fun V18 =>
    wp_X8_goesWith V18 x3 (fun V19 =>
    ((¬ (V19 0 19) = (1 : Int32) →
    wp_X8_falls_b150 K (wp_X8_falls_L85 K KL70 n) KL70 V19 x2 x3 x1 (0 : Int32)) ∧
    ((V19 0 19) = (1 : Int32) →
    wp_X8_falls_b150 K (wp_X8_falls_L85 K KL70 n) KL70 V19 x2 x3 x1 ((1 : Int32) <<< ((V19 0 16) &&& (31 : Int32)))))))))))
def wp_X8_falls_L70 (K : Int32 → VT → Prop)  : Nat → VT → Int32 → Int32 → Prop
  | 0, _, _, _ => False
  | n + 1, V, x1, x2 =>
    vp_in (0 : Int32) 38 ∧
    ((((110 : Int32) * (V 5 ((0 : Int32)).toNatClampNeg)) ≤ x2 →
    wp_X8_backs V  (fun V13 =>
    K x1 V13)) ∧
    (¬ ((110 : Int32) * (V 5 ((0 : Int32)).toNatClampNeg)) ≤ x2 →
    ∃ n85 : Nat, wp_X8_falls_L85 K (wp_X8_falls_L70 K  n) n85 V x1 x2 (-1 : Int32)))
def wp_X8_falls_L25 (K : Int32 → VT → Prop)  : Nat → VT → Int32 → Prop
  | 0, _, _ => False
  | n + 1, V, x1 =>
    (((2640 : Int32) ≤ x1 →
    wp_X8_place V (V 0 16) (V 0 17) (V 0 18) (fun r6 V5 =>
    vp_in r6 2640 ∧
    ∀ V8 : VT, V8 = up2 V5 10 (r6).toNatClampNeg (1 : Int32) →
    ∃ n70 : Nat, wp_X8_falls_L70 K  n70 V8 (0 : Int32) (0 : Int32))) ∧
    (¬ (2640 : Int32) ≤ x1 →
    vp_in x1 2640 ∧
    ∀ V10 : VT, V10 = up2 V 10 (x1).toNatClampNeg (0 : Int32) →
    (wp_X8_falls_L25 K  n) V10 (x1 + (1 : Int32))))
def wp_X8_falls (V : VT)  (K : Int32 → VT → Prop) : Prop :=
  ((¬ (V 0 15) = (0 : Int32) →
  (((V 0 19) = (0 : Int32) →
  wp_X8_asides V  (fun V3 =>
  ∃ n25 : Nat, wp_X8_falls_L25 K  n25 V3 (0 : Int32))) ∧
  (¬ (V 0 19) = (0 : Int32) →
  K (0 : Int32) V))) ∧
  ((V 0 15) = (0 : Int32) →
  K (-1000002 : Int32) V))
def wp_X8_mend_b127 (K : Int32 → VT → Prop) (KL33 : VT → Int32 → Int32 → Int32 → Int32 → Prop) (V : VT) (x1 : Int32) (x2 : Int32) (x4 : Int32) (s0 : Int32) : Prop :=
  KL33 V x1 x2 s0 (x4 + (1 : Int32))
def wp_X8_mend_b115 (K : Int32 → VT → Prop) (KL33 : VT → Int32 → Int32 → Int32 → Int32 → Prop) (V : VT) (x1 : Int32) (x3 : Int32) (x4 : Int32) (x6 : Int32) (x7 : Int32) (s0 : Int32) : Prop :=
  ((x7 = (0 : Int32) →
  wp_X8_mend_b127 K KL33 V x1 s0 x4 x3) ∧
  (¬ x7 = (0 : Int32) →
  wp_X8_mend_b127 K KL33 V x1 s0 x4 x6))
def wp_X8_mend_b102 (K : Int32 → VT → Prop) (KL33 : VT → Int32 → Int32 → Int32 → Int32 → Prop) (V : VT) (x1 : Int32) (x2 : Int32) (x3 : Int32) (x4 : Int32) (x6 : Int32) (s0 : Int32) : Prop :=
  ((s0 = (0 : Int32) →
  wp_X8_mend_b115 K KL33 V x1 x3 x4 x6 s0 x2) ∧
  (¬ s0 = (0 : Int32) →
  wp_X8_mend_b115 K KL33 V x1 x3 x4 x6 s0 x4))
def wp_X8_mend_b101 (K : Int32 → VT → Prop) (KL33 : VT → Int32 → Int32 → Int32 → Int32 → Prop) (V : VT) (x1 : Int32) (x2 : Int32) (x3 : Int32) (x4 : Int32) (x6 : Int32) : Prop :=
  wp_X8_mend_b102 K KL33 V x1 x2 x3 x4 x6 (0 : Int32)
def wp_X8_mend_L33 (K : Int32 → VT → Prop)  : Nat → VT → Int32 → Int32 → Int32 → Int32 → Prop
  | 0, _, _, _, _, _ => False
  | n + 1, V, x1, x2, x3, x4 =>
    vp_in (0 : Int32) 38 ∧
    (((V 5 ((0 : Int32)).toNatClampNeg) ≤ x4 →
    ((¬ x2 = (-1000000 : Int32) →
    ((¬ x1 = (0 : Int32) →
    K x3 V) ∧
    (x1 = (0 : Int32) →
    K x2 V))) ∧
    (x2 = (-1000000 : Int32) →
    K (-1000000 : Int32) V))) ∧
    (¬ (V 5 ((0 : Int32)).toNatClampNeg) ≤ x4 →
    vp_in ((4 : Int32) + x4) 38 ∧
    vp_in ((4 : Int32) + x4) 38 ∧
    ∀ V11 : VT, V11 = up2 V 5 (((4 : Int32) + x4)).toNatClampNeg (0 : Int32) →
    wp_X8_way V11 (1 : Int32) (0 : Int32) (fun r13 V12 =>
    vp_in ((4 : Int32) + x4) 38 ∧
    ∀ V15 : VT, V15 = up2 V12 5 (((4 : Int32) + x4)).toNatClampNeg (V 5 (((4 : Int32) + x4)).toNatClampNeg) →
    ((r13 = (-1000000 : Int32) →
    wp_X8_mend_b101 K (wp_X8_mend_L33 K  n) V15 x1 x2 x3 x4 r13) ∧
    (¬ r13 = (-1000000 : Int32) →
    ((x3 ≤ r13 →
    wp_X8_mend_b101 K (wp_X8_mend_L33 K  n) V15 x1 x2 x3 x4 r13) ∧
    (¬ x3 ≤ r13 →
    wp_X8_mend_b102 K (wp_X8_mend_L33 K  n) V15 x1 x2 x3 x4 r13 (1 : Int32))))))))
def wp_X8_mend (V : VT) (x1 : Int32) (K : Int32 → VT → Prop) : Prop :=
  ((¬ (V 0 15) = (0 : Int32) →
  wp_X8_in V ((x1).toInt64) (0 : Int64) (1 : Int64) (fun r3 V2 =>
  ((¬ r3 = (0 : Int32) →
  ∃ n33 : Nat, wp_X8_mend_L33 K  n33 V2 x1 (-1000000 : Int32) (9999 : Int32) (0 : Int32)) ∧
  (r3 = (0 : Int32) →
  K (-1000001 : Int32) V2)))) ∧
  ((V 0 15) = (0 : Int32) →
  K (-1000002 : Int32) V))
def wp_X8_common_L6 (K : Int64 → VT → Prop)  : Nat → VT → Int64 → Int64 → Prop
  | 0, _, _, _ => False
  | n + 1, V, y4, y6 =>
    (((lg_cmp y6 (0 : Int64)) = (0 : Int32) →
    K y4 V) ∧
    (¬ (lg_cmp y6 (0 : Int64)) = (0 : Int32) →
    ¬ y6 = 0 ∧
    (wp_X8_common_L6 K  n) V y6 (y4 - y4 / y6 * y6)))
def wp_X8_common (V : VT) (y0 : Int64) (y2 : Int64) (K : Int64 → VT → Prop) : Prop :=
  ∃ n6 : Nat, wp_X8_common_L6 K  n6 V y0 y2
def wp_X8_miss_b315 (K : Int64 → VT → Prop) (KL183 : VT → Int32 → Int32 → Int32 → Int32 → Int32 → Int64 → Int64 → Int32 → Prop) (V : VT) (x3 : Int32) (x4 : Int32) (x5 : Int32) (x7 : Int32) (x8 : Int32) (y11 : Int64) (x13 : Int32) (s0 : Int64) (s1 : Int64) : Prop :=
  wp_X8_backs V  (fun V39 =>
  KL183 V39 x3 x4 x5 x7 x8 (s0 + s1) y11 (x13 + (1 : Int32)))
def wp_X8_miss_b293 (K : Int64 → VT → Prop) (KL201 : VT → Int32 → Int32 → Int32 → Int32 → Int32 → Int64 → Int64 → Int32 → Int64 → Int32 → Int32 → Prop) (KL183 : VT → Int32 → Int32 → Int32 → Int32 → Int32 → Int64 → Int64 → Int32 → Prop) (V : VT) (x3 : Int32) (x4 : Int32) (x5 : Int32) (x7 : Int32) (x8 : Int32) (y9 : Int64) (y11 : Int64) (x13 : Int32) (y14 : Int64) (x16 : Int32) (x17 : Int32) : Prop :=
  KL201 V x3 x4 x5 x7 x8 y9 y11 x13 y14 x16 (x17 + (1 : Int32))
def wp_X8_miss_b280 (K : Int64 → VT → Prop) (KL201 : VT → Int32 → Int32 → Int32 → Int32 → Int32 → Int64 → Int64 → Int32 → Int64 → Int32 → Int32 → Prop) (KL183 : VT → Int32 → Int32 → Int32 → Int32 → Int32 → Int64 → Int64 → Int32 → Prop) (V : VT) (x3 : Int32) (x4 : Int32) (x5 : Int32) (x7 : Int32) (x8 : Int32) (y9 : Int64) (y11 : Int64) (x13 : Int32) (y14 : Int64) (x16 : Int32) (x17 : Int32) (x18 : Int32) : Prop :=
  ((¬ (V 0 19) = (0 : Int32) →
  wp_X8_miss_b293 K KL201 KL183 V x3 x4 x5 x7 x8 y9 y11 x13 y14 x16 x17) ∧
  ((V 0 19) = (0 : Int32) →
  wp_X8_goesWith V x18 (fun V41 =>
  wp_X8_miss_b293 K KL201 KL183 V41 x3 x4 x5 x7 x8 y9 y11 x13 y14 x16 x17)))
def wp_X8_miss_b275 (K : Int64 → VT → Prop) (KL201 : VT → Int32 → Int32 → Int32 → Int32 → Int32 → Int64 → Int64 → Int32 → Int64 → Int32 → Int32 → Prop) (KL183 : VT → Int32 → Int32 → Int32 → Int32 → Int32 → Int64 → Int64 → Int32 → Prop) (V : VT) (x3 : Int32) (x4 : Int32) (x5 : Int32) (x7 : Int32) (x8 : Int32) (y9 : Int64) (y11 : Int64) (x13 : Int32) (y14 : Int64) (x16 : Int32) (x17 : Int32) (s0 : Int32) : Prop :=
  wp_X8_miss_b280 K KL201 KL183 V x3 x4 x5 x7 x8 y9 y11 x13 y14 (x16 + (1 : Int32)) x17 s0
def wp_X8_miss_b261 (K : Int64 → VT → Prop) (KL201 : VT → Int32 → Int32 → Int32 → Int32 → Int32 → Int64 → Int64 → Int32 → Int64 → Int32 → Int32 → Prop) (KL183 : VT → Int32 → Int32 → Int32 → Int32 → Int32 → Int64 → Int64 → Int32 → Prop) (V : VT) (x3 : Int32) (x4 : Int32) (x5 : Int32) (x7 : Int32) (x8 : Int32) (y9 : Int64) (y11 : Int64) (x13 : Int32) (x16 : Int32) (x17 : Int32) (x18 : Int32) (x19 : Int32) (s0 : Int64) (s1 : Int64) : Prop :=
  ((x19 = (0 : Int32) →
  wp_X8_miss_b275 K KL201 KL183 V x3 x4 x5 x7 x8 y9 y11 x13 (s0 * s1) x16 x17 x18) ∧
  (¬ x19 = (0 : Int32) →
  wp_X8_miss_b275 K KL201 KL183 V x3 x4 x5 x7 x8 y9 y11 x13 (s0 * s1) x16 x17 (-1 : Int32)))
def wp_X8_miss_b240 (K : Int64 → VT → Prop) (KL201 : VT → Int32 → Int32 → Int32 → Int32 → Int32 → Int64 → Int64 → Int32 → Int64 → Int32 → Int32 → Prop) (KL183 : VT → Int32 → Int32 → Int32 → Int32 → Int32 → Int64 → Int64 → Int32 → Prop) (V : VT) (x3 : Int32) (x4 : Int32) (x5 : Int32) (x7 : Int32) (x8 : Int32) (y9 : Int64) (y11 : Int64) (x13 : Int32) (y14 : Int64) (x16 : Int32) (x17 : Int32) (x18 : Int32) (s0 : Int32) : Prop :=
  ((s0 = (0 : Int32) →
  wp_X8_miss_b261 K KL201 KL183 V x3 x4 x5 x7 x8 y9 y11 x13 x16 x17 x18 s0 y14 ((((10 : Int32) - x4)).toInt64)) ∧
  (¬ s0 = (0 : Int32) →
  wp_X8_miss_b261 K KL201 KL183 V x3 x4 x5 x7 x8 y9 y11 x13 x16 x17 x18 s0 y14 ((x4).toInt64)))
def wp_X8_miss_L201 (K : Int64 → VT → Prop) (KL183 : VT → Int32 → Int32 → Int32 → Int32 → Int32 → Int64 → Int64 → Int32 → Prop) : Nat → VT → Int32 → Int32 → Int32 → Int32 → Int32 → Int64 → Int64 → Int32 → Int64 → Int32 → Int32 → Prop
  | 0, _, _, _, _, _, _, _, _, _, _, _, _ => False
  | n + 1, V, x3, x4, x5, x7, x8, y9, y11, x13, y14, x16, x17 =>
    ((x3 ≤ x17 →
    ((¬ (V 0 19) = (2 : Int32) →
    wp_X8_miss_b315 K KL183 V x3 x4 x5 x7 x8 y11 x13 y9 (0 : Int64)) ∧
    ((V 0 19) = (2 : Int32) →
    wp_X8_miss_b315 K KL183 V x3 x4 x5 x7 x8 y11 x13 y9 y14))) ∧
    (¬ x3 ≤ x17 →
    vp_in (x7 + x17) 320 ∧
    (((V 3 ((x7 + x17)).toNatClampNeg) < (0 : Int32) →
    wp_X8_miss_b280 K (wp_X8_miss_L201 K KL183 n) KL183 V x3 x4 x5 x7 x8 y9 y11 x13 y14 x16 x17 (V 3 ((x7 + x17)).toNatClampNeg)) ∧
    (¬ (V 3 ((x7 + x17)).toNatClampNeg) < (0 : Int32) →
    ((¬ ((x13 >>> (x16 &&& (31 : Int32))) &&& (1 : Int32)) = (1 : Int32) →
    wp_X8_miss_b240 K (wp_X8_miss_L201 K KL183 n) KL183 V x3 x4 x5 x7 x8 y9 y11 x13 y14 x16 x17 (V 3 ((x7 + x17)).toNatClampNeg) (0 : Int32)) ∧
    (((x13 >>> (x16 &&& (31 : Int32))) &&& (1 : Int32)) = (1 : Int32) →
    wp_X8_miss_b240 K (wp_X8_miss_L201 K KL183 n) KL183 V x3 x4 x5 x7 x8 y9 y11 x13 y14 x16 x17 (V 3 ((x7 + x17)).toNatClampNeg) (1 : Int32)))))))
def wp_X8_miss_L183 (K : Int64 → VT → Prop)  : Nat → VT → Int32 → Int32 → Int32 → Int32 → Int32 → Int64 → Int64 → Int32 → Prop
  | 0, _, _, _, _, _, _, _, _, _ => False
  | n + 1, V, x3, x4, x5, x7, x8, y9, y11, x13 =>
    ((((1 : Int32) <<< (x8 &&& (31 : Int32))) ≤ x13 →
    wp_X8_common V y9 y11 (fun r29 V28 =>
    ∀ V30 : VT, V30 = up2 V28 0 4 (0 : Int32) →
    ((¬ x5 = (0 : Int32) →
    ¬ r29 = 0 ∧
    K (y11 / r29) V30) ∧
    (x5 = (0 : Int32) →
    ¬ r29 = 0 ∧
    K (y9 / r29) V30)))) ∧
    (¬ ((1 : Int32) <<< (x8 &&& (31 : Int32))) ≤ x13 →
    ∃ n201 : Nat, wp_X8_miss_L201 K (wp_X8_miss_L183 K  n) n201 V x3 x4 x5 x7 x8 y9 y11 x13 (1 : Int64) (0 : Int32) (0 : Int32)))
def wp_X8_miss_L159 (K : Int64 → VT → Prop)  : Nat → VT → Int32 → Int32 → Int32 → Int32 → Int32 → Int64 → Int64 → Int32 → Prop
  | 0, _, _, _, _, _, _, _, _, _ => False
  | n + 1, V, x3, x4, x5, x7, x8, y9, y11, x13 =>
    ((x8 ≤ x13 →
    ∃ n183 : Nat, wp_X8_miss_L183 K  n183 V x3 x4 x5 x7 x8 y9 y11 (0 : Int32)) ∧
    (¬ x8 ≤ x13 →
    (wp_X8_miss_L159 K  n) V x3 x4 x5 x7 x8 y9 (y11 * (10 : Int64)) (x13 + (1 : Int32))))
def wp_X8_miss_b137 (K : Int64 → VT → Prop) (KL110 : VT → Int32 → Int32 → Int32 → Int32 → Int32 → Int32 → Prop) (V : VT) (x3 : Int32) (x4 : Int32) (x5 : Int32) (x7 : Int32) (x9 : Int32) (s0 : Int32) (s1 : Int32) : Prop :=
  KL110 V x3 x4 x5 x7 (s0 + s1) (x9 + (1 : Int32))
def wp_X8_miss_L110 (K : Int64 → VT → Prop)  : Nat → VT → Int32 → Int32 → Int32 → Int32 → Int32 → Int32 → Prop
  | 0, _, _, _, _, _, _, _ => False
  | n + 1, V, x3, x4, x5, x7, x8, x9 =>
    ((x3 ≤ x9 →
    wp_X8_asides V  (fun V23 =>
    ∃ n159 : Nat, wp_X8_miss_L159 K  n159 V23 x3 x4 x5 x7 x8 (0 : Int64) (1 : Int64) (0 : Int32))) ∧
    (¬ x3 ≤ x9 →
    vp_in (x7 + x9) 320 ∧
    ((¬ (V 3 ((x7 + x9)).toNatClampNeg) = (-1 : Int32) →
    wp_X8_miss_b137 K (wp_X8_miss_L110 K  n) V x3 x4 x5 x7 x9 x8 (1 : Int32)) ∧
    ((V 3 ((x7 + x9)).toNatClampNeg) = (-1 : Int32) →
    wp_X8_miss_b137 K (wp_X8_miss_L110 K  n) V x3 x4 x5 x7 x9 x8 (0 : Int32)))))
def wp_X8_miss_b54 (K : Int64 → VT → Prop)  (V : VT)  : Prop :=
  K (-1000001 : Int64) V
def wp_X8_miss (V : VT) (x1 : Int32) (x2 : Int32) (x3 : Int32) (x4 : Int32) (x5 : Int32) (K : Int64 → VT → Prop) : Prop :=
  ((¬ (V 0 15) = (0 : Int32) →
  wp_X8_isRow V x1 (fun r3 V2 =>
  ((r3 = (0 : Int32) →
  wp_X8_miss_b54 K  V2) ∧
  (¬ r3 = (0 : Int32) →
  wp_X8_in V2 ((x3).toInt64) (1 : Int64) (24 : Int64) (fun r6 V5 =>
  ((r6 = (0 : Int32) →
  wp_X8_miss_b54 K  V5) ∧
  (¬ r6 = (0 : Int32) →
  wp_X8_in V5 ((x4).toInt64) (0 : Int64) (10 : Int64) (fun r9 V8 =>
  ((r9 = (0 : Int32) →
  wp_X8_miss_b54 K  V8) ∧
  (¬ r9 = (0 : Int32) →
  wp_X8_in V8 ((x5).toInt64) (0 : Int64) (1 : Int64) (fun r12 V11 =>
  ((¬ r12 = (0 : Int32) →
  wp_X8_partOf V11 x1 x2 x3 (fun r15 V14 =>
  ((r15 ≤ (0 : Int32) →
  wp_X8_areTaps V14 (((40 : Int32) * x1) + x2) x3 (8 : Int32) (fun r18 V17 =>
  ((¬ r18 = (0 : Int32) →
  ∃ n110 : Nat, wp_X8_miss_L110 K  n110 V17 x3 x4 x5 (((40 : Int32) * x1) + x2) (0 : Int32) (0 : Int32)) ∧
  (r18 = (0 : Int32) →
  K (-1000001 : Int64) V17)))) ∧
  (¬ r15 ≤ (0 : Int32) →
  wp_X8_finds V14 r15 (fun r21 V20 =>
  K ((r21).toInt64) V20))))) ∧
  (r12 = (0 : Int32) →
  wp_X8_miss_b54 K  V11))))))))))))) ∧
  ((V 0 15) = (0 : Int32) →
  K (-1000002 : Int64) V))
def wp_X8_drawn_b117 (K : Int32 → VT → Prop)  (V : VT) (x3 : Int32) (x6 : Int32) : Prop :=
  wp_X8_backs V  (fun V18 =>
  ((¬ x3 = (0 : Int32) →
  K x6 V18) ∧
  (x3 = (0 : Int32) →
  K (V 0 16) V18)))
def wp_X8_drawn_b108 (K : Int32 → VT → Prop) (KL58 : VT → Int32 → Int32 → Int64 → Int32 → Prop) (V : VT) (x1 : Int32) (x3 : Int32) (y4 : Int64) (x6 : Int32) (s1 : Int32) : Prop :=
  wp_X8_goesWith V s1 (fun V20 =>
  KL58 V20 x1 x3 y4 (x6 + (1 : Int32)))
def wp_X8_drawn_L58 (K : Int32 → VT → Prop)  : Nat → VT → Int32 → Int32 → Int64 → Int32 → Prop
  | 0, _, _, _, _, _ => False
  | n + 1, V, x1, x3, y4, x6 =>
    ((x1 ≤ x6 →
    wp_X8_drawn_b117 K  V x3 x6) ∧
    (¬ x1 ≤ x6 →
    ((¬ (V 0 19) = (0 : Int32) →
    wp_X8_drawn_b117 K  V x3 x6) ∧
    ((V 0 19) = (0 : Int32) →
    ∀ z14 : Int64, z14 = ((y4 * (16807 : Int64)) - (y4 * (16807 : Int64)) / (2147483647 : Int64) * (2147483647 : Int64)) →
    wp_X8_isTap V (((z14 - z14 / (8 : Int64) * (8 : Int64))).toInt32) (fun r16 V15 =>
    ((r16 = (0 : Int32) →
    wp_X8_drawn_b108 K (wp_X8_drawn_L58 K  n) V15 x1 x3 z14 x6 (-1 : Int32)) ∧
    (¬ r16 = (0 : Int32) →
    wp_X8_drawn_b108 K (wp_X8_drawn_L58 K  n) V15 x1 x3 z14 x6 (((z14 - z14 / (8 : Int64) * (8 : Int64))).toInt32))))))))
def wp_X8_drawn (V : VT) (x1 : Int32) (x2 : Int32) (x3 : Int32) (K : Int32 → VT → Prop) : Prop :=
  ((¬ (V 0 15) = (0 : Int32) →
  wp_X8_in V ((x1).toInt64) (0 : Int64) (40 : Int64) (fun r3 V2 =>
  ((r3 = (0 : Int32) →
  K (-1000001 : Int32) V2) ∧
  (¬ r3 = (0 : Int32) →
  wp_X8_in V2 ((x2).toInt64) (1 : Int64) (999999 : Int64) (fun r6 V5 =>
  ((r6 = (0 : Int32) →
  K (-1000001 : Int32) V5) ∧
  (¬ r6 = (0 : Int32) →
  wp_X8_in V5 ((x3).toInt64) (0 : Int64) (1 : Int64) (fun r9 V8 =>
  ((¬ r9 = (0 : Int32) →
  wp_X8_asides V8  (fun V11 =>
  ∃ n58 : Nat, wp_X8_drawn_L58 K  n58 V11 x1 x3 ((x2).toInt64) (0 : Int32))) ∧
  (r9 = (0 : Int32) →
  K (-1000001 : Int32) V8)))))))))) ∧
  ((V 0 15) = (0 : Int32) →
  K (-1000002 : Int32) V))
def wp_X8_image_L65 (K : Int32 → VT → Prop)  : Nat → VT → Int32 → Int32 → Prop
  | 0, _, _, _ => False
  | n + 1, V, x2, x3 =>
    (((38 : Int32) ≤ x3 →
    K (1 : Int32) V) ∧
    (¬ (38 : Int32) ≤ x3 →
    vp_in x3 38 ∧
    vp_in ((x2 + (6 : Int32)) + x3) 88 ∧
    ∀ V15 : VT, V15 = up2 V 11 (((x2 + (6 : Int32)) + x3)).toNatClampNeg (V 5 (x3).toNatClampNeg) →
    (wp_X8_image_L65 K  n) V15 x2 (x3 + (1 : Int32))))
def wp_X8_image_L37 (K : Int32 → VT → Prop)  : Nat → VT → Int32 → Int32 → Prop
  | 0, _, _, _ => False
  | n + 1, V, x2, x3 =>
    (((5 : Int32) ≤ x3 →
    ∃ n65 : Nat, wp_X8_image_L65 K  n65 V x2 (0 : Int32)) ∧
    (¬ (5 : Int32) ≤ x3 →
    wp_X8_hoopOf V x3 (fun r9 V8 =>
    vp_in ((x2 + (1 : Int32)) + x3) 88 ∧
    ∀ V11 : VT, V11 = up2 V8 11 (((x2 + (1 : Int32)) + x3)).toNatClampNeg r9 →
    (wp_X8_image_L37 K  n) V11 x2 (x3 + (1 : Int32)))))
def wp_X8_image (V : VT) (x1 : Int32) (K : Int32 → VT → Prop) : Prop :=
  wp_X8_in V ((x1).toInt64) (0 : Int64) (1 : Int64) (fun r2 V1 =>
  ((¬ r2 = (0 : Int32) →
  ((¬ (V1 0 15) = (0 : Int32) →
  vp_in ((44 : Int32) * x1) 88 ∧
  ∀ V6 : VT, V6 = up2 V1 11 (((44 : Int32) * x1)).toNatClampNeg (1 : Int32) →
  ∃ n37 : Nat, wp_X8_image_L37 K  n37 V6 ((44 : Int32) * x1) (0 : Int32)) ∧
  ((V1 0 15) = (0 : Int32) →
  K (-1000002 : Int32) V1))) ∧
  (r2 = (0 : Int32) →
  K (-1000001 : Int32) V1)))
def wp_X8_restore_L80 (K : Int32 → VT → Prop)  : Nat → VT → Int32 → Int32 → Prop
  | 0, _, _, _ => False
  | n + 1, V, x2, x3 =>
    (((38 : Int32) ≤ x3 →
    ∀ V14 : VT, V14 = up2 V 0 22 (0 : Int32) →
    K (1 : Int32) V14) ∧
    (¬ (38 : Int32) ≤ x3 →
    vp_in ((x2 + (6 : Int32)) + x3) 88 ∧
    vp_in x3 38 ∧
    ∀ V17 : VT, V17 = up2 V 5 (x3).toNatClampNeg (V 11 (((x2 + (6 : Int32)) + x3)).toNatClampNeg) →
    (wp_X8_restore_L80 K  n) V17 x2 (x3 + (1 : Int32))))
def wp_X8_restore (V : VT) (x1 : Int32) (K : Int32 → VT → Prop) : Prop :=
  wp_X8_in V ((x1).toInt64) (0 : Int64) (1 : Int64) (fun r2 V1 =>
  ((¬ r2 = (0 : Int32) →
  vp_in ((44 : Int32) * x1) 88 ∧
  ((¬ (V1 11 (((44 : Int32) * x1)).toNatClampNeg) = (0 : Int32) →
  vp_in (((44 : Int32) * x1) + (1 : Int32)) 88 ∧
  vp_in (((44 : Int32) * x1) + (2 : Int32)) 88 ∧
  vp_in (((44 : Int32) * x1) + (3 : Int32)) 88 ∧
  vp_in (((44 : Int32) * x1) + (4 : Int32)) 88 ∧
  wp_X8_puts V1 (V1 11 ((((44 : Int32) * x1) + (1 : Int32))).toNatClampNeg) (V1 11 ((((44 : Int32) * x1) + (2 : Int32))).toNatClampNeg) (V1 11 ((((44 : Int32) * x1) + (3 : Int32))).toNatClampNeg) (V1 11 ((((44 : Int32) * x1) + (4 : Int32))).toNatClampNeg) (fun V10 =>
  vp_in (((44 : Int32) * x1) + (5 : Int32)) 88 ∧
  ∀ V12 : VT, V12 = up2 V10 0 20 (V10 11 ((((44 : Int32) * x1) + (5 : Int32))).toNatClampNeg) →
  ∃ n80 : Nat, wp_X8_restore_L80 K  n80 V12 ((44 : Int32) * x1) (0 : Int32))) ∧
  ((V1 11 (((44 : Int32) * x1)).toNatClampNeg) = (0 : Int32) →
  K (-1000002 : Int32) V1))) ∧
  (r2 = (0 : Int32) →
  K (-1000001 : Int32) V1)))
def wp_X8_begins (V : VT) (x1 : Int32) (K : VT → Prop) : Prop :=
  (((16 : Int32) ≤ (V 0 32) →
  K V) ∧
  (¬ (16 : Int32) ≤ (V 0 32) →
  vp_in (V 0 32) 16 ∧
  ∀ V3 : VT, V3 = up2 V 12 ((V 0 32)).toNatClampNeg x1 →
  ∀ V4 : VT, V4 = up2 V3 0 32 ((V3 0 32) + (1 : Int32)) →
  K V4))
def wp_X8_kind (V : VT) (x1 : Int32) (K : Int32 → VT → Prop) : Prop :=
  wp_X8_isTap V x1 (fun r2 V1 =>
  ((r2 = (0 : Int32) →
  K (-1000001 : Int32) V1) ∧
  (¬ r2 = (0 : Int32) →
  wp_X8_kindAt V1 x1 (fun r5 V4 =>
  K r5 V4))))
def wp_X8_isKind_b29 (K : Int32 → VT → Prop)  (V : VT)  : Prop :=
  K (1 : Int32) V
def wp_X8_isKind_b19 (K : Int32 → VT → Prop)  (V : VT) (x0 : Int32) (x1 : Int32) : Prop :=
  ((¬ x1 = (4 : Int32) →
  K (0 : Int32) V) ∧
  (x1 = (4 : Int32) →
  ((¬ x0 = (5 : Int32) →
  K (0 : Int32) V) ∧
  (x0 = (5 : Int32) →
  wp_X8_isKind_b29 K  V))))
def wp_X8_isKind (V : VT) (x0 : Int32) (x1 : Int32) (K : Int32 → VT → Prop) : Prop :=
  ((x1 = (0 : Int32) →
  wp_X8_isKind_b29 K  V) ∧
  (¬ x1 = (0 : Int32) →
  ((x0 = x1 →
  wp_X8_isKind_b29 K  V) ∧
  (¬ x0 = x1 →
  ((¬ x1 = (1 : Int32) →
  wp_X8_isKind_b19 K  V x0 x1) ∧
  (x1 = (1 : Int32) →
  ((x0 < (4 : Int32) →
  wp_X8_isKind_b29 K  V) ∧
  (¬ x0 < (4 : Int32) →
  wp_X8_isKind_b19 K  V x0 x1))))))))
def wp_X8_as (V : VT) (x1 : Int32) (x2 : Int32) (K : Int32 → VT → Prop) : Prop :=
  wp_X8_isTap V x1 (fun r2 V1 =>
  ((r2 = (0 : Int32) →
  K (-1000001 : Int32) V1) ∧
  (¬ r2 = (0 : Int32) →
  wp_X8_in V1 ((x2).toInt64) (0 : Int64) (5 : Int64) (fun r5 V4 =>
  ((¬ r5 = (0 : Int32) →
  wp_X8_kindAt V4 x1 (fun r8 V7 =>
  wp_X8_isKind V7 r8 x2 (fun r10 V9 =>
  ((r10 = (0 : Int32) →
  wp_X8_finds V9 (3 : Int32) (fun r13 V12 =>
  K r13 V12)) ∧
  (¬ r10 = (0 : Int32) →
  wp_X8_well V9 x1 (fun r15 V14 =>
  K r15 V14)))))) ∧
  (r5 = (0 : Int32) →
  K (-1000001 : Int32) V4))))))
def wp_X8_lent (V : VT) (x1 : Int32) (K : Int32 → VT → Prop) : Prop :=
  wp_X8_begins V (10 : Int32) (fun V1 =>
  wp_X8_forceAt V1 x1 (fun r3 V2 =>
  K r3 V2))
def wp_X8_brakes_b25 (K : Int32 → VT → Prop)  (V : VT) (x1 : Int32) (x2 : Int32) : Prop :=
  wp_X8_begins V (13 : Int32) (fun V6 =>
  wp_X8_lent V6 x1 (fun r8 V7 =>
  ((x2 = (0 : Int32) →
  K (r8 - (100 : Int32)) V7) ∧
  (¬ x2 = (0 : Int32) →
  K ((2 : Int32) * (r8 - (100 : Int32))) V7))))
def wp_X8_brakes_b14 (K : Int32 → VT → Prop)  (V : VT) (x1 : Int32) (s0 : Int32) : Prop :=
  ((s0 = (0 : Int32) →
  wp_X8_brakes_b25 K  V x1 s0) ∧
  (¬ s0 = (0 : Int32) →
  wp_X8_begins V (14 : Int32) (fun V5 =>
  wp_X8_brakes_b25 K  V5 x1 s0)))
def wp_X8_brakes (V : VT) (x1 : Int32) (K : Int32 → VT → Prop) : Prop :=
  wp_X8_kindAt V x1 (fun r2 V1 =>
  ((¬ r2 = (5 : Int32) →
  wp_X8_brakes_b14 K  V1 x1 (0 : Int32)) ∧
  (r2 = (5 : Int32) →
  wp_X8_brakes_b14 K  V1 x1 (1 : Int32))))
def wp_X8_marks_b52 (K : Int32 → VT → Prop)  (V : VT) (x1 : Int32) (x2 : Int32) : Prop :=
  wp_X8_begins V (21 : Int32) (fun V10 =>
  wp_X8_begins V10 (20 : Int32) (fun V11 =>
  ((¬ x2 = (2 : Int32) →
  ((¬ x2 = (3 : Int32) →
  K (x1 + (V11 0 17)) V11) ∧
  (x2 = (3 : Int32) →
  K ((x1 + (V11 0 17)) - (1000 : Int32)) V11))) ∧
  (x2 = (2 : Int32) →
  K ((2 : Int32) * (x1 + (V11 0 17))) V11))))
def wp_X8_marks_b49 (K : Int32 → VT → Prop)  (V : VT) (x1 : Int32) (x2 : Int32) (s1 : Int32) : Prop :=
  wp_X8_begins V s1 (fun V14 =>
  wp_X8_marks_b52 K  V14 x1 x2)
def wp_X8_marks (V : VT) (x1 : Int32) (K : Int32 → VT → Prop) : Prop :=
  wp_X8_kindAt V x1 (fun r2 V1 =>
  ((r2 ≤ (3 : Int32) →
  ((r2 ≤ (1 : Int32) →
  wp_X8_marks_b52 K  V1 x1 r2) ∧
  (¬ r2 ≤ (1 : Int32) →
  ((¬ r2 = (2 : Int32) →
  wp_X8_marks_b49 K  V1 x1 r2 (22 : Int32)) ∧
  (r2 = (2 : Int32) →
  wp_X8_marks_b49 K  V1 x1 r2 (24 : Int32)))))) ∧
  (¬ r2 ≤ (3 : Int32) →
  wp_X8_begins V1 (23 : Int32) (fun V6 =>
  wp_X8_begins V6 (20 : Int32) (fun V7 =>
  wp_X8_brakes V7 x1 (fun r9 V8 =>
  K (x1 - r9) V8))))))
def wp_X8_sizeOf_b28 (K : Int32 → VT → Prop)  (V : VT) (x1 : Int32) (x2 : Int32) : Prop :=
  wp_X8_begins V (11 : Int32) (fun V8 =>
  wp_X8_lent V8 x1 (fun r10 V9 =>
  wp_X8_marks V9 x1 (fun r12 V11 =>
  ((¬ x2 = (2 : Int32) →
  K (r10 + r12) V11) ∧
  (x2 = (2 : Int32) →
  K (-(r10 + r12)) V11)))))
def wp_X8_sizeOf (V : VT) (x1 : Int32) (K : Int32 → VT → Prop) : Prop :=
  wp_X8_kindAt V x1 (fun r2 V1 =>
  ((r2 ≤ (3 : Int32) →
  ((¬ r2 = (2 : Int32) →
  wp_X8_sizeOf_b28 K  V1 x1 r2) ∧
  (r2 = (2 : Int32) →
  wp_X8_begins V1 (12 : Int32) (fun V5 =>
  wp_X8_sizeOf_b28 K  V5 x1 r2)))) ∧
  (¬ r2 ≤ (3 : Int32) →
  wp_X8_brakes V1 x1 (fun r7 V6 =>
  K r7 V6))))
def wp_X8_ask (V : VT) (x1 : Int32) (x2 : Int32) (K : Int32 → VT → Prop) : Prop :=
  wp_X8_isTap V x1 (fun r2 V1 =>
  ((r2 = (0 : Int32) →
  K (-1000001 : Int32) V1) ∧
  (¬ r2 = (0 : Int32) →
  wp_X8_in V1 ((x2).toInt64) (0 : Int64) (1 : Int64) (fun r5 V4 =>
  ((¬ r5 = (0 : Int32) →
  ∀ V7 : VT, V7 = up2 V4 0 32 (0 : Int32) →
  ((¬ x2 = (0 : Int32) →
  wp_X8_marks V7 x1 (fun r10 V9 =>
  K r10 V9)) ∧
  (x2 = (0 : Int32) →
  wp_X8_sizeOf V7 x1 (fun r12 V11 =>
  K r12 V11)))) ∧
  (r5 = (0 : Int32) →
  K (-1000001 : Int32) V4))))))
def wp_X8_trace (V : VT) (x1 : Int32) (K : Int32 → VT → Prop) : Prop :=
  wp_X8_in V ((x1).toInt64) (0 : Int64) ((((V 0 32) - (1 : Int32))).toInt64) (fun r2 V1 =>
  ((r2 = (0 : Int32) →
  K (-1000000 : Int32) V1) ∧
  (¬ r2 = (0 : Int32) →
  vp_in x1 16 ∧
  K (V1 12 (x1).toNatClampNeg) V1)))
def wp_X8_count_b82 (K : Int32 → VT → Prop)  (V : VT) (x1 : Int32) : Prop :=
  vp_in (x1 - (1 : Int32)) 38 ∧
  K (V 5 ((x1 - (1 : Int32))).toNatClampNeg) V
def wp_X8_count_b25 (K : Int32 → VT → Prop) (KL4 : VT → Int32 → Int32 → Int32 → Prop) (V : VT) (x1 : Int32) (x3 : Int32) (s0 : Int32) (s1 : Int32) : Prop :=
  KL4 V x1 (s0 + s1) (x3 + (1 : Int32))
def wp_X8_count_L4 (K : Int32 → VT → Prop)  : Nat → VT → Int32 → Int32 → Int32 → Prop
  | 0, _, _, _, _ => False
  | n + 1, V, x1, x2, x3 =>
    (((8 : Int32) ≤ x3 →
    ((x1 = (0 : Int32) →
    K x2 V) ∧
    (x1 = (1 : Int32) →
    wp_X8_count_b82 K  V x1) ∧
    (x1 = (2 : Int32) →
    wp_X8_count_b82 K  V x1) ∧
    (x1 = (3 : Int32) →
    wp_X8_count_b82 K  V x1) ∧
    (x1 = (4 : Int32) →
    wp_X8_count_b82 K  V x1) ∧
    (x1 = (5 : Int32) →
    K (V 0 20) V) ∧
    (x1 = (6 : Int32) →
    K (V 0 22) V) ∧
    (x1 = (7 : Int32) →
    K (V 0 8) V) ∧
    (¬ x1 = (0 : Int32) → ¬ x1 = (1 : Int32) → ¬ x1 = (2 : Int32) → ¬ x1 = (3 : Int32) → ¬ x1 = (4 : Int32) → ¬ x1 = (5 : Int32) → ¬ x1 = (6 : Int32) → ¬ x1 = (7 : Int32) →
    K (-1000001 : Int32) V))) ∧
    (¬ (8 : Int32) ≤ x3 →
    vp_in x3 8 ∧
    (((0 : Int32) ≤ (V 1 (x3).toNatClampNeg) →
    wp_X8_count_b25 K (wp_X8_count_L4 K  n) V x1 x3 x2 (1 : Int32)) ∧
    (¬ (0 : Int32) ≤ (V 1 (x3).toNatClampNeg) →
    wp_X8_count_b25 K (wp_X8_count_L4 K  n) V x1 x3 x2 (0 : Int32)))))
def wp_X8_count (V : VT) (x1 : Int32) (K : Int32 → VT → Prop) : Prop :=
  ∃ n4 : Nat, wp_X8_count_L4 K  n4 V x1 (0 : Int32) (0 : Int32)
def wp_X8_status (V : VT)  (K : Int32 → VT → Prop) : Prop :=
  K (V 0 4) V
