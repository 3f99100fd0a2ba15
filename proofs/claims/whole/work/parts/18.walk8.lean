def rm_J6_bitCount_0f7a4 : Room := { frames := 0, cells := 0, slots := 0, locals := 0 }
set_option maxHeartbeats 4000000 in
set_option maxRecDepth 100000 in
theorem c_J6_bitCount_0f7a4 (l : Launch) (g : GP) (ad : Nat → Nat) (sz : Nat) (V : VT) (x0 : Int32)  (K : Int32 → VT → Prop) (hw : wp_J6_bitCount_0f7a4 V x0 K) : Met l yJ6_bitCount_0f7a4 wsJ6_bitCount_0f7a4 rm_J6_bitCount_0f7a4 (va_Pc [.int x0] (WPre 76 (cX g ad) ad g V sz)) (va_Qi K (WPost 76 (cX g ad) ad g) (AW ad 76 sz)) 0 0 (AW ad 76 sz) := by
  refine Met.ofW (cc := cJ6_bitCount_0f7a4) (maxL := 1) (ret := (some .int)) (by decide) rfl ?_
  intro p e s m args below meth c s₁ B hml hv
  obtain ⟨ha, hv⟩ := hv
  obtain rfl := hv.1
  have hI : WI g 76 (cX g ad) ad V s.heap s.heap [] := WI.start hv
  have hK := hv.2.2.1
  have hE := hv.2.2.2.2
  have hx := B.exec
  have hb := B.bytes
  have hr := B.returns
  have hts := atoms_spec (ws := wsJ6_bitCount_0f7a4) B.pre
  have hown : s.vm.findClass RJ6 = some m.cls := findClass_of_methodNamed B.named
  have hlocks := B.notSynchronized
  have hw_0 := hts (.constant RJ6 265 (1431655765)) (by decide +kernel)
  have hw_1 := hts (.constant RJ6 266 (858993459)) (by decide +kernel)
  have hw_2 := hts (.constant RJ6 267 (252645135)) (by decide +kernel)
  have hl := lv_entry ([.int x0]) (n := 1) (Nat.le_of_ble_eq_true rfl)
  have hent : entryFrame m args 1 = F0 m 0 ((lg_sl ([.int x0]) ++ List.replicate (1 - (lg_sl ([.int x0])).length) Slot.unset).toArray) [] := by rw [ha, lg_entry_eq]
  rw [hent]
  generalize (lg_sl ([.int x0]) ++ List.replicate (1 - (lg_sl ([.int x0])).length) Slot.unset).toArray = ls at hl ⊢
  have hl : lv_has ls 1 [(0, .int x0)] := hl
  obtain ⟨H, hH⟩ : ∃ H : Heap, H = s.heap := ⟨_, rfl⟩
  have hgo : ∀ (H : Heap) (locs : List Loc), WI g 76 (cX g ad) ad V s.heap H locs → W p l e (headSpec wsJ6_bitCount_0f7a4 rm_J6_bitCount_0f7a4).room s m args below meth c H locs 0 0 (MQ below (va_Qi K (WPost 76 (cX g ad) ad g) (AW ad 76 s.heap.size)) args s 0 0 (AW ad 76 s.heap.size)) (F0 m 0 ls []) := by
    intro H locs hI
    refine lv_iload_n hx hb dJ6_bitCount_0f7a4_0 rfl (lv_at hl 0 rfl) ?_
    refine lv_iload_n hx hb dJ6_bitCount_0f7a4_1 rfl (lv_at hl 0 rfl) ?_
    refine lv_iconst (v := (1 : Int32)) hx hb dJ6_bitCount_0f7a4_2 (by decide) ?_
    refine lv_iushr (v := ((x0).toUInt32 >>> (((1 : Int32)).toUInt32 &&& Int32.toUInt32 31)).toInt32) hx hb dJ6_bitCount_0f7a4_3 rfl ?_
    refine lv_ldcw (v := (1431655765 : Int32)) hx hb hown hw_0 dJ6_bitCount_0f7a4_4 ?_
    refine lv_iand hx hb dJ6_bitCount_0f7a4_7 ?_
    refine lv_isub hx hb dJ6_bitCount_0f7a4_8 ?_
    refine lv_topi (fun z1 ez1 => ?_)
    replace hw := hw z1 ez1
    refine lv_istore_n (lv' := [(0, .int z1)]) hx hb dJ6_bitCount_0f7a4_9 rfl hl (by decide) rfl (fun ls hl => ?_)
    refine lv_iload_n hx hb dJ6_bitCount_0f7a4_10 rfl (lv_at hl 0 rfl) ?_
    refine lv_ldcw (v := (858993459 : Int32)) hx hb hown hw_1 dJ6_bitCount_0f7a4_11 ?_
    refine lv_iand hx hb dJ6_bitCount_0f7a4_14 ?_
    refine lv_iload_n hx hb dJ6_bitCount_0f7a4_15 rfl (lv_at hl 0 rfl) ?_
    refine lv_iconst (v := (2 : Int32)) hx hb dJ6_bitCount_0f7a4_16 (by decide) ?_
    refine lv_iushr (v := ((z1).toUInt32 >>> (((2 : Int32)).toUInt32 &&& Int32.toUInt32 31)).toInt32) hx hb dJ6_bitCount_0f7a4_17 rfl ?_
    refine lv_ldcw (v := (858993459 : Int32)) hx hb hown hw_1 dJ6_bitCount_0f7a4_18 ?_
    refine lv_iand hx hb dJ6_bitCount_0f7a4_21 ?_
    refine lv_iadd hx hb dJ6_bitCount_0f7a4_22 ?_
    refine lv_topi (fun z2 ez2 => ?_)
    replace hw := hw z2 ez2
    refine lv_istore_n (lv' := [(0, .int z2)]) hx hb dJ6_bitCount_0f7a4_23 rfl hl (by decide) rfl (fun ls hl => ?_)
    refine lv_iload_n hx hb dJ6_bitCount_0f7a4_24 rfl (lv_at hl 0 rfl) ?_
    refine lv_iload_n hx hb dJ6_bitCount_0f7a4_25 rfl (lv_at hl 0 rfl) ?_
    refine lv_iconst (v := (4 : Int32)) hx hb dJ6_bitCount_0f7a4_26 (by decide) ?_
    refine lv_iushr (v := ((z2).toUInt32 >>> (((4 : Int32)).toUInt32 &&& Int32.toUInt32 31)).toInt32) hx hb dJ6_bitCount_0f7a4_27 rfl ?_
    refine lv_iadd hx hb dJ6_bitCount_0f7a4_28 ?_
    refine lv_ldcw (v := (252645135 : Int32)) hx hb hown hw_2 dJ6_bitCount_0f7a4_29 ?_
    refine lv_iand hx hb dJ6_bitCount_0f7a4_32 ?_
    refine lv_topi (fun z3 ez3 => ?_)
    replace hw := hw z3 ez3
    refine lv_istore_n (lv' := [(0, .int z3)]) hx hb dJ6_bitCount_0f7a4_33 rfl hl (by decide) rfl (fun ls hl => ?_)
    refine lv_iload_n hx hb dJ6_bitCount_0f7a4_34 rfl (lv_at hl 0 rfl) ?_
    refine lv_iload_n hx hb dJ6_bitCount_0f7a4_35 rfl (lv_at hl 0 rfl) ?_
    refine lv_bipush (v := (8 : Int32)) hx hb dJ6_bitCount_0f7a4_36 (by decide) ?_
    refine lv_iushr (v := ((z3).toUInt32 >>> (((8 : Int32)).toUInt32 &&& Int32.toUInt32 31)).toInt32) hx hb dJ6_bitCount_0f7a4_38 rfl ?_
    refine lv_iadd hx hb dJ6_bitCount_0f7a4_39 ?_
    refine lv_istore_n (lv' := [(0, .int (z3 + ((z3).toUInt32 >>> (((8 : Int32)).toUInt32 &&& Int32.toUInt32 31)).toInt32))]) hx hb dJ6_bitCount_0f7a4_40 rfl hl (by decide) rfl (fun ls hl => ?_)
    refine lv_iload_n hx hb dJ6_bitCount_0f7a4_41 rfl (lv_at hl 0 rfl) ?_
    refine lv_iload_n hx hb dJ6_bitCount_0f7a4_42 rfl (lv_at hl 0 rfl) ?_
    refine lv_bipush (v := (16 : Int32)) hx hb dJ6_bitCount_0f7a4_43 (by decide) ?_
    refine lv_iushr (v := (((z3 + ((z3).toUInt32 >>> (((8 : Int32)).toUInt32 &&& Int32.toUInt32 31)).toInt32)).toUInt32 >>> (((16 : Int32)).toUInt32 &&& Int32.toUInt32 31)).toInt32) hx hb dJ6_bitCount_0f7a4_45 rfl ?_
    refine lv_iadd hx hb dJ6_bitCount_0f7a4_46 ?_
    refine lv_topi (fun z4 ez4 => ?_)
    replace hw := hw z4 ez4
    refine lv_istore_n (lv' := [(0, .int z4)]) hx hb dJ6_bitCount_0f7a4_47 rfl hl (by decide) rfl (fun ls hl => ?_)
    refine lv_iload_n hx hb dJ6_bitCount_0f7a4_48 rfl (lv_at hl 0 rfl) ?_
    refine lv_bipush (v := (63 : Int32)) hx hb dJ6_bitCount_0f7a4_49 (by decide) ?_
    refine lv_iand hx hb dJ6_bitCount_0f7a4_51 ?_
    exact W.iret (v := (z4 &&& (63 : Int32))) hx hb hr (x_reti hI hw) hI.2.2.2.2 dJ6_bitCount_0f7a4_52
  exact hgo s.heap [] hI
def rm_X7_power : Room := { frames := 0, cells := 0, slots := 0, locals := 0 }
set_option maxHeartbeats 4000000 in
set_option maxRecDepth 100000 in
theorem c_X7_power (l : Launch) (g : GP) (ad : Nat → Nat) (sz : Nat) (V : VT) (x0 : Int32) (x1 : Int32)  (K : Int64 → VT → Prop) (hw : wp_X7_power V x0 x1 K) : Met l yX7_power wsX7_power rm_X7_power (va_Pc [.int x0, .int x1] (WPre 76 (cX g ad) ad g V sz)) (va_Ql K (WPost 76 (cX g ad) ad g) (AW ad 76 sz)) 0 0 (AW ad 76 sz) := by
  refine Met.ofW (cc := cX7_power) (maxL := 5) (ret := (some .long)) (by decide) rfl ?_
  intro p e s m args below meth c s₁ B hml hv
  obtain ⟨ha, hv⟩ := hv
  obtain rfl := hv.1
  have hI : WI g 76 (cX g ad) ad V s.heap s.heap [] := WI.start hv
  have hK := hv.2.2.1
  have hE := hv.2.2.2.2
  have hx := B.exec
  have hb := B.bytes
  have hr := B.returns
  have hts := atoms_spec (ws := wsX7_power) B.pre
  have hown : s.vm.findClass RX7 = some m.cls := findClass_of_methodNamed B.named
  have hlocks := B.notSynchronized
  have hl := lv_entry ([.int x0, .int x1]) (n := 5) (Nat.le_of_ble_eq_true rfl)
  have hent : entryFrame m args 5 = F0 m 0 ((lg_sl ([.int x0, .int x1]) ++ List.replicate (5 - (lg_sl ([.int x0, .int x1])).length) Slot.unset).toArray) [] := by rw [ha, lg_entry_eq]
  rw [hent]
  generalize (lg_sl ([.int x0, .int x1]) ++ List.replicate (5 - (lg_sl ([.int x0, .int x1])).length) Slot.unset).toArray = ls at hl ⊢
  have hl : lv_has ls 5 [(0, .int x0), (1, .int x1)] := hl
  obtain ⟨H, hH⟩ : ∃ H : Heap, H = s.heap := ⟨_, rfl⟩
  have hL5 : ∀ (n5 : Nat) (V : VT) (H : Heap) (locs : List Loc) (ls : Array Slot) (x0 : Int32) (x1 : Int32) (y2 : Int64) (x4 : Int32), WI g 76 (cX g ad) ad V s.heap H locs → lv_has ls 5 [(0, .int x0), (1, .int x1), (2, .long y2), (4, .int x4)] → wp_X7_power_L5 K  n5 V x0 x1 y2 x4 → W p l e (headSpec wsX7_power rm_X7_power).room s m args below meth c H locs 0 0 (MQ below (va_Ql K (WPost 76 (cX g ad) ad g) (AW ad 76 s.heap.size)) args s 0 0 (AW ad 76 s.heap.size)) (F0 m 5 ls []) := by
    intro n5
    induction n5 with
    | zero => intro V H locs ls x0 x1 y2 x4  hI hl hw; exact False.elim hw
    | succ n5 ihL5 =>
      intro V H locs ls x0 x1 y2 x4  hI hl hw
      refine lv_iload hx hb dX7_power_5 (lv_at hl 3 rfl) ?_
      refine lv_iload_n hx hb dX7_power_7 rfl (lv_at hl 1 rfl) ?_
      refine lv_icmp_ge (tgt := 22) hx hb dX7_power_8 (by decide) (fun c1 => ?_) (fun c1 => ?_)
      · replace hw := hw.1 c1
        refine lv_lload_n hx hb dX7_power_22 rfl (lv_at hl 2 rfl) ?_
        exact W.lret (v := y2) hx hb hr (x_retl hI hw) hI.2.2.2.2 dX7_power_23
      · replace hw := hw.2 c1
        refine lv_lload_n hx hb dX7_power_11 rfl (lv_at hl 2 rfl) ?_
        refine lv_iload_n hx hb dX7_power_12 rfl (lv_at hl 0 rfl) ?_
        refine lv_i2l (v := (x0).toInt64) hx hb dX7_power_13 rfl ?_
        refine lv_lmul hx hb dX7_power_14 ?_
        refine lv_lstore_n (lv' := [(2, .long (y2 * (x0).toInt64)), (0, .int x0), (1, .int x1), (4, .int x4)]) hx hb dX7_power_15 rfl hl (by decide) rfl (fun ls hl => ?_)
        refine lv_iinc (v := (x4 + (1 : Int32))) (lv' := [(4, .int (x4 + (1 : Int32))), (2, .long (y2 * (x0).toInt64)), (0, .int x0), (1, .int x1)]) hx hb dX7_power_16 hl (k := 3) rfl rfl (by decide) rfl (fun ls hl => ?_)
        refine lv_goto (tgt := 5) hx hb dX7_power_19 (by decide) ?_
        exact ihL5 V H locs ls x0 x1 (y2 * (x0).toInt64) (x4 + (1 : Int32)) hI (lv_sub hl [2, 3, 1, 0] rfl) hw
  have hgo : ∀ (H : Heap) (locs : List Loc), WI g 76 (cX g ad) ad V s.heap H locs → W p l e (headSpec wsX7_power rm_X7_power).room s m args below meth c H locs 0 0 (MQ below (va_Ql K (WPost 76 (cX g ad) ad g) (AW ad 76 s.heap.size)) args s 0 0 (AW ad 76 s.heap.size)) (F0 m 0 ls []) := by
    intro H locs hI
    refine lv_lconst (v := (1 : Int64)) hx hb dX7_power_0 (by decide) ?_
    refine lv_lstore_n (lv' := [(2, .long (1 : Int64)), (0, .int x0), (1, .int x1)]) hx hb dX7_power_1 rfl hl (by decide) rfl (fun ls hl => ?_)
    refine lv_iconst (v := (0 : Int32)) hx hb dX7_power_2 (by decide) ?_
    refine lv_istore (lv' := [(4, .int (0 : Int32)), (2, .long (1 : Int64)), (0, .int x0), (1, .int x1)]) hx hb dX7_power_3 hl (by decide) rfl (fun ls hl => ?_)
    obtain ⟨n5, hw⟩ := hw
    exact hL5 n5 V H locs ls x0 x1 (1 : Int64) (0 : Int32) hI (lv_sub hl [2, 3, 1, 0] rfl) hw
  exact hgo s.heap [] hI
def rm_X7_commonDivisor : Room := { frames := 0, cells := 0, slots := 0, locals := 0 }
set_option maxHeartbeats 4000000 in
set_option maxRecDepth 100000 in
theorem c_X7_commonDivisor (l : Launch) (g : GP) (ad : Nat → Nat) (sz : Nat) (V : VT) (y0 : Int64) (y2 : Int64)  (K : Int64 → VT → Prop) (hw : wp_X7_commonDivisor V y0 y2 K) : Met l yX7_commonDivisor wsX7_commonDivisor rm_X7_commonDivisor (va_Pc [.long y0, .long y2] (WPre 76 (cX g ad) ad g V sz)) (va_Ql K (WPost 76 (cX g ad) ad g) (AW ad 76 sz)) 0 0 (AW ad 76 sz) := by
  refine Met.ofW (cc := cX7_commonDivisor) (maxL := 11) (ret := (some .long)) (by decide) rfl ?_
  intro p e s m args below meth c s₁ B hml hv
  obtain ⟨ha, hv⟩ := hv
  obtain rfl := hv.1
  have hI : WI g 76 (cX g ad) ad V s.heap s.heap [] := WI.start hv
  have hK := hv.2.2.1
  have hE := hv.2.2.2.2
  have hx := B.exec
  have hb := B.bytes
  have hr := B.returns
  have hts := atoms_spec (ws := wsX7_commonDivisor) B.pre
  have hown : s.vm.findClass RX7 = some m.cls := findClass_of_methodNamed B.named
  have hlocks := B.notSynchronized
  have hl := lv_entry ([.long y0, .long y2]) (n := 11) (Nat.le_of_ble_eq_true rfl)
  have hent : entryFrame m args 11 = F0 m 0 ((lg_sl ([.long y0, .long y2]) ++ List.replicate (11 - (lg_sl ([.long y0, .long y2])).length) Slot.unset).toArray) [] := by rw [ha, lg_entry_eq]
  rw [hent]
  generalize (lg_sl ([.long y0, .long y2]) ++ List.replicate (11 - (lg_sl ([.long y0, .long y2])).length) Slot.unset).toArray = ls at hl ⊢
  have hl : lv_has ls 11 [(0, .long y0), (2, .long y2)] := hl
  obtain ⟨H, hH⟩ : ∃ H : Heap, H = s.heap := ⟨_, rfl⟩
  have hL9 : ∀ (n9 : Nat) (V : VT) (H : Heap) (locs : List Loc) (ls : Array Slot) (y4 : Int64) (y6 : Int64) (x8 : Int32), WI g 76 (cX g ad) ad V s.heap H locs → lv_has ls 11 [(4, .long y4), (6, .long y6), (8, .int x8)] → wp_X7_commonDivisor_L9 K  n9 V y4 y6 x8 → W p l e (headSpec wsX7_commonDivisor rm_X7_commonDivisor).room s m args below meth c H locs 0 0 (MQ below (va_Ql K (WPost 76 (cX g ad) ad g) (AW ad 76 s.heap.size)) args s 0 0 (AW ad 76 s.heap.size)) (F0 m 9 ls []) := by
    intro n9
    induction n9 with
    | zero => intro V H locs ls y4 y6 x8  hI hl hw; exact False.elim hw
    | succ n9 ihL9 =>
      intro V H locs ls y4 y6 x8  hI hl hw
      refine lv_iload hx hb dX7_commonDivisor_9 (lv_at hl 2 rfl) ?_
      refine lv_sipush (v := (1000 : Int32)) hx hb dX7_commonDivisor_11 (by decide) ?_
      refine lv_icmp_ge (tgt := 45) hx hb dX7_commonDivisor_14 (by decide) (fun c1 => ?_) (fun c1 => ?_)
      · replace hw := hw.1 c1
        refine lv_lload hx hb dX7_commonDivisor_45 (lv_at hl 0 rfl) ?_
        exact W.lret (v := y4) hx hb hr (x_retl hI hw) hI.2.2.2.2 dX7_commonDivisor_47
      · replace hw := hw.2 c1
        refine lv_lload hx hb dX7_commonDivisor_17 (lv_at hl 1 rfl) ?_
        refine lv_lconst (v := (0 : Int64)) hx hb dX7_commonDivisor_19 (by decide) ?_
        refine W.lcmp hx hb dX7_commonDivisor_20 ?_
        refine lv_if_eq (tgt := 45) hx hb dX7_commonDivisor_21 (by decide) (fun c2 => ?_) (fun c2 => ?_)
        · replace hw := hw.1 c2
          refine lv_lload hx hb dX7_commonDivisor_45 (lv_at hl 0 rfl) ?_
          exact W.lret (v := y4) hx hb hr (x_retl hI hw) hI.2.2.2.2 dX7_commonDivisor_47
        · replace hw := hw.2 c2
          refine lv_lload hx hb dX7_commonDivisor_24 (lv_at hl 0 rfl) ?_
          refine lv_lload hx hb dX7_commonDivisor_26 (lv_at hl 1 rfl) ?_
          obtain ⟨h3, hw⟩ := hw
          refine lv_lrem hx hb dX7_commonDivisor_28 h3 ?_
          refine lv_lstore (lv' := [(9, .long (y4 - y4 / y6 * y6)), (4, .long y4), (6, .long y6), (8, .int x8)]) hx hb dX7_commonDivisor_29 hl (by decide) rfl (fun ls hl => ?_)
          refine lv_lload hx hb dX7_commonDivisor_31 (lv_at hl 2 rfl) ?_
          refine lv_lstore (lv' := [(4, .long y6), (9, .long (y4 - y4 / y6 * y6)), (6, .long y6), (8, .int x8)]) hx hb dX7_commonDivisor_33 hl (by decide) rfl (fun ls hl => ?_)
          refine lv_lload hx hb dX7_commonDivisor_35 (lv_at hl 1 rfl) ?_
          refine lv_lstore (lv' := [(6, .long (y4 - y4 / y6 * y6)), (4, .long y6), (9, .long (y4 - y4 / y6 * y6)), (8, .int x8)]) hx hb dX7_commonDivisor_37 hl (by decide) rfl (fun ls hl => ?_)
          refine lv_iinc (v := (x8 + (1 : Int32))) (lv' := [(8, .int (x8 + (1 : Int32))), (6, .long (y4 - y4 / y6 * y6)), (4, .long y6), (9, .long (y4 - y4 / y6 * y6))]) hx hb dX7_commonDivisor_39 hl (k := 3) rfl rfl (by decide) rfl (fun ls hl => ?_)
          refine lv_goto (tgt := 9) hx hb dX7_commonDivisor_42 (by decide) ?_
          exact ihL9 V H locs ls y6 (y4 - y4 / y6 * y6) (x8 + (1 : Int32)) hI (lv_sub hl [2, 1, 0] rfl) hw
  have hgo : ∀ (H : Heap) (locs : List Loc), WI g 76 (cX g ad) ad V s.heap H locs → W p l e (headSpec wsX7_commonDivisor rm_X7_commonDivisor).room s m args below meth c H locs 0 0 (MQ below (va_Ql K (WPost 76 (cX g ad) ad g) (AW ad 76 s.heap.size)) args s 0 0 (AW ad 76 s.heap.size)) (F0 m 0 ls []) := by
    intro H locs hI
    refine lv_lload_n hx hb dX7_commonDivisor_0 rfl (lv_at hl 0 rfl) ?_
    refine lv_lstore (lv' := [(4, .long y0), (0, .long y0), (2, .long y2)]) hx hb dX7_commonDivisor_1 hl (by decide) rfl (fun ls hl => ?_)
    refine lv_lload_n hx hb dX7_commonDivisor_3 rfl (lv_at hl 2 rfl) ?_
    refine lv_lstore (lv' := [(6, .long y2), (4, .long y0), (0, .long y0), (2, .long y2)]) hx hb dX7_commonDivisor_4 hl (by decide) rfl (fun ls hl => ?_)
    refine lv_iconst (v := (0 : Int32)) hx hb dX7_commonDivisor_6 (by decide) ?_
    refine lv_istore (lv' := [(8, .int (0 : Int32)), (6, .long y2), (4, .long y0), (0, .long y0), (2, .long y2)]) hx hb dX7_commonDivisor_7 hl (by decide) rfl (fun ls hl => ?_)
    obtain ⟨n9, hw⟩ := hw
    exact hL9 n9 V H locs ls y0 y2 (0 : Int32) hI (lv_sub hl [2, 1, 0] rfl) hw
  exact hgo s.heap [] hI
def rm_X7_miss : Room := { frames := 5, cells := 0, slots := 0, locals := 108 }
set_option maxHeartbeats 4000000 in
set_option maxRecDepth 100000 in
theorem c_X7_miss (l : Launch) (g : GP) (ad : Nat → Nat) (sz : Nat) (V : VT) (x1 : Int32) (x2 : Int32) (x3 : Int32) (x4 : Int32) (x5 : Int32)  (K : Int64 → VT → Prop) (hw : wp_X7_miss V x1 x2 x3 x4 x5 K) : Met l yX7_miss wsX7_miss rm_X7_miss (va_Pc [.ref (ad 0), .int x1, .int x2, .int x3, .int x4, .int x5] (WPre 76 (cX g ad) ad g V sz)) (va_Ql K (WPost 76 (cX g ad) ad g) (AW ad 76 sz)) 0 0 (AW ad 76 sz) := by
  refine Met.ofW (cc := cX7_miss) (maxL := 15) (ret := (some .long)) (by decide) rfl ?_
  intro p e s m args below meth c s₁ B hml hv
  obtain ⟨ha, hv⟩ := hv
  obtain rfl := hv.1
  have hI : WI g 76 (cX g ad) ad V s.heap s.heap [] := WI.start hv
  have hK := hv.2.2.1
  have hE := hv.2.2.2.2
  have hx := B.exec
  have hb := B.bytes
  have hr := B.returns
  have hts := atoms_spec (ws := wsX7_miss) B.pre
  have hown : s.vm.findClass RX7 = some m.cls := findClass_of_methodNamed B.named
  have hlocks := B.notSynchronized
  have hw_0 := hts (.fieldLink RX7 22 "HoopLane" "lane" "LHoopLane$Lane;") (by decide +kernel)
  have hw_1 := hts (.fieldLink RX7 11 "HoopLane" "rows" "[LHoopLane$Row;") (by decide +kernel)
  have hw_2 := hts (.constant RX7 196 (-1000000)) (by decide +kernel)
  have hw_3 := hts (.fieldLink RX7 68 "HoopLane" "status" "I") (by decide +kernel)
  have hw_4 := hts (.constantLong RX7 236 (-1000002)) (by decide +kernel)
  have hw_5 := hts (.constantLong RX7 238 (-1000001)) (by decide +kernel)
  have hw_6 := hts (.constantLong RX7 257 (-1000000)) (by decide +kernel)
  have hin7 : ∀ w ∈ wsX70, w ∈ wsX7_miss := by decide +kernel
  have hl := lv_entry ([.ref (ad 0), .int x1, .int x2, .int x3, .int x4, .int x5]) (n := 15) (Nat.le_of_ble_eq_true rfl)
  have hent : entryFrame m args 15 = F0 m 0 ((lg_sl ([.ref (ad 0), .int x1, .int x2, .int x3, .int x4, .int x5]) ++ List.replicate (15 - (lg_sl ([.ref (ad 0), .int x1, .int x2, .int x3, .int x4, .int x5])).length) Slot.unset).toArray) [] := by rw [ha, lg_entry_eq]
  rw [hent]
  generalize (lg_sl ([.ref (ad 0), .int x1, .int x2, .int x3, .int x4, .int x5]) ++ List.replicate (15 - (lg_sl ([.ref (ad 0), .int x1, .int x2, .int x3, .int x4, .int x5])).length) Slot.unset).toArray = ls at hl ⊢
  have hl : lv_has ls 15 [(0, .ref (ad 0)), (1, .int x1), (2, .int x2), (3, .int x3), (4, .int x4), (5, .int x5)] := hl
  obtain ⟨H, hH⟩ : ∃ H : Heap, H = s.heap := ⟨_, rfl⟩
  have hL128 : ∀ (n128 : Nat) (V : VT) (H : Heap) (locs : List Loc) (ls : Array Slot) (x2 : Int32) (x3 : Int32) (x4 : Int32) (x5 : Int32) (k6 : Nat) (x8 : Int32) (y9 : Int64) (x11 : Int32), kX k6 = 5 → WI g 76 (cX g ad) ad V s.heap H locs → lv_has ls 15 [(0, .ref (ad 0)), (2, .int x2), (3, .int x3), (4, .int x4), (5, .int x5), (6, .ref (ad k6)), (8, .int x8), (9, .long y9), (11, .int x11)] → wp_X7_miss_L128 K  n128 V x2 x3 x4 x5 k6 x8 y9 x11 → W p l e (headSpec wsX7_miss rm_X7_miss).room s m args below meth c H locs 0 0 (MQ below (va_Ql K (WPost 76 (cX g ad) ad g) (AW ad 76 s.heap.size)) args s 0 0 (AW ad 76 s.heap.size)) (F0 m 128 ls []) := by
    intro n128
    induction n128 with
    | zero => intro V H locs ls x2 x3 x4 x5 k6 x8 y9 x11 hk6 hI hl hw; exact False.elim hw
    | succ n128 ihL128 =>
      have hb183 : ∀ (V : VT) (H : Heap) (locs : List Loc) (ls : Array Slot) (x2 : Int32) (x3 : Int32) (x4 : Int32) (x5 : Int32) (k6 : Nat) (x8 : Int32) (y9 : Int64) (x11 : Int32), kX k6 = 5 → WI g 76 (cX g ad) ad V s.heap H locs → lv_has ls 15 [(0, .ref (ad 0)), (2, .int x2), (3, .int x3), (4, .int x4), (5, .int x5), (6, .ref (ad k6)), (8, .int x8), (9, .long y9), (11, .int x11)] → wp_X7_miss_b183 K (wp_X7_miss_L128 K  n128) V x2 x3 x4 x5 k6 x8 y9 x11 → W p l e (headSpec wsX7_miss rm_X7_miss).room s m args below meth c H locs 0 0 (MQ below (va_Ql K (WPost 76 (cX g ad) ad g) (AW ad 76 s.heap.size)) args s 0 0 (AW ad 76 s.heap.size)) (F0 m 183 ls []) := by
        intro V H locs ls x2 x3 x4 x5 k6 x8 y9 x11 hk6 hI hl hw
        refine lv_iinc (v := (x11 + (1 : Int32))) (lv' := [(11, .int (x11 + (1 : Int32))), (0, .ref (ad 0)), (2, .int x2), (3, .int x3), (4, .int x4), (5, .int x5), (6, .ref (ad k6)), (8, .int x8), (9, .long y9)]) hx hb dX7_miss_183 hl (k := 8) rfl rfl (by decide) rfl (fun ls hl => ?_)
        refine lv_goto (tgt := 128) hx hb dX7_miss_186 (by decide) ?_
        exact ihL128 V H locs ls x2 x3 x4 x5 k6 x8 y9 (x11 + (1 : Int32)) hk6 hI (lv_sub hl [1, 2, 3, 4, 5, 6, 7, 8, 0] rfl) hw
      intro V H locs ls x2 x3 x4 x5 k6 x8 y9 x11 hk6 hI hl hw
      refine lv_iload hx hb dX7_miss_128 (lv_at hl 8 rfl) ?_
      refine lv_iconst (v := (1 : Int32)) hx hb dX7_miss_130 (by decide) ?_
      refine lv_iload hx hb dX7_miss_131 (lv_at hl 6 rfl) ?_
      refine lv_ishl hx hb dX7_miss_133 ?_
      refine lv_icmp_ge (tgt := 189) hx hb dX7_miss_134 (by decide) (fun c27 => ?_) (fun c27 => ?_)
      · replace hw := hw.1 c27
        refine lv_bipush (v := (10 : Int32)) hx hb dX7_miss_189 (by decide) ?_
        refine lv_iload hx hb dX7_miss_191 (lv_at hl 6 rfl) ?_
        refine x_aftl (va_runS (As := [.int (10 : Int32), .int x8]) (rest := []) ⟨hx, hb, hml, hown, hts⟩ (c_X7_power l g ad H.size V (10 : Int32) x8 _ hw) (cwS 2 hts gX7_miss_X7_power rfl rfl rfl (by decide +kernel) ⟨Nat.le_of_ble_eq_true rfl, Nat.le_of_ble_eq_true rfl⟩) (x_preS hK hE hI) rfl rfl hl.1 rfl (lv_room (Nat.le_of_ble_eq_true rfl)) dX7_miss_193 ⟨Nat.zero_le _, Nat.zero_le _⟩) hI (fun r29 V28 H locs hw hI => ?_)
        refine lv_lstore (lv' := [(11, .long r29), (0, .ref (ad 0)), (2, .int x2), (3, .int x3), (4, .int x4), (5, .int x5), (6, .ref (ad k6)), (8, .int x8), (9, .long y9)]) hx hb dX7_miss_196 hl (by decide) rfl (fun ls hl => ?_)
        refine lv_lload hx hb dX7_miss_198 (lv_at hl 0 rfl) ?_
        refine lv_lload hx hb dX7_miss_200 (lv_at hl 8 rfl) ?_
        refine x_aftl (va_runS (As := [.long r29, .long y9]) (rest := []) ⟨hx, hb, hml, hown, hts⟩ (c_X7_commonDivisor l g ad H.size V28 r29 y9 _ hw) (cwS 2 hts gX7_miss_X7_commonDivisor rfl rfl rfl (by decide +kernel) ⟨Nat.le_of_ble_eq_true rfl, Nat.le_of_ble_eq_true rfl⟩) (x_preS hK hE hI) rfl rfl hl.1 rfl (lv_room (Nat.le_of_ble_eq_true rfl)) dX7_miss_202 ⟨Nat.zero_le _, Nat.zero_le _⟩) hI (fun r31 V30 H locs hw hI => ?_)
        refine lv_lstore (lv' := [(13, .long r31), (11, .long r29), (0, .ref (ad 0)), (2, .int x2), (3, .int x3), (4, .int x4), (5, .int x5), (6, .ref (ad k6)), (8, .int x8), (9, .long y9)]) hx hb dX7_miss_205 hl (by decide) rfl (fun ls hl => ?_)
        refine lv_lload hx hb dX7_miss_207 (lv_at hl 0 rfl) ?_
        refine lv_lconst (v := (0 : Int64)) hx hb dX7_miss_209 (by decide) ?_
        refine W.lcmp hx hb dX7_miss_210 ?_
        refine lv_if_ne (tgt := 218) hx hb dX7_miss_211 (by decide) (fun c32 => ?_) (fun c32 => ?_)
        · replace hw := hw.1 c32
          refine lv_iload hx hb dX7_miss_218 (lv_at hl 6 rfl) ?_
          refine lv_if_ne (tgt := 231) hx hb dX7_miss_220 (by decide) (fun c33 => ?_) (fun c33 => ?_)
          · replace hw := hw.1 c33
            refine lv_lload hx hb dX7_miss_231 (lv_at hl 1 rfl) ?_
            refine lv_lload hx hb dX7_miss_233 (lv_at hl 0 rfl) ?_
            obtain ⟨h34, hw⟩ := hw
            refine lv_ldiv hx hb dX7_miss_235 h34 ?_
            exact W.lret (v := (r29 / r31)) hx hb hr (x_retl hI hw) hI.2.2.2.2 dX7_miss_236
          · replace hw := hw.2 c33
            refine lv_lload hx hb dX7_miss_223 (lv_at hl 9 rfl) ?_
            refine lv_lload hx hb dX7_miss_225 (lv_at hl 0 rfl) ?_
            obtain ⟨h35, hw⟩ := hw
            refine lv_ldiv hx hb dX7_miss_227 h35 ?_
            refine lv_goto (tgt := 236) hx hb dX7_miss_228 (by decide) ?_
            exact W.lret (v := (y9 / r31)) hx hb hr (x_retl hI hw) hI.2.2.2.2 dX7_miss_236
        · replace hw := hw.2 c32
          refine lv_ldc2 (v := (-1000000 : Int64)) hx hb hown hw_6 dX7_miss_214 ?_
          exact W.lret (v := (-1000000 : Int64)) hx hb hr (x_retl hI hw) hI.2.2.2.2 dX7_miss_217
      · replace hw := hw.2 c27
        refine lv_aload_n hx hb dX7_miss_137 rfl (lv_at hl 0 rfl) ?_
        refine lv_iload hx hb dX7_miss_138 (lv_at hl 8 rfl) ?_
        refine lv_aload hx hb dX7_miss_140 (lv_at hl 5 rfl) ?_
        refine lv_iload_n hx hb dX7_miss_142 rfl (lv_at hl 1 rfl) ?_
        refine lv_iload_n hx hb dX7_miss_143 rfl (lv_at hl 2 rfl) ?_
        refine x_afti (va_runV (As := [.int x11, .ref (ad k6), .int x2, .int x3]) (rest := []) ⟨hx, hb, hml, hown, hts⟩ (c_X7_isHomeIf l g ad H.size V x11 k6 x2 x3 hk6 _ hw) (cwV 4 hts gX7_miss_X7_isHomeIf rfl rfl rfl (by decide +kernel) ⟨Nat.le_of_ble_eq_true rfl, Nat.le_of_ble_eq_true rfl⟩) (x_preV (k := 0) hK hE hI (by decide) (cX_7 (by decide)) rfl) rfl rfl hl.1 rfl (lv_room (Nat.le_of_ble_eq_true rfl)) dX7_miss_144 ⟨Nat.zero_le _, Nat.zero_le _⟩) hI (fun r37 V36 H locs hw hI => ?_)
        refine lv_if_eq (tgt := 183) hx hb dX7_miss_147 (by decide) (fun c38 => ?_) (fun c38 => ?_)
        · replace hw := hw.1 c38
          exact hb183 V36 H locs ls x2 x3 x4 x5 k6 x8 y9 x11 hk6 hI (lv_sub hl [0, 1, 2, 3, 4, 5, 6, 7, 8] rfl) hw
        · replace hw := hw.2 c38
          refine lv_iload hx hb dX7_miss_150 (lv_at hl 8 rfl) ?_
          refine x_afti (va_runS (As := [.int x11]) (rest := []) ⟨hx, hb, hml, hown, hts⟩ (c_J6_bitCount_0f7a4 l g ad H.size V36 x11 _ hw) (va_cwS 1 hts gX7_miss_J6_bitCount_0f7a4 rfl rfl rfl (by decide +kernel) ⟨Nat.le_of_ble_eq_true rfl, Nat.le_of_ble_eq_true rfl⟩) (x_preS hK hE hI) rfl rfl hl.1 rfl (lv_room (Nat.le_of_ble_eq_true rfl)) dX7_miss_152 ⟨Nat.zero_le _, Nat.zero_le _⟩) hI (fun r40 V39 H locs hw hI => ?_)
          refine lv_istore (lv' := [(12, .int r40), (0, .ref (ad 0)), (2, .int x2), (3, .int x3), (4, .int x4), (5, .int x5), (6, .ref (ad k6)), (8, .int x8), (9, .long y9), (11, .int x11)]) hx hb dX7_miss_155 hl (by decide) rfl (fun ls hl => ?_)
          refine lv_lload hx hb dX7_miss_157 (lv_at hl 8 rfl) ?_
          refine lv_iload hx hb dX7_miss_159 (lv_at hl 4 rfl) ?_
          refine lv_iload hx hb dX7_miss_161 (lv_at hl 0 rfl) ?_
          refine x_aftl (va_runS (As := [.int x4, .int r40]) (rest := [.long y9]) ⟨hx, hb, hml, hown, hts⟩ (c_X7_power l g ad H.size V39 x4 r40 _ hw) (cwS 2 hts gX7_miss_X7_power rfl rfl rfl (by decide +kernel) ⟨Nat.le_of_ble_eq_true rfl, Nat.le_of_ble_eq_true rfl⟩) (x_preS hK hE hI) rfl rfl hl.1 rfl (lv_room (Nat.le_of_ble_eq_true rfl)) dX7_miss_163 ⟨Nat.zero_le _, Nat.zero_le _⟩) hI (fun r42 V41 H locs hw hI => ?_)
          refine lv_bipush (v := (10 : Int32)) hx hb dX7_miss_166 (by decide) ?_
          refine lv_iload hx hb dX7_miss_168 (lv_at hl 4 rfl) ?_
          refine lv_isub hx hb dX7_miss_170 ?_
          refine lv_iload hx hb dX7_miss_171 (lv_at hl 7 rfl) ?_
          refine lv_iload hx hb dX7_miss_173 (lv_at hl 0 rfl) ?_
          refine lv_isub hx hb dX7_miss_175 ?_
          refine x_aftl (va_runS (As := [.int ((10 : Int32) - x4), .int (x8 - r40)]) (rest := [.long r42, .long y9]) ⟨hx, hb, hml, hown, hts⟩ (c_X7_power l g ad H.size V41 ((10 : Int32) - x4) (x8 - r40) _ hw) (cwS 2 hts gX7_miss_X7_power rfl rfl rfl (by decide +kernel) ⟨Nat.le_of_ble_eq_true rfl, Nat.le_of_ble_eq_true rfl⟩) (x_preS hK hE hI) rfl rfl hl.1 rfl (lv_room (Nat.le_of_ble_eq_true rfl)) dX7_miss_176 ⟨Nat.zero_le _, Nat.zero_le _⟩) hI (fun r44 V43 H locs hw hI => ?_)
          refine lv_lmul hx hb dX7_miss_179 ?_
          refine lv_ladd hx hb dX7_miss_180 ?_
          refine lv_lstore (lv' := [(9, .long (y9 + (r42 * r44))), (12, .int r40), (0, .ref (ad 0)), (2, .int x2), (3, .int x3), (4, .int x4), (5, .int x5), (6, .ref (ad k6)), (8, .int x8), (11, .int x11)]) hx hb dX7_miss_181 hl (by decide) rfl (fun ls hl => ?_)
          exact hb183 V43 H locs ls x2 x3 x4 x5 k6 x8 (y9 + (r42 * r44)) x11 hk6 hI (lv_sub hl [2, 3, 4, 5, 6, 7, 8, 0, 9] rfl) hw
  have hb113 : ∀ (V : VT) (H : Heap) (locs : List Loc) (ls : Array Slot) , WI g 76 (cX g ad) ad V s.heap H locs → lv_has ls 15 [] → wp_X7_miss_b113 K  V  → W p l e (headSpec wsX7_miss rm_X7_miss).room s m args below meth c H locs 0 0 (MQ below (va_Ql K (WPost 76 (cX g ad) ad g) (AW ad 76 s.heap.size)) args s 0 0 (AW ad 76 s.heap.size)) (F0 m 113 ls []) := by
    intro V H locs ls   hI hl hw
    refine lv_ldc2 (v := (-1000001 : Int64)) hx hb hown hw_5 dX7_miss_113 ?_
    exact W.lret (v := (-1000001 : Int64)) hx hb hr (x_retl hI hw) hI.2.2.2.2 dX7_miss_116
  have hb55 : ∀ (V : VT) (H : Heap) (locs : List Loc) (ls : Array Slot) , WI g 76 (cX g ad) ad V s.heap H locs → lv_has ls 15 [] → wp_X7_miss_b55 K  V  → W p l e (headSpec wsX7_miss rm_X7_miss).room s m args below meth c H locs 0 0 (MQ below (va_Ql K (WPost 76 (cX g ad) ad g) (AW ad 76 s.heap.size)) args s 0 0 (AW ad 76 s.heap.size)) (F0 m 55 ls []) := by
    intro V H locs ls   hI hl hw
    refine lv_ldc2 (v := (-1000001 : Int64)) hx hb hown hw_5 dX7_miss_55 ?_
    exact W.lret (v := (-1000001 : Int64)) hx hb hr (x_retl hI hw) hI.2.2.2.2 dX7_miss_58
  have hgo : ∀ (H : Heap) (locs : List Loc), WI g 76 (cX g ad) ad V s.heap H locs → W p l e (headSpec wsX7_miss rm_X7_miss).room s m args below meth c H locs 0 0 (MQ below (va_Ql K (WPost 76 (cX g ad) ad g) (AW ad 76 s.heap.size)) args s 0 0 (AW ad 76 s.heap.size)) (F0 m 0 ls []) := by
    intro H locs hI
    refine lv_aload_n hx hb dX7_miss_0 rfl (lv_at hl 0 rfl) ?_
    refine xg7_2 (k := 0) hx hb hts hin7 hown hK hI (by decide) hw_0 dX7_miss_1 ?_
    refine x_afti (va_runV (As := []) (rest := []) ⟨hx, hb, hml, hown, hts⟩ (c_X3_isThere l g ad H.size V 16 (by decide) _ hw) (cwV 0 hts gX7_miss_X3_isThere rfl rfl rfl (by decide +kernel) ⟨Nat.le_of_ble_eq_true rfl, Nat.le_of_ble_eq_true rfl⟩) (x_preV (k := 16) hK hE hI (by decide) (cX_3 (by decide)) rfl) rfl rfl hl.1 rfl (lv_room (Nat.le_of_ble_eq_true rfl)) dX7_miss_4 ⟨Nat.zero_le _, Nat.zero_le _⟩) hI (fun r2 V1 H locs hw hI => ?_)
    refine lv_if_ne (tgt := 14) hx hb dX7_miss_7 (by decide) (fun c3 => ?_) (fun c3 => ?_)
    · replace hw := hw.1 c3
      refine lv_iload_n hx hb dX7_miss_14 rfl (lv_at hl 1 rfl) ?_
      refine lv_iconst (v := (0 : Int32)) hx hb dX7_miss_15 (by decide) ?_
      refine lv_bipush (v := (7 : Int32)) hx hb dX7_miss_16 (by decide) ?_
      refine x_afti (va_runS (As := [.int x1, .int (0 : Int32), .int (7 : Int32)]) (rest := []) ⟨hx, hb, hml, hown, hts⟩ (c_X7_isOut l g ad H.size V1 x1 (0 : Int32) (7 : Int32) _ hw) (cwS 3 hts gX7_miss_X7_isOut rfl rfl rfl (by decide +kernel) ⟨Nat.le_of_ble_eq_true rfl, Nat.le_of_ble_eq_true rfl⟩) (x_preS hK hE hI) rfl rfl hl.1 rfl (lv_room (Nat.le_of_ble_eq_true rfl)) dX7_miss_18 ⟨Nat.zero_le _, Nat.zero_le _⟩) hI (fun r5 V4 H locs hw hI => ?_)
      refine lv_if_ne (tgt := 55) hx hb dX7_miss_21 (by decide) (fun c6 => ?_) (fun c6 => ?_)
      · replace hw := hw.1 c6
        exact hb55 V4 H locs ls  hI (lv_sub hl [] rfl) hw
      · replace hw := hw.2 c6
        refine lv_iload_n hx hb dX7_miss_24 rfl (lv_at hl 3 rfl) ?_
        refine lv_iconst (v := (1 : Int32)) hx hb dX7_miss_25 (by decide) ?_
        refine lv_bipush (v := (24 : Int32)) hx hb dX7_miss_26 (by decide) ?_
        refine x_afti (va_runS (As := [.int x3, .int (1 : Int32), .int (24 : Int32)]) (rest := []) ⟨hx, hb, hml, hown, hts⟩ (c_X7_isOut l g ad H.size V4 x3 (1 : Int32) (24 : Int32) _ hw) (cwS 3 hts gX7_miss_X7_isOut rfl rfl rfl (by decide +kernel) ⟨Nat.le_of_ble_eq_true rfl, Nat.le_of_ble_eq_true rfl⟩) (x_preS hK hE hI) rfl rfl hl.1 rfl (lv_room (Nat.le_of_ble_eq_true rfl)) dX7_miss_28 ⟨Nat.zero_le _, Nat.zero_le _⟩) hI (fun r8 V7 H locs hw hI => ?_)
        refine lv_if_ne (tgt := 55) hx hb dX7_miss_31 (by decide) (fun c9 => ?_) (fun c9 => ?_)
        · replace hw := hw.1 c9
          exact hb55 V7 H locs ls  hI (lv_sub hl [] rfl) hw
        · replace hw := hw.2 c9
          refine lv_iload hx hb dX7_miss_34 (lv_at hl 4 rfl) ?_
          refine lv_iconst (v := (0 : Int32)) hx hb dX7_miss_36 (by decide) ?_
          refine lv_bipush (v := (10 : Int32)) hx hb dX7_miss_37 (by decide) ?_
          refine x_afti (va_runS (As := [.int x4, .int (0 : Int32), .int (10 : Int32)]) (rest := []) ⟨hx, hb, hml, hown, hts⟩ (c_X7_isOut l g ad H.size V7 x4 (0 : Int32) (10 : Int32) _ hw) (cwS 3 hts gX7_miss_X7_isOut rfl rfl rfl (by decide +kernel) ⟨Nat.le_of_ble_eq_true rfl, Nat.le_of_ble_eq_true rfl⟩) (x_preS hK hE hI) rfl rfl hl.1 rfl (lv_room (Nat.le_of_ble_eq_true rfl)) dX7_miss_39 ⟨Nat.zero_le _, Nat.zero_le _⟩) hI (fun r11 V10 H locs hw hI => ?_)
          refine lv_if_ne (tgt := 55) hx hb dX7_miss_42 (by decide) (fun c12 => ?_) (fun c12 => ?_)
          · replace hw := hw.1 c12
            exact hb55 V10 H locs ls  hI (lv_sub hl [] rfl) hw
          · replace hw := hw.2 c12
            refine lv_iload hx hb dX7_miss_45 (lv_at hl 5 rfl) ?_
            refine lv_iconst (v := (0 : Int32)) hx hb dX7_miss_47 (by decide) ?_
            refine lv_iconst (v := (1 : Int32)) hx hb dX7_miss_48 (by decide) ?_
            refine x_afti (va_runS (As := [.int x5, .int (0 : Int32), .int (1 : Int32)]) (rest := []) ⟨hx, hb, hml, hown, hts⟩ (c_X7_isOut l g ad H.size V10 x5 (0 : Int32) (1 : Int32) _ hw) (cwS 3 hts gX7_miss_X7_isOut rfl rfl rfl (by decide +kernel) ⟨Nat.le_of_ble_eq_true rfl, Nat.le_of_ble_eq_true rfl⟩) (x_preS hK hE hI) rfl rfl hl.1 rfl (lv_room (Nat.le_of_ble_eq_true rfl)) dX7_miss_49 ⟨Nat.zero_le _, Nat.zero_le _⟩) hI (fun r14 V13 H locs hw hI => ?_)
            refine lv_if_eq (tgt := 59) hx hb dX7_miss_52 (by decide) (fun c15 => ?_) (fun c15 => ?_)
            · replace hw := hw.1 c15
              refine lv_aload_n hx hb dX7_miss_59 rfl (lv_at hl 0 rfl) ?_
              refine xg7_0 (k := 0) hx hb hts hin7 hown hK hI (by decide) hw_1 dX7_miss_60 ?_
              refine lv_iload_n hx hb dX7_miss_63 rfl (lv_at hl 1 rfl) ?_
              obtain ⟨h16, hw⟩ := hw
              refine x_aald (k := 1) (n := 8) (q := ad (36 + 2 * (x1).toNatClampNeg)) hx hb hK hI (by decide) 4 rfl rfl h16 rfl dX7_miss_64 ?_
              refine lv_astore (lv' := [(6, .ref (ad (36 + 2 * (x1).toNatClampNeg))), (0, .ref (ad 0)), (1, .int x1), (2, .int x2), (3, .int x3), (4, .int x4), (5, .int x5)]) hx hb dX7_miss_65 hl (by decide) rfl (fun ls hl => ?_)
              refine lv_aload hx hb dX7_miss_67 (lv_at hl 0 rfl) ?_
              refine lv_iload_n hx hb dX7_miss_69 rfl (lv_at hl 3 rfl) ?_
              refine lv_iload_n hx hb dX7_miss_70 rfl (lv_at hl 4 rfl) ?_
              refine x_afti (va_runV (As := [.int x2, .int x3]) (rest := []) ⟨hx, hb, hml, hown, hts⟩ (c_X5_findingAt l g ad H.size V13 (36 + 2 * (x1).toNatClampNeg) x2 x3 (kX_at13 h16) _ hw) (cwV 2 hts gX7_miss_X5_findingAt rfl rfl rfl (by decide +kernel) ⟨Nat.le_of_ble_eq_true rfl, Nat.le_of_ble_eq_true rfl⟩) (x_preV (k := (36 + 2 * (x1).toNatClampNeg)) hK hE hI (kX_lt (kX_at13 h16) (by decide)) (cX_5 (kX_at13 h16)) rfl) rfl rfl hl.1 rfl (lv_room (Nat.le_of_ble_eq_true rfl)) dX7_miss_71 ⟨Nat.zero_le _, Nat.zero_le _⟩) hI (fun r18 V17 H locs hw hI => ?_)
              refine lv_istore (lv' := [(7, .int r18), (6, .ref (ad (36 + 2 * (x1).toNatClampNeg))), (0, .ref (ad 0)), (1, .int x1), (2, .int x2), (3, .int x3), (4, .int x4), (5, .int x5)]) hx hb dX7_miss_74 hl (by decide) rfl (fun ls hl => ?_)
              refine lv_iload hx hb dX7_miss_76 (lv_at hl 0 rfl) ?_
              refine lv_if_eq (tgt := 89) hx hb dX7_miss_78 (by decide) (fun c19 => ?_) (fun c19 => ?_)
              · replace hw := hw.1 c19
                refine lv_aload_n hx hb dX7_miss_89 rfl (lv_at hl 2 rfl) ?_
                refine lv_aload hx hb dX7_miss_90 (lv_at hl 1 rfl) ?_
                refine lv_iload_n hx hb dX7_miss_92 rfl (lv_at hl 4 rfl) ?_
                refine lv_iload_n hx hb dX7_miss_93 rfl (lv_at hl 5 rfl) ?_
                refine x_afti (va_runV (As := [.ref (ad (36 + 2 * (x1).toNatClampNeg)), .int x2, .int x3]) (rest := []) ⟨hx, hb, hml, hown, hts⟩ (c_X7_tapsIn l g ad H.size V17 (36 + 2 * (x1).toNatClampNeg) x2 x3 (kX_at13 h16) _ hw) (cwV 3 hts gX7_miss_X7_tapsIn rfl rfl rfl (by decide +kernel) ⟨Nat.le_of_ble_eq_true rfl, Nat.le_of_ble_eq_true rfl⟩) (x_preV (k := 0) hK hE hI (by decide) (cX_7 (by decide)) rfl) rfl rfl hl.1 rfl (lv_room (Nat.le_of_ble_eq_true rfl)) dX7_miss_94 ⟨Nat.zero_le _, Nat.zero_le _⟩) hI (fun r21 V20 H locs hw hI => ?_)
                refine lv_istore (lv' := [(8, .int r21), (7, .int r18), (6, .ref (ad (36 + 2 * (x1).toNatClampNeg))), (0, .ref (ad 0)), (1, .int x1), (2, .int x2), (3, .int x3), (4, .int x4), (5, .int x5)]) hx hb dX7_miss_97 hl (by decide) rfl (fun ls hl => ?_)
                refine lv_iload hx hb dX7_miss_99 (lv_at hl 0 rfl) ?_
                refine lv_ldc (v := (-1000000 : Int32)) hx hb hown hw_2 dX7_miss_101 ?_
                refine lv_icmp_eq (tgt := 113) hx hb dX7_miss_103 (by decide) (fun c22 => ?_) (fun c22 => ?_)
                · replace hw := hw.1 c22
                  exact hb113 V20 H locs ls  hI (lv_sub hl [] rfl) hw
                · replace hw := hw.2 c22
                  refine lv_iload hx hb dX7_miss_106 (lv_at hl 0 rfl) ?_
                  refine lv_bipush (v := (8 : Int32)) hx hb dX7_miss_108 (by decide) ?_
                  refine lv_icmp_le (tgt := 117) hx hb dX7_miss_110 (by decide) (fun c23 => ?_) (fun c23 => ?_)
                  · replace hw := hw.1 c23
                    refine lv_aload_n hx hb dX7_miss_117 rfl (lv_at hl 3 rfl) ?_
                    refine lv_iconst (v := (0 : Int32)) hx hb dX7_miss_118 (by decide) ?_
                    refine xp7_10 (k := 0) hx hb hts hin7 hown hK hI (by decide) hw_3 dX7_miss_119 (fun V24 H locs eV24 hI => ?_)
                    replace hw := hw V24 eV24
                    refine lv_lconst (v := (0 : Int64)) hx hb dX7_miss_122 (by decide) ?_
                    refine lv_lstore (lv' := [(9, .long (0 : Int64)), (8, .int r21), (7, .int r18), (6, .ref (ad (36 + 2 * (x1).toNatClampNeg))), (0, .ref (ad 0)), (1, .int x1), (2, .int x2), (3, .int x3), (4, .int x4), (5, .int x5)]) hx hb dX7_miss_123 hl (by decide) rfl (fun ls hl => ?_)
                    refine lv_iconst (v := (0 : Int32)) hx hb dX7_miss_125 (by decide) ?_
                    refine lv_istore (lv' := [(11, .int (0 : Int32)), (9, .long (0 : Int64)), (8, .int r21), (7, .int r18), (6, .ref (ad (36 + 2 * (x1).toNatClampNeg))), (0, .ref (ad 0)), (1, .int x1), (2, .int x2), (3, .int x3), (4, .int x4), (5, .int x5)]) hx hb dX7_miss_126 hl (by decide) rfl (fun ls hl => ?_)
                    obtain ⟨n128, hw⟩ := hw
                    exact hL128 n128 V24 H locs ls x2 x3 x4 x5 (36 + 2 * (x1).toNatClampNeg) r21 (0 : Int64) (0 : Int32) (kX_at13 h16) hI (lv_sub hl [5, 7, 8, 9, 10, 4, 2, 1, 0] rfl) hw
                  · replace hw := hw.2 c23
                    exact hb113 V20 H locs ls  hI (lv_sub hl [] rfl) hw
              · replace hw := hw.2 c19
                refine lv_aload_n hx hb dX7_miss_81 rfl (lv_at hl 2 rfl) ?_
                refine lv_iload hx hb dX7_miss_82 (lv_at hl 0 rfl) ?_
                refine x_afti (va_runV (As := [.int r18]) (rest := []) ⟨hx, hb, hml, hown, hts⟩ (c_X7_found l g ad H.size V17 r18 _ hw) (cwV 1 hts gX7_miss_X7_found rfl rfl rfl (by decide +kernel) ⟨Nat.le_of_ble_eq_true rfl, Nat.le_of_ble_eq_true rfl⟩) (x_preV (k := 0) hK hE hI (by decide) (cX_7 (by decide)) rfl) rfl rfl hl.1 rfl (lv_room (Nat.le_of_ble_eq_true rfl)) dX7_miss_84 ⟨Nat.zero_le _, Nat.zero_le _⟩) hI (fun r26 V25 H locs hw hI => ?_)
                refine lv_i2l (v := (r26).toInt64) hx hb dX7_miss_87 rfl ?_
                exact W.lret (v := (r26).toInt64) hx hb hr (x_retl hI hw) hI.2.2.2.2 dX7_miss_88
            · replace hw := hw.2 c15
              exact hb55 V13 H locs ls  hI (lv_sub hl [] rfl) hw
    · replace hw := hw.2 c3
      refine lv_ldc2 (v := (-1000002 : Int64)) hx hb hown hw_4 dX7_miss_10 ?_
      exact W.lret (v := (-1000002 : Int64)) hx hb hr (x_retl hI hw) hI.2.2.2.2 dX7_miss_13
  exact hgo s.heap [] hI
def rm_X7_drawn : Room := { frames := 4, cells := 0, slots := 0, locals := 81 }
set_option maxHeartbeats 4000000 in
set_option maxRecDepth 100000 in
theorem c_X7_drawn (l : Launch) (g : GP) (ad : Nat → Nat) (sz : Nat) (V : VT) (x1 : Int32) (x2 : Int32) (x3 : Int32)  (K : Int32 → VT → Prop) (hw : wp_X7_drawn V x1 x2 x3 K) : Met l yX7_drawn wsX7_drawn rm_X7_drawn (va_Pc [.ref (ad 0), .int x1, .int x2, .int x3] (WPre 76 (cX g ad) ad g V sz)) (va_Qi K (WPost 76 (cX g ad) ad g) (AW ad 76 sz)) 0 0 (AW ad 76 sz) := by
  refine Met.ofW (cc := cX7_drawn) (maxL := 8) (ret := (some .int)) (by decide) rfl ?_
  intro p e s m args below meth c s₁ B hml hv
  obtain ⟨ha, hv⟩ := hv
  obtain rfl := hv.1
  have hI : WI g 76 (cX g ad) ad V s.heap s.heap [] := WI.start hv
  have hK := hv.2.2.1
  have hE := hv.2.2.2.2
  have hx := B.exec
  have hb := B.bytes
  have hr := B.returns
  have hts := atoms_spec (ws := wsX7_drawn) B.pre
  have hown : s.vm.findClass RX7 = some m.cls := findClass_of_methodNamed B.named
  have hlocks := B.notSynchronized
  have hw_0 := hts (.fieldLink RX7 22 "HoopLane" "lane" "LHoopLane$Lane;") (by decide +kernel)
  have hw_1 := hts (.constant RX7 76 (-1000001)) (by decide +kernel)
  have hw_2 := hts (.constant RX7 259 (999999)) (by decide +kernel)
  have hw_3 := hts (.fieldLink RX7 60 "HoopLane" "trial" "LHoopLane$Hoop;") (by decide +kernel)
  have hw_4 := hts (.fieldLink RX7 147 "HoopLane$Lane" "hoop" "LHoopLane$Hoop;") (by decide +kernel)
  have hw_5 := hts (.constant RX7 140 (-1000002)) (by decide +kernel)
  have hw_6 := hts (.fieldLink RX7 150 "HoopLane$Hoop" "end" "I") (by decide +kernel)
  have hw_7 := hts (.constantLong RX7 260 (16807)) (by decide +kernel)
  have hw_8 := hts (.constantLong RX7 262 (2147483647)) (by decide +kernel)
  have hw_9 := hts (.constantLong RX7 264 (8)) (by decide +kernel)
  have hw_10 := hts (.fieldLink RX7 170 "HoopLane$Hoop" "yard" "I") (by decide +kernel)
  have hin7 : ∀ w ∈ wsX70, w ∈ wsX7_drawn := by decide +kernel
  have hin3 : ∀ w ∈ wsX30, w ∈ wsX7_drawn := by decide +kernel
  have hin2 : ∀ w ∈ wsX20, w ∈ wsX7_drawn := by decide +kernel
  have hl := lv_entry ([.ref (ad 0), .int x1, .int x2, .int x3]) (n := 8) (Nat.le_of_ble_eq_true rfl)
  have hent : entryFrame m args 8 = F0 m 0 ((lg_sl ([.ref (ad 0), .int x1, .int x2, .int x3]) ++ List.replicate (8 - (lg_sl ([.ref (ad 0), .int x1, .int x2, .int x3])).length) Slot.unset).toArray) [] := by rw [ha, lg_entry_eq]
  rw [hent]
  generalize (lg_sl ([.ref (ad 0), .int x1, .int x2, .int x3]) ++ List.replicate (8 - (lg_sl ([.ref (ad 0), .int x1, .int x2, .int x3])).length) Slot.unset).toArray = ls at hl ⊢
  have hl : lv_has ls 8 [(0, .ref (ad 0)), (1, .int x1), (2, .int x2), (3, .int x3)] := hl
  obtain ⟨H, hH⟩ : ∃ H : Heap, H = s.heap := ⟨_, rfl⟩
  have hb139 : ∀ (V : VT) (H : Heap) (locs : List Loc) (ls : Array Slot) (x3 : Int32) (x6 : Int32), WI g 76 (cX g ad) ad V s.heap H locs → lv_has ls 8 [(0, .ref (ad 0)), (3, .int x3), (6, .int x6)] → wp_X7_drawn_b139 K  V x3 x6 → W p l e (headSpec wsX7_drawn rm_X7_drawn).room s m args below meth c H locs 0 0 (MQ below (va_Qi K (WPost 76 (cX g ad) ad g) (AW ad 76 s.heap.size)) args s 0 0 (AW ad 76 s.heap.size)) (F0 m 139 ls []) := by
    intro V H locs ls x3 x6  hI hl hw
    refine lv_iload_n hx hb dX7_drawn_139 rfl (lv_at hl 1 rfl) ?_
    refine lv_if_ne (tgt := 153) hx hb dX7_drawn_140 (by decide) (fun c22 => ?_) (fun c22 => ?_)
    · replace hw := hw.1 c22
      refine lv_iload hx hb dX7_drawn_153 (lv_at hl 2 rfl) ?_
      exact W.iret (v := x6) hx hb hr (x_reti hI hw) hI.2.2.2.2 dX7_drawn_155
    · replace hw := hw.2 c22
      refine lv_aload_n hx hb dX7_drawn_143 rfl (lv_at hl 0 rfl) ?_
      refine xg7_8 (k := 0) hx hb hts hin7 hown hK hI (by decide) hw_3 dX7_drawn_144 ?_
      refine xg2_0 (k := 15) hx hb hts hin2 hown hK hI (by decide) hw_10 dX7_drawn_147 ?_
      refine lv_goto (tgt := 155) hx hb dX7_drawn_150 (by decide) ?_
      exact W.iret (v := (V 15 0)) hx hb hr (x_reti hI hw) hI.2.2.2.2 dX7_drawn_155
  have hL67 : ∀ (n67 : Nat) (V : VT) (H : Heap) (locs : List Loc) (ls : Array Slot) (x1 : Int32) (x3 : Int32) (y4 : Int64) (x6 : Int32), WI g 76 (cX g ad) ad V s.heap H locs → lv_has ls 8 [(0, .ref (ad 0)), (1, .int x1), (3, .int x3), (4, .long y4), (6, .int x6)] → wp_X7_drawn_L67 K  n67 V x1 x3 y4 x6 → W p l e (headSpec wsX7_drawn rm_X7_drawn).room s m args below meth c H locs 0 0 (MQ below (va_Qi K (WPost 76 (cX g ad) ad g) (AW ad 76 s.heap.size)) args s 0 0 (AW ad 76 s.heap.size)) (F0 m 67 ls []) := by
    intro n67
    induction n67 with
    | zero => intro V H locs ls x1 x3 y4 x6  hI hl hw; exact False.elim hw
    | succ n67 ihL67 =>
      intro V H locs ls x1 x3 y4 x6  hI hl hw
      refine lv_iload hx hb dX7_drawn_67 (lv_at hl 4 rfl) ?_
      refine lv_iload_n hx hb dX7_drawn_69 rfl (lv_at hl 1 rfl) ?_
      refine lv_icmp_ge (tgt := 139) hx hb dX7_drawn_70 (by decide) (fun c14 => ?_) (fun c14 => ?_)
      · replace hw := hw.1 c14
        exact hb139 V H locs ls x3 x6 hI (lv_sub hl [0, 2, 4] rfl) hw
      · replace hw := hw.2 c14
        refine lv_aload_n hx hb dX7_drawn_73 rfl (lv_at hl 0 rfl) ?_
        refine xg7_8 (k := 0) hx hb hts hin7 hown hK hI (by decide) hw_3 dX7_drawn_74 ?_
        refine xg2_3 (k := 15) hx hb hts hin2 hown hK hI (by decide) hw_6 dX7_drawn_77 ?_
        refine lv_if_ne (tgt := 139) hx hb dX7_drawn_80 (by decide) (fun c15 => ?_) (fun c15 => ?_)
        · replace hw := hw.1 c15
          exact hb139 V H locs ls x3 x6 hI (lv_sub hl [0, 2, 4] rfl) hw
        · replace hw := hw.2 c15
          refine lv_lload hx hb dX7_drawn_83 (lv_at hl 3 rfl) ?_
          refine lv_ldc2 (v := (16807 : Int64)) hx hb hown hw_7 dX7_drawn_85 ?_
          refine lv_lmul hx hb dX7_drawn_88 ?_
          refine lv_ldc2 (v := (2147483647 : Int64)) hx hb hown hw_8 dX7_drawn_89 ?_
          refine lv_lrem hx hb dX7_drawn_92 (by decide) ?_
          refine lv_topl (fun z16 ez16 => ?_)
          replace hw := hw z16 ez16
          refine lv_lstore (lv' := [(4, .long z16), (0, .ref (ad 0)), (1, .int x1), (3, .int x3), (6, .int x6)]) hx hb dX7_drawn_93 hl (by decide) rfl (fun ls hl => ?_)
          refine lv_lload hx hb dX7_drawn_95 (lv_at hl 0 rfl) ?_
          refine lv_ldc2 (v := (8 : Int64)) hx hb hown hw_9 dX7_drawn_97 ?_
          refine lv_lrem hx hb dX7_drawn_100 (by decide) ?_
          refine lv_l2i (v := ((z16 - z16 / (8 : Int64) * (8 : Int64))).toInt32) hx hb dX7_drawn_101 rfl ?_
          refine lv_istore (lv' := [(7, .int (((z16 - z16 / (8 : Int64) * (8 : Int64))).toInt32)), (4, .long z16), (0, .ref (ad 0)), (1, .int x1), (3, .int x3), (6, .int x6)]) hx hb dX7_drawn_102 hl (by decide) rfl (fun ls hl => ?_)
          refine lv_aload_n hx hb dX7_drawn_104 rfl (lv_at hl 2 rfl) ?_
          refine xg7_8 (k := 0) hx hb hts hin7 hown hK hI (by decide) hw_3 dX7_drawn_105 ?_
          refine lv_aload_n hx hb dX7_drawn_108 rfl (lv_at hl 2 rfl) ?_
          refine xg7_2 (k := 0) hx hb hts hin7 hown hK hI (by decide) hw_0 dX7_drawn_109 ?_
          refine lv_aload_n hx hb dX7_drawn_112 rfl (lv_at hl 2 rfl) ?_
          refine xg7_2 (k := 0) hx hb hts hin7 hown hK hI (by decide) hw_0 dX7_drawn_113 ?_
          refine lv_iload hx hb dX7_drawn_116 (lv_at hl 0 rfl) ?_
          refine x_afti (va_runV (As := [.int (((z16 - z16 / (8 : Int64) * (8 : Int64))).toInt32)]) (rest := [.ref (ad 16), .ref (ad 15)]) ⟨hx, hb, hml, hown, hts⟩ (c_X3_kindAt l g ad H.size V 16 (((z16 - z16 / (8 : Int64) * (8 : Int64))).toInt32) (by decide) _ hw) (cwV 1 hts gX7_drawn_X3_kindAt rfl rfl rfl (by decide +kernel) ⟨Nat.le_of_ble_eq_true rfl, Nat.le_of_ble_eq_true rfl⟩) (x_preV (k := 16) hK hE hI (by decide) (cX_3 (by decide)) rfl) rfl rfl hl.1 rfl (lv_room (Nat.le_of_ble_eq_true rfl)) dX7_drawn_118 ⟨Nat.zero_le _, Nat.zero_le _⟩) hI (fun r18 V17 H locs hw hI => ?_)
          refine lv_aload_n hx hb dX7_drawn_121 rfl (lv_at hl 2 rfl) ?_
          refine xg7_2 (k := 0) hx hb hts hin7 hown hK hI (by decide) hw_0 dX7_drawn_122 ?_
          refine lv_iload hx hb dX7_drawn_125 (lv_at hl 0 rfl) ?_
          refine x_afti (va_runV (As := [.int (((z16 - z16 / (8 : Int64) * (8 : Int64))).toInt32)]) (rest := [.int r18, .ref (ad 16), .ref (ad 15)]) ⟨hx, hb, hml, hown, hts⟩ (c_X3_forceAt l g ad H.size V17 16 (((z16 - z16 / (8 : Int64) * (8 : Int64))).toInt32) (by decide) _ hw) (cwV 1 hts gX7_drawn_X3_forceAt rfl rfl rfl (by decide +kernel) ⟨Nat.le_of_ble_eq_true rfl, Nat.le_of_ble_eq_true rfl⟩) (x_preV (k := 16) hK hE hI (by decide) (cX_3 (by decide)) rfl) rfl rfl hl.1 rfl (lv_room (Nat.le_of_ble_eq_true rfl)) dX7_drawn_127 ⟨Nat.zero_le _, Nat.zero_le _⟩) hI (fun r20 V19 H locs hw hI => ?_)
          refine x_aftv (va_runV (As := [.ref (ad 16), .int r18, .int r20]) (rest := []) ⟨hx, hb, hml, hown, hts⟩ (c_X2_pass l g ad H.size V19 15 16 r18 r20 (by decide) (by decide) _ hw) (cwV 3 hts gX7_drawn_X2_pass rfl rfl rfl (by decide +kernel) ⟨Nat.le_of_ble_eq_true rfl, Nat.le_of_ble_eq_true rfl⟩) (x_preV (k := 15) hK hE hI (by decide) (cX_2 (by decide)) rfl) rfl rfl hl.1 rfl (lv_room (Nat.le_of_ble_eq_true rfl)) dX7_drawn_130 ⟨Nat.zero_le _, Nat.zero_le _⟩) hI (fun V21 H locs hw hI => ?_)
          refine lv_iinc (v := (x6 + (1 : Int32))) (lv' := [(6, .int (x6 + (1 : Int32))), (7, .int (((z16 - z16 / (8 : Int64) * (8 : Int64))).toInt32)), (4, .long z16), (0, .ref (ad 0)), (1, .int x1), (3, .int x3)]) hx hb dX7_drawn_133 hl (k := 5) rfl rfl (by decide) rfl (fun ls hl => ?_)
          refine lv_goto (tgt := 67) hx hb dX7_drawn_136 (by decide) ?_
          exact ihL67 V21 H locs ls x1 x3 z16 (x6 + (1 : Int32)) hI (lv_sub hl [3, 4, 5, 2, 0] rfl) hw
  have hgo : ∀ (H : Heap) (locs : List Loc), WI g 76 (cX g ad) ad V s.heap H locs → W p l e (headSpec wsX7_drawn rm_X7_drawn).room s m args below meth c H locs 0 0 (MQ below (va_Qi K (WPost 76 (cX g ad) ad g) (AW ad 76 s.heap.size)) args s 0 0 (AW ad 76 s.heap.size)) (F0 m 0 ls []) := by
    intro H locs hI
    refine lv_aload_n hx hb dX7_drawn_0 rfl (lv_at hl 0 rfl) ?_
    refine xg7_2 (k := 0) hx hb hts hin7 hown hK hI (by decide) hw_0 dX7_drawn_1 ?_
    refine x_afti (va_runV (As := []) (rest := []) ⟨hx, hb, hml, hown, hts⟩ (c_X3_isThere l g ad H.size V 16 (by decide) _ hw) (cwV 0 hts gX7_drawn_X3_isThere rfl rfl rfl (by decide +kernel) ⟨Nat.le_of_ble_eq_true rfl, Nat.le_of_ble_eq_true rfl⟩) (x_preV (k := 16) hK hE hI (by decide) (cX_3 (by decide)) rfl) rfl rfl hl.1 rfl (lv_room (Nat.le_of_ble_eq_true rfl)) dX7_drawn_4 ⟨Nat.zero_le _, Nat.zero_le _⟩) hI (fun r2 V1 H locs hw hI => ?_)
    refine lv_if_ne (tgt := 13) hx hb dX7_drawn_7 (by decide) (fun c3 => ?_) (fun c3 => ?_)
    · replace hw := hw.1 c3
      refine lv_iload_n hx hb dX7_drawn_13 rfl (lv_at hl 1 rfl) ?_
      refine lv_iconst (v := (0 : Int32)) hx hb dX7_drawn_14 (by decide) ?_
      refine lv_bipush (v := (40 : Int32)) hx hb dX7_drawn_15 (by decide) ?_
      refine x_afti (va_runS (As := [.int x1, .int (0 : Int32), .int (40 : Int32)]) (rest := []) ⟨hx, hb, hml, hown, hts⟩ (c_X7_isOut l g ad H.size V1 x1 (0 : Int32) (40 : Int32) _ hw) (cwS 3 hts gX7_drawn_X7_isOut rfl rfl rfl (by decide +kernel) ⟨Nat.le_of_ble_eq_true rfl, Nat.le_of_ble_eq_true rfl⟩) (x_preS hK hE hI) rfl rfl hl.1 rfl (lv_room (Nat.le_of_ble_eq_true rfl)) dX7_drawn_17 ⟨Nat.zero_le _, Nat.zero_le _⟩) hI (fun r5 V4 H locs hw hI => ?_)
      refine lv_if_ne (tgt := 43) hx hb dX7_drawn_20 (by decide) (fun c6 => ?_) (fun c6 => ?_)
      · replace hw := hw.1 c6
        refine lv_ldc (v := (-1000001 : Int32)) hx hb hown hw_1 dX7_drawn_43 ?_
        exact W.iret (v := (-1000001 : Int32)) hx hb hr (x_reti hI hw) hI.2.2.2.2 dX7_drawn_45
      · replace hw := hw.2 c6
        refine lv_iload_n hx hb dX7_drawn_23 rfl (lv_at hl 2 rfl) ?_
        refine lv_iconst (v := (1 : Int32)) hx hb dX7_drawn_24 (by decide) ?_
        refine lv_ldcw (v := (999999 : Int32)) hx hb hown hw_2 dX7_drawn_25 ?_
        refine x_afti (va_runS (As := [.int x2, .int (1 : Int32), .int (999999 : Int32)]) (rest := []) ⟨hx, hb, hml, hown, hts⟩ (c_X7_isOut l g ad H.size V4 x2 (1 : Int32) (999999 : Int32) _ hw) (cwS 3 hts gX7_drawn_X7_isOut rfl rfl rfl (by decide +kernel) ⟨Nat.le_of_ble_eq_true rfl, Nat.le_of_ble_eq_true rfl⟩) (x_preS hK hE hI) rfl rfl hl.1 rfl (lv_room (Nat.le_of_ble_eq_true rfl)) dX7_drawn_28 ⟨Nat.zero_le _, Nat.zero_le _⟩) hI (fun r8 V7 H locs hw hI => ?_)
        refine lv_if_ne (tgt := 43) hx hb dX7_drawn_31 (by decide) (fun c9 => ?_) (fun c9 => ?_)
        · replace hw := hw.1 c9
          refine lv_ldc (v := (-1000001 : Int32)) hx hb hown hw_1 dX7_drawn_43 ?_
          exact W.iret (v := (-1000001 : Int32)) hx hb hr (x_reti hI hw) hI.2.2.2.2 dX7_drawn_45
        · replace hw := hw.2 c9
          refine lv_iload_n hx hb dX7_drawn_34 rfl (lv_at hl 3 rfl) ?_
          refine lv_iconst (v := (0 : Int32)) hx hb dX7_drawn_35 (by decide) ?_
          refine lv_iconst (v := (1 : Int32)) hx hb dX7_drawn_36 (by decide) ?_
          refine x_afti (va_runS (As := [.int x3, .int (0 : Int32), .int (1 : Int32)]) (rest := []) ⟨hx, hb, hml, hown, hts⟩ (c_X7_isOut l g ad H.size V7 x3 (0 : Int32) (1 : Int32) _ hw) (cwS 3 hts gX7_drawn_X7_isOut rfl rfl rfl (by decide +kernel) ⟨Nat.le_of_ble_eq_true rfl, Nat.le_of_ble_eq_true rfl⟩) (x_preS hK hE hI) rfl rfl hl.1 rfl (lv_room (Nat.le_of_ble_eq_true rfl)) dX7_drawn_37 ⟨Nat.zero_le _, Nat.zero_le _⟩) hI (fun r11 V10 H locs hw hI => ?_)
          refine lv_if_eq (tgt := 46) hx hb dX7_drawn_40 (by decide) (fun c12 => ?_) (fun c12 => ?_)
          · replace hw := hw.1 c12
            refine lv_aload_n hx hb dX7_drawn_46 rfl (lv_at hl 0 rfl) ?_
            refine xg7_8 (k := 0) hx hb hts hin7 hown hK hI (by decide) hw_3 dX7_drawn_47 ?_
            refine lv_aload_n hx hb dX7_drawn_50 rfl (lv_at hl 0 rfl) ?_
            refine xg7_2 (k := 0) hx hb hts hin7 hown hK hI (by decide) hw_0 dX7_drawn_51 ?_
            refine xg3_3 (k := 16) hx hb hts hin3 hown hK hI (by decide) hw_4 dX7_drawn_54 ?_
            refine x_aftv (va_runV (As := [.ref (ad 20)]) (rest := []) ⟨hx, hb, hml, hown, hts⟩ (c_X2_be l g ad H.size V10 15 20 (by decide) (by decide) _ hw) (cwV 1 hts gX7_drawn_X2_be rfl rfl rfl (by decide +kernel) ⟨Nat.le_of_ble_eq_true rfl, Nat.le_of_ble_eq_true rfl⟩) (x_preV (k := 15) hK hE hI (by decide) (cX_2 (by decide)) rfl) rfl rfl hl.1 rfl (lv_room (Nat.le_of_ble_eq_true rfl)) dX7_drawn_57 ⟨Nat.zero_le _, Nat.zero_le _⟩) hI (fun V13 H locs hw hI => ?_)
            refine lv_iload_n hx hb dX7_drawn_60 rfl (lv_at hl 2 rfl) ?_
            refine lv_i2l (v := (x2).toInt64) hx hb dX7_drawn_61 rfl ?_
            refine lv_lstore (lv' := [(4, .long ((x2).toInt64)), (0, .ref (ad 0)), (1, .int x1), (2, .int x2), (3, .int x3)]) hx hb dX7_drawn_62 hl (by decide) rfl (fun ls hl => ?_)
            refine lv_iconst (v := (0 : Int32)) hx hb dX7_drawn_64 (by decide) ?_
            refine lv_istore (lv' := [(6, .int (0 : Int32)), (4, .long ((x2).toInt64)), (0, .ref (ad 0)), (1, .int x1), (2, .int x2), (3, .int x3)]) hx hb dX7_drawn_65 hl (by decide) rfl (fun ls hl => ?_)
            obtain ⟨n67, hw⟩ := hw
            exact hL67 n67 V13 H locs ls x1 x3 ((x2).toInt64) (0 : Int32) hI (lv_sub hl [2, 3, 5, 1, 0] rfl) hw
          · replace hw := hw.2 c12
            refine lv_ldc (v := (-1000001 : Int32)) hx hb hown hw_1 dX7_drawn_43 ?_
            exact W.iret (v := (-1000001 : Int32)) hx hb hr (x_reti hI hw) hI.2.2.2.2 dX7_drawn_45
    · replace hw := hw.2 c3
      refine lv_ldc (v := (-1000002 : Int32)) hx hb hown hw_5 dX7_drawn_10 ?_
      exact W.iret (v := (-1000002 : Int32)) hx hb hr (x_reti hI hw) hI.2.2.2.2 dX7_drawn_12
  exact hgo s.heap [] hI
def rm_X7_image : Room := { frames := 2, cells := 0, slots := 0, locals := 42 }
set_option maxHeartbeats 4000000 in
set_option maxRecDepth 100000 in
theorem c_X7_image (l : Launch) (g : GP) (ad : Nat → Nat) (sz : Nat) (V : VT) (x1 : Int32)  (K : Int32 → VT → Prop) (hw : wp_X7_image V x1 K) : Met l yX7_image wsX7_image rm_X7_image (va_Pc [.ref (ad 0), .int x1] (WPre 76 (cX g ad) ad g V sz)) (va_Qi K (WPost 76 (cX g ad) ad g) (AW ad 76 sz)) 0 0 (AW ad 76 sz) := by
  refine Met.ofW (cc := cX7_image) (maxL := 2) (ret := (some .int)) (by decide) rfl ?_
  intro p e s m args below meth c s₁ B hml hv
  obtain ⟨ha, hv⟩ := hv
  obtain rfl := hv.1
  have hI : WI g 76 (cX g ad) ad V s.heap s.heap [] := WI.start hv
  have hK := hv.2.2.1
  have hE := hv.2.2.2.2
  have hx := B.exec
  have hb := B.bytes
  have hr := B.returns
  have hts := atoms_spec (ws := wsX7_image) B.pre
  have hown : s.vm.findClass RX7 = some m.cls := findClass_of_methodNamed B.named
  have hlocks := B.notSynchronized
  have hw_0 := hts (.fieldLink RX7 22 "HoopLane" "lane" "LHoopLane$Lane;") (by decide +kernel)
  have hw_1 := hts (.fieldLink RX7 17 "HoopLane" "images" "[LHoopLane$Lane;") (by decide +kernel)
  have hw_2 := hts (.constant RX7 140 (-1000002)) (by decide +kernel)
  have hw_3 := hts (.constant RX7 76 (-1000001)) (by decide +kernel)
  have hin7 : ∀ w ∈ wsX70, w ∈ wsX7_image := by decide +kernel
  have hl := lv_entry ([.ref (ad 0), .int x1]) (n := 2) (Nat.le_of_ble_eq_true rfl)
  have hent : entryFrame m args 2 = F0 m 0 ((lg_sl ([.ref (ad 0), .int x1]) ++ List.replicate (2 - (lg_sl ([.ref (ad 0), .int x1])).length) Slot.unset).toArray) [] := by rw [ha, lg_entry_eq]
  rw [hent]
  generalize (lg_sl ([.ref (ad 0), .int x1]) ++ List.replicate (2 - (lg_sl ([.ref (ad 0), .int x1])).length) Slot.unset).toArray = ls at hl ⊢
  have hl : lv_has ls 2 [(0, .ref (ad 0)), (1, .int x1)] := hl
  obtain ⟨H, hH⟩ : ∃ H : Heap, H = s.heap := ⟨_, rfl⟩
  have hgo : ∀ (H : Heap) (locs : List Loc), WI g 76 (cX g ad) ad V s.heap H locs → W p l e (headSpec wsX7_image rm_X7_image).room s m args below meth c H locs 0 0 (MQ below (va_Qi K (WPost 76 (cX g ad) ad g) (AW ad 76 s.heap.size)) args s 0 0 (AW ad 76 s.heap.size)) (F0 m 0 ls []) := by
    intro H locs hI
    refine lv_iload_n hx hb dX7_image_0 rfl (lv_at hl 1 rfl) ?_
    refine lv_iconst (v := (0 : Int32)) hx hb dX7_image_1 (by decide) ?_
    refine lv_iconst (v := (1 : Int32)) hx hb dX7_image_2 (by decide) ?_
    refine x_afti (va_runS (As := [.int x1, .int (0 : Int32), .int (1 : Int32)]) (rest := []) ⟨hx, hb, hml, hown, hts⟩ (c_X7_isOut l g ad H.size V x1 (0 : Int32) (1 : Int32) _ hw) (cwS 3 hts gX7_image_X7_isOut rfl rfl rfl (by decide +kernel) ⟨Nat.le_of_ble_eq_true rfl, Nat.le_of_ble_eq_true rfl⟩) (x_preS hK hE hI) rfl rfl hl.1 rfl (lv_room (Nat.le_of_ble_eq_true rfl)) dX7_image_3 ⟨Nat.zero_le _, Nat.zero_le _⟩) hI (fun r2 V1 H locs hw hI => ?_)
    refine lv_if_eq (tgt := 12) hx hb dX7_image_6 (by decide) (fun c3 => ?_) (fun c3 => ?_)
    · replace hw := hw.1 c3
      refine lv_aload_n hx hb dX7_image_12 rfl (lv_at hl 0 rfl) ?_
      refine xg7_2 (k := 0) hx hb hts hin7 hown hK hI (by decide) hw_0 dX7_image_13 ?_
      refine x_afti (va_runV (As := []) (rest := []) ⟨hx, hb, hml, hown, hts⟩ (c_X3_isThere l g ad H.size V1 16 (by decide) _ hw) (cwV 0 hts gX7_image_X3_isThere rfl rfl rfl (by decide +kernel) ⟨Nat.le_of_ble_eq_true rfl, Nat.le_of_ble_eq_true rfl⟩) (x_preV (k := 16) hK hE hI (by decide) (cX_3 (by decide)) rfl) rfl rfl hl.1 rfl (lv_room (Nat.le_of_ble_eq_true rfl)) dX7_image_16 ⟨Nat.zero_le _, Nat.zero_le _⟩) hI (fun r5 V4 H locs hw hI => ?_)
      refine lv_if_ne (tgt := 25) hx hb dX7_image_19 (by decide) (fun c6 => ?_) (fun c6 => ?_)
      · replace hw := hw.1 c6
        refine lv_aload_n hx hb dX7_image_25 rfl (lv_at hl 0 rfl) ?_
        refine xg7_1 (k := 0) hx hb hts hin7 hown hK hI (by decide) hw_1 dX7_image_26 ?_
        refine lv_iload_n hx hb dX7_image_29 rfl (lv_at hl 1 rfl) ?_
        obtain ⟨h7, hw⟩ := hw
        refine x_aald (k := 2) (n := 2) (q := ad (26 + 5 * (x1).toNatClampNeg)) hx hb hK hI (by decide) 3 rfl rfl h7 rfl dX7_image_30 ?_
        refine lv_aload_n hx hb dX7_image_31 rfl (lv_at hl 0 rfl) ?_
        refine xg7_2 (k := 0) hx hb hts hin7 hown hK hI (by decide) hw_0 dX7_image_32 ?_
        refine x_aftv (va_runV (As := [.ref (ad 16)]) (rest := []) ⟨hx, hb, hml, hown, hts⟩ (c_X3_be l g ad H.size V4 (26 + 5 * (x1).toNatClampNeg) 16 (kX_at12 h7) (by decide) _ hw) (cwV 1 hts gX7_image_X3_be rfl rfl rfl (by decide +kernel) ⟨Nat.le_of_ble_eq_true rfl, Nat.le_of_ble_eq_true rfl⟩) (x_preV (k := (26 + 5 * (x1).toNatClampNeg)) hK hE hI (kX_lt (kX_at12 h7) (by decide)) (cX_3 (kX_at12 h7)) rfl) rfl rfl hl.1 rfl (lv_room (Nat.le_of_ble_eq_true rfl)) dX7_image_35 ⟨Nat.zero_le _, Nat.zero_le _⟩) hI (fun V8 H locs hw hI => ?_)
        refine lv_iconst (v := (1 : Int32)) hx hb dX7_image_38 (by decide) ?_
        exact W.iret (v := (1 : Int32)) hx hb hr (x_reti hI hw) hI.2.2.2.2 dX7_image_39
      · replace hw := hw.2 c6
        refine lv_ldc (v := (-1000002 : Int32)) hx hb hown hw_2 dX7_image_22 ?_
        exact W.iret (v := (-1000002 : Int32)) hx hb hr (x_reti hI hw) hI.2.2.2.2 dX7_image_24
    · replace hw := hw.2 c3
      refine lv_ldc (v := (-1000001 : Int32)) hx hb hown hw_3 dX7_image_9 ?_
      exact W.iret (v := (-1000001 : Int32)) hx hb hr (x_reti hI hw) hI.2.2.2.2 dX7_image_11
  exact hgo s.heap [] hI
def rm_X7_restore : Room := { frames := 2, cells := 0, slots := 0, locals := 42 }
set_option maxHeartbeats 4000000 in
set_option maxRecDepth 100000 in
theorem c_X7_restore (l : Launch) (g : GP) (ad : Nat → Nat) (sz : Nat) (V : VT) (x1 : Int32)  (K : Int32 → VT → Prop) (hw : wp_X7_restore V x1 K) : Met l yX7_restore wsX7_restore rm_X7_restore (va_Pc [.ref (ad 0), .int x1] (WPre 76 (cX g ad) ad g V sz)) (va_Qi K (WPost 76 (cX g ad) ad g) (AW ad 76 sz)) 0 0 (AW ad 76 sz) := by
  refine Met.ofW (cc := cX7_restore) (maxL := 2) (ret := (some .int)) (by decide) rfl ?_
  intro p e s m args below meth c s₁ B hml hv
  obtain ⟨ha, hv⟩ := hv
  obtain rfl := hv.1
  have hI : WI g 76 (cX g ad) ad V s.heap s.heap [] := WI.start hv
  have hK := hv.2.2.1
  have hE := hv.2.2.2.2
  have hx := B.exec
  have hb := B.bytes
  have hr := B.returns
  have hts := atoms_spec (ws := wsX7_restore) B.pre
  have hown : s.vm.findClass RX7 = some m.cls := findClass_of_methodNamed B.named
  have hlocks := B.notSynchronized
  have hw_0 := hts (.fieldLink RX7 17 "HoopLane" "images" "[LHoopLane$Lane;") (by decide +kernel)
  have hw_1 := hts (.fieldLink RX7 22 "HoopLane" "lane" "LHoopLane$Lane;") (by decide +kernel)
  have hw_2 := hts (.fieldLink RX7 39 "HoopLane" "acts" "LHoopLane$Acts;") (by decide +kernel)
  have hw_3 := hts (.constant RX7 140 (-1000002)) (by decide +kernel)
  have hw_4 := hts (.constant RX7 76 (-1000001)) (by decide +kernel)
  have hin7 : ∀ w ∈ wsX70, w ∈ wsX7_restore := by decide +kernel
  have hl := lv_entry ([.ref (ad 0), .int x1]) (n := 2) (Nat.le_of_ble_eq_true rfl)
  have hent : entryFrame m args 2 = F0 m 0 ((lg_sl ([.ref (ad 0), .int x1]) ++ List.replicate (2 - (lg_sl ([.ref (ad 0), .int x1])).length) Slot.unset).toArray) [] := by rw [ha, lg_entry_eq]
  rw [hent]
  generalize (lg_sl ([.ref (ad 0), .int x1]) ++ List.replicate (2 - (lg_sl ([.ref (ad 0), .int x1])).length) Slot.unset).toArray = ls at hl ⊢
  have hl : lv_has ls 2 [(0, .ref (ad 0)), (1, .int x1)] := hl
  obtain ⟨H, hH⟩ : ∃ H : Heap, H = s.heap := ⟨_, rfl⟩
  have hgo : ∀ (H : Heap) (locs : List Loc), WI g 76 (cX g ad) ad V s.heap H locs → W p l e (headSpec wsX7_restore rm_X7_restore).room s m args below meth c H locs 0 0 (MQ below (va_Qi K (WPost 76 (cX g ad) ad g) (AW ad 76 s.heap.size)) args s 0 0 (AW ad 76 s.heap.size)) (F0 m 0 ls []) := by
    intro H locs hI
    refine lv_iload_n hx hb dX7_restore_0 rfl (lv_at hl 1 rfl) ?_
    refine lv_iconst (v := (0 : Int32)) hx hb dX7_restore_1 (by decide) ?_
    refine lv_iconst (v := (1 : Int32)) hx hb dX7_restore_2 (by decide) ?_
    refine x_afti (va_runS (As := [.int x1, .int (0 : Int32), .int (1 : Int32)]) (rest := []) ⟨hx, hb, hml, hown, hts⟩ (c_X7_isOut l g ad H.size V x1 (0 : Int32) (1 : Int32) _ hw) (cwS 3 hts gX7_restore_X7_isOut rfl rfl rfl (by decide +kernel) ⟨Nat.le_of_ble_eq_true rfl, Nat.le_of_ble_eq_true rfl⟩) (x_preS hK hE hI) rfl rfl hl.1 rfl (lv_room (Nat.le_of_ble_eq_true rfl)) dX7_restore_3 ⟨Nat.zero_le _, Nat.zero_le _⟩) hI (fun r2 V1 H locs hw hI => ?_)
    refine lv_if_eq (tgt := 12) hx hb dX7_restore_6 (by decide) (fun c3 => ?_) (fun c3 => ?_)
    · replace hw := hw.1 c3
      refine lv_aload_n hx hb dX7_restore_12 rfl (lv_at hl 0 rfl) ?_
      refine xg7_1 (k := 0) hx hb hts hin7 hown hK hI (by decide) hw_0 dX7_restore_13 ?_
      refine lv_iload_n hx hb dX7_restore_16 rfl (lv_at hl 1 rfl) ?_
      obtain ⟨h4, hw⟩ := hw
      refine x_aald (k := 2) (n := 2) (q := ad (26 + 5 * (x1).toNatClampNeg)) hx hb hK hI (by decide) 3 rfl rfl h4 rfl dX7_restore_17 ?_
      refine x_afti (va_runV (As := []) (rest := []) ⟨hx, hb, hml, hown, hts⟩ (c_X3_isThere l g ad H.size V1 (26 + 5 * (x1).toNatClampNeg) (kX_at12 h4) _ hw) (cwV 0 hts gX7_restore_X3_isThere rfl rfl rfl (by decide +kernel) ⟨Nat.le_of_ble_eq_true rfl, Nat.le_of_ble_eq_true rfl⟩) (x_preV (k := (26 + 5 * (x1).toNatClampNeg)) hK hE hI (kX_lt (kX_at12 h4) (by decide)) (cX_3 (kX_at12 h4)) rfl) rfl rfl hl.1 rfl (lv_room (Nat.le_of_ble_eq_true rfl)) dX7_restore_18 ⟨Nat.zero_le _, Nat.zero_le _⟩) hI (fun r6 V5 H locs hw hI => ?_)
      refine lv_if_ne (tgt := 27) hx hb dX7_restore_21 (by decide) (fun c7 => ?_) (fun c7 => ?_)
      · replace hw := hw.1 c7
        refine lv_aload_n hx hb dX7_restore_27 rfl (lv_at hl 0 rfl) ?_
        refine xg7_2 (k := 0) hx hb hts hin7 hown hK hI (by decide) hw_1 dX7_restore_28 ?_
        refine lv_aload_n hx hb dX7_restore_31 rfl (lv_at hl 0 rfl) ?_
        refine xg7_1 (k := 0) hx hb hts hin7 hown hK hI (by decide) hw_0 dX7_restore_32 ?_
        refine lv_iload_n hx hb dX7_restore_35 rfl (lv_at hl 1 rfl) ?_
        obtain ⟨h8, hw⟩ := hw
        refine x_aald (k := 2) (n := 2) (q := ad (26 + 5 * (x1).toNatClampNeg)) hx hb hK hI (by decide) 3 rfl rfl h8 rfl dX7_restore_36 ?_
        refine x_aftv (va_runV (As := [.ref (ad (26 + 5 * (x1).toNatClampNeg))]) (rest := []) ⟨hx, hb, hml, hown, hts⟩ (c_X3_be l g ad H.size V5 16 (26 + 5 * (x1).toNatClampNeg) (by decide) (kX_at12 h8) _ hw) (cwV 1 hts gX7_restore_X3_be rfl rfl rfl (by decide +kernel) ⟨Nat.le_of_ble_eq_true rfl, Nat.le_of_ble_eq_true rfl⟩) (x_preV (k := 16) hK hE hI (by decide) (cX_3 (by decide)) rfl) rfl rfl hl.1 rfl (lv_room (Nat.le_of_ble_eq_true rfl)) dX7_restore_37 ⟨Nat.zero_le _, Nat.zero_le _⟩) hI (fun V9 H locs hw hI => ?_)
        refine lv_aload_n hx hb dX7_restore_40 rfl (lv_at hl 0 rfl) ?_
        refine xg7_5 (k := 0) hx hb hts hin7 hown hK hI (by decide) hw_2 dX7_restore_41 ?_
        refine x_aftv (va_runV (As := []) (rest := []) ⟨hx, hb, hml, hown, hts⟩ (c_X0_clear l g ad H.size V9  _ hw) (cwV 0 hts gX7_restore_X0_clear rfl rfl rfl (by decide +kernel) ⟨Nat.le_of_ble_eq_true rfl, Nat.le_of_ble_eq_true rfl⟩) (x_preV (k := 5) hK hE hI (by decide) (cX_0 (by decide)) rfl) rfl rfl hl.1 rfl (lv_room (Nat.le_of_ble_eq_true rfl)) dX7_restore_44 ⟨Nat.zero_le _, Nat.zero_le _⟩) hI (fun V10 H locs hw hI => ?_)
        refine lv_iconst (v := (1 : Int32)) hx hb dX7_restore_47 (by decide) ?_
        exact W.iret (v := (1 : Int32)) hx hb hr (x_reti hI hw) hI.2.2.2.2 dX7_restore_48
      · replace hw := hw.2 c7
        refine lv_ldc (v := (-1000002 : Int32)) hx hb hown hw_3 dX7_restore_24 ?_
        exact W.iret (v := (-1000002 : Int32)) hx hb hr (x_reti hI hw) hI.2.2.2.2 dX7_restore_26
    · replace hw := hw.2 c3
      refine lv_ldc (v := (-1000001 : Int32)) hx hb hown hw_4 dX7_restore_9 ?_
      exact W.iret (v := (-1000001 : Int32)) hx hb hr (x_reti hI hw) hI.2.2.2.2 dX7_restore_11
  exact hgo s.heap [] hI
def rm_X7_kind : Room := { frames := 2, cells := 0, slots := 0, locals := 43 }
set_option maxHeartbeats 4000000 in
set_option maxRecDepth 100000 in
theorem c_X7_kind (l : Launch) (g : GP) (ad : Nat → Nat) (sz : Nat) (V : VT) (x1 : Int32)  (K : Int32 → VT → Prop) (hw : wp_X7_kind V x1 K) : Met l yX7_kind wsX7_kind rm_X7_kind (va_Pc [.ref (ad 0), .int x1] (WPre 76 (cX g ad) ad g V sz)) (va_Qi K (WPost 76 (cX g ad) ad g) (AW ad 76 sz)) 0 0 (AW ad 76 sz) := by
  refine Met.ofW (cc := cX7_kind) (maxL := 2) (ret := (some .int)) (by decide) rfl ?_
  intro p e s m args below meth c s₁ B hml hv
  obtain ⟨ha, hv⟩ := hv
  obtain rfl := hv.1
  have hI : WI g 76 (cX g ad) ad V s.heap s.heap [] := WI.start hv
  have hK := hv.2.2.1
  have hE := hv.2.2.2.2
  have hx := B.exec
  have hb := B.bytes
  have hr := B.returns
  have hts := atoms_spec (ws := wsX7_kind) B.pre
  have hown : s.vm.findClass RX7 = some m.cls := findClass_of_methodNamed B.named
  have hlocks := B.notSynchronized
  have hw_0 := hts (.fieldLink RX7 22 "HoopLane" "lane" "LHoopLane$Lane;") (by decide +kernel)
  have hw_1 := hts (.fieldLink RX7 134 "HoopLane$Lane" "taps" "I") (by decide +kernel)
  have hw_2 := hts (.constant RX7 76 (-1000001)) (by decide +kernel)
  have hin7 : ∀ w ∈ wsX70, w ∈ wsX7_kind := by decide +kernel
  have hin3 : ∀ w ∈ wsX30, w ∈ wsX7_kind := by decide +kernel
  have hl := lv_entry ([.ref (ad 0), .int x1]) (n := 2) (Nat.le_of_ble_eq_true rfl)
  have hent : entryFrame m args 2 = F0 m 0 ((lg_sl ([.ref (ad 0), .int x1]) ++ List.replicate (2 - (lg_sl ([.ref (ad 0), .int x1])).length) Slot.unset).toArray) [] := by rw [ha, lg_entry_eq]
  rw [hent]
  generalize (lg_sl ([.ref (ad 0), .int x1]) ++ List.replicate (2 - (lg_sl ([.ref (ad 0), .int x1])).length) Slot.unset).toArray = ls at hl ⊢
  have hl : lv_has ls 2 [(0, .ref (ad 0)), (1, .int x1)] := hl
  obtain ⟨H, hH⟩ : ∃ H : Heap, H = s.heap := ⟨_, rfl⟩
  have hgo : ∀ (H : Heap) (locs : List Loc), WI g 76 (cX g ad) ad V s.heap H locs → W p l e (headSpec wsX7_kind rm_X7_kind).room s m args below meth c H locs 0 0 (MQ below (va_Qi K (WPost 76 (cX g ad) ad g) (AW ad 76 s.heap.size)) args s 0 0 (AW ad 76 s.heap.size)) (F0 m 0 ls []) := by
    intro H locs hI
    refine lv_iload_n hx hb dX7_kind_0 rfl (lv_at hl 1 rfl) ?_
    refine lv_iconst (v := (0 : Int32)) hx hb dX7_kind_1 (by decide) ?_
    refine lv_aload_n hx hb dX7_kind_2 rfl (lv_at hl 0 rfl) ?_
    refine xg7_2 (k := 0) hx hb hts hin7 hown hK hI (by decide) hw_0 dX7_kind_3 ?_
    refine xg3_5 (k := 16) hx hb hts hin3 hown hK hI (by decide) hw_1 dX7_kind_6 ?_
    refine lv_iconst (v := (1 : Int32)) hx hb dX7_kind_9 (by decide) ?_
    refine lv_isub hx hb dX7_kind_10 ?_
    refine x_afti (va_runS (As := [.int x1, .int (0 : Int32), .int ((V 16 5) - (1 : Int32))]) (rest := []) ⟨hx, hb, hml, hown, hts⟩ (c_X7_isOut l g ad H.size V x1 (0 : Int32) ((V 16 5) - (1 : Int32)) _ hw) (cwS 3 hts gX7_kind_X7_isOut rfl rfl rfl (by decide +kernel) ⟨Nat.le_of_ble_eq_true rfl, Nat.le_of_ble_eq_true rfl⟩) (x_preS hK hE hI) rfl rfl hl.1 rfl (lv_room (Nat.le_of_ble_eq_true rfl)) dX7_kind_11 ⟨Nat.zero_le _, Nat.zero_le _⟩) hI (fun r2 V1 H locs hw hI => ?_)
    refine lv_if_eq (tgt := 22) hx hb dX7_kind_14 (by decide) (fun c3 => ?_) (fun c3 => ?_)
    · replace hw := hw.1 c3
      refine lv_aload_n hx hb dX7_kind_22 rfl (lv_at hl 0 rfl) ?_
      refine xg7_2 (k := 0) hx hb hts hin7 hown hK hI (by decide) hw_0 dX7_kind_23 ?_
      refine lv_iload_n hx hb dX7_kind_26 rfl (lv_at hl 1 rfl) ?_
      refine x_afti (va_runV (As := [.int x1]) (rest := []) ⟨hx, hb, hml, hown, hts⟩ (c_X3_kindAt l g ad H.size V1 16 x1 (by decide) _ hw) (cwV 1 hts gX7_kind_X3_kindAt rfl rfl rfl (by decide +kernel) ⟨Nat.le_of_ble_eq_true rfl, Nat.le_of_ble_eq_true rfl⟩) (x_preV (k := 16) hK hE hI (by decide) (cX_3 (by decide)) rfl) rfl rfl hl.1 rfl (lv_room (Nat.le_of_ble_eq_true rfl)) dX7_kind_27 ⟨Nat.zero_le _, Nat.zero_le _⟩) hI (fun r5 V4 H locs hw hI => ?_)
      exact W.iret (v := r5) hx hb hr (x_reti hI hw) hI.2.2.2.2 dX7_kind_30
    · replace hw := hw.2 c3
      refine lv_ldc (v := (-1000001 : Int32)) hx hb hown hw_2 dX7_kind_17 ?_
      refine lv_goto (tgt := 30) hx hb dX7_kind_19 (by decide) ?_
      exact W.iret (v := (-1000001 : Int32)) hx hb hr (x_reti hI hw) hI.2.2.2.2 dX7_kind_30
  exact hgo s.heap [] hI
def rm_X7_as : Room := { frames := 2, cells := 0, slots := 0, locals := 43 }
set_option maxHeartbeats 4000000 in
set_option maxRecDepth 100000 in
theorem c_X7_as (l : Launch) (g : GP) (ad : Nat → Nat) (sz : Nat) (V : VT) (x1 : Int32) (x2 : Int32)  (K : Int32 → VT → Prop) (hw : wp_X7_as V x1 x2 K) : Met l yX7_as wsX7_as rm_X7_as (va_Pc [.ref (ad 0), .int x1, .int x2] (WPre 76 (cX g ad) ad g V sz)) (va_Qi K (WPost 76 (cX g ad) ad g) (AW ad 76 sz)) 0 0 (AW ad 76 sz) := by
  refine Met.ofW (cc := cX7_as) (maxL := 3) (ret := (some .int)) (by decide) rfl ?_
  intro p e s m args below meth c s₁ B hml hv
  obtain ⟨ha, hv⟩ := hv
  obtain rfl := hv.1
  have hI : WI g 76 (cX g ad) ad V s.heap s.heap [] := WI.start hv
  have hK := hv.2.2.1
  have hE := hv.2.2.2.2
  have hx := B.exec
  have hb := B.bytes
  have hr := B.returns
  have hts := atoms_spec (ws := wsX7_as) B.pre
  have hown : s.vm.findClass RX7 = some m.cls := findClass_of_methodNamed B.named
  have hlocks := B.notSynchronized
  have hw_0 := hts (.fieldLink RX7 22 "HoopLane" "lane" "LHoopLane$Lane;") (by decide +kernel)
  have hw_1 := hts (.fieldLink RX7 134 "HoopLane$Lane" "taps" "I") (by decide +kernel)
  have hw_2 := hts (.constant RX7 76 (-1000001)) (by decide +kernel)
  have hw_3 := hts (.fieldLink RX7 68 "HoopLane" "status" "I") (by decide +kernel)
  have hin7 : ∀ w ∈ wsX70, w ∈ wsX7_as := by decide +kernel
  have hin3 : ∀ w ∈ wsX30, w ∈ wsX7_as := by decide +kernel
  have hl := lv_entry ([.ref (ad 0), .int x1, .int x2]) (n := 3) (Nat.le_of_ble_eq_true rfl)
  have hent : entryFrame m args 3 = F0 m 0 ((lg_sl ([.ref (ad 0), .int x1, .int x2]) ++ List.replicate (3 - (lg_sl ([.ref (ad 0), .int x1, .int x2])).length) Slot.unset).toArray) [] := by rw [ha, lg_entry_eq]
  rw [hent]
  generalize (lg_sl ([.ref (ad 0), .int x1, .int x2]) ++ List.replicate (3 - (lg_sl ([.ref (ad 0), .int x1, .int x2])).length) Slot.unset).toArray = ls at hl ⊢
  have hl : lv_has ls 3 [(0, .ref (ad 0)), (1, .int x1), (2, .int x2)] := hl
  obtain ⟨H, hH⟩ : ∃ H : Heap, H = s.heap := ⟨_, rfl⟩
  have hgo : ∀ (H : Heap) (locs : List Loc), WI g 76 (cX g ad) ad V s.heap H locs → W p l e (headSpec wsX7_as rm_X7_as).room s m args below meth c H locs 0 0 (MQ below (va_Qi K (WPost 76 (cX g ad) ad g) (AW ad 76 s.heap.size)) args s 0 0 (AW ad 76 s.heap.size)) (F0 m 0 ls []) := by
    intro H locs hI
    refine lv_iload_n hx hb dX7_as_0 rfl (lv_at hl 1 rfl) ?_
    refine lv_iconst (v := (0 : Int32)) hx hb dX7_as_1 (by decide) ?_
    refine lv_aload_n hx hb dX7_as_2 rfl (lv_at hl 0 rfl) ?_
    refine xg7_2 (k := 0) hx hb hts hin7 hown hK hI (by decide) hw_0 dX7_as_3 ?_
    refine xg3_5 (k := 16) hx hb hts hin3 hown hK hI (by decide) hw_1 dX7_as_6 ?_
    refine lv_iconst (v := (1 : Int32)) hx hb dX7_as_9 (by decide) ?_
    refine lv_isub hx hb dX7_as_10 ?_
    refine x_afti (va_runS (As := [.int x1, .int (0 : Int32), .int ((V 16 5) - (1 : Int32))]) (rest := []) ⟨hx, hb, hml, hown, hts⟩ (c_X7_isOut l g ad H.size V x1 (0 : Int32) ((V 16 5) - (1 : Int32)) _ hw) (cwS 3 hts gX7_as_X7_isOut rfl rfl rfl (by decide +kernel) ⟨Nat.le_of_ble_eq_true rfl, Nat.le_of_ble_eq_true rfl⟩) (x_preS hK hE hI) rfl rfl hl.1 rfl (lv_room (Nat.le_of_ble_eq_true rfl)) dX7_as_11 ⟨Nat.zero_le _, Nat.zero_le _⟩) hI (fun r2 V1 H locs hw hI => ?_)
    refine lv_if_ne (tgt := 26) hx hb dX7_as_14 (by decide) (fun c3 => ?_) (fun c3 => ?_)
    · replace hw := hw.1 c3
      refine lv_ldc (v := (-1000001 : Int32)) hx hb hown hw_2 dX7_as_26 ?_
      exact W.iret (v := (-1000001 : Int32)) hx hb hr (x_reti hI hw) hI.2.2.2.2 dX7_as_28
    · replace hw := hw.2 c3
      refine lv_iload_n hx hb dX7_as_17 rfl (lv_at hl 2 rfl) ?_
      refine lv_iconst (v := (0 : Int32)) hx hb dX7_as_18 (by decide) ?_
      refine lv_iconst (v := (5 : Int32)) hx hb dX7_as_19 (by decide) ?_
      refine x_afti (va_runS (As := [.int x2, .int (0 : Int32), .int (5 : Int32)]) (rest := []) ⟨hx, hb, hml, hown, hts⟩ (c_X7_isOut l g ad H.size V1 x2 (0 : Int32) (5 : Int32) _ hw) (cwS 3 hts gX7_as_X7_isOut rfl rfl rfl (by decide +kernel) ⟨Nat.le_of_ble_eq_true rfl, Nat.le_of_ble_eq_true rfl⟩) (x_preS hK hE hI) rfl rfl hl.1 rfl (lv_room (Nat.le_of_ble_eq_true rfl)) dX7_as_20 ⟨Nat.zero_le _, Nat.zero_le _⟩) hI (fun r5 V4 H locs hw hI => ?_)
      refine lv_if_eq (tgt := 29) hx hb dX7_as_23 (by decide) (fun c6 => ?_) (fun c6 => ?_)
      · replace hw := hw.1 c6
        refine lv_aload_n hx hb dX7_as_29 rfl (lv_at hl 0 rfl) ?_
        refine xg7_2 (k := 0) hx hb hts hin7 hown hK hI (by decide) hw_0 dX7_as_30 ?_
        refine lv_iload_n hx hb dX7_as_33 rfl (lv_at hl 1 rfl) ?_
        refine x_afti (va_runV (As := [.int x1]) (rest := []) ⟨hx, hb, hml, hown, hts⟩ (c_X3_kindAt l g ad H.size V4 16 x1 (by decide) _ hw) (cwV 1 hts gX7_as_X3_kindAt rfl rfl rfl (by decide +kernel) ⟨Nat.le_of_ble_eq_true rfl, Nat.le_of_ble_eq_true rfl⟩) (x_preV (k := 16) hK hE hI (by decide) (cX_3 (by decide)) rfl) rfl rfl hl.1 rfl (lv_room (Nat.le_of_ble_eq_true rfl)) dX7_as_34 ⟨Nat.zero_le _, Nat.zero_le _⟩) hI (fun r8 V7 H locs hw hI => ?_)
        refine lv_iload_n hx hb dX7_as_37 rfl (lv_at hl 2 rfl) ?_
        refine x_afti (va_runS (As := [.int r8, .int x2]) (rest := []) ⟨hx, hb, hml, hown, hts⟩ (c_X7_isOfKind l g ad H.size V7 r8 x2 _ hw) (cwS 2 hts gX7_as_X7_isOfKind rfl rfl rfl (by decide +kernel) ⟨Nat.le_of_ble_eq_true rfl, Nat.le_of_ble_eq_true rfl⟩) (x_preS hK hE hI) rfl rfl hl.1 rfl (lv_room (Nat.le_of_ble_eq_true rfl)) dX7_as_38 ⟨Nat.zero_le _, Nat.zero_le _⟩) hI (fun r10 V9 H locs hw hI => ?_)
        refine lv_if_ne (tgt := 50) hx hb dX7_as_41 (by decide) (fun c11 => ?_) (fun c11 => ?_)
        · replace hw := hw.1 c11
          refine lv_aload_n hx hb dX7_as_50 rfl (lv_at hl 0 rfl) ?_
          refine lv_iconst (v := (0 : Int32)) hx hb dX7_as_51 (by decide) ?_
          refine xp7_10 (k := 0) hx hb hts hin7 hown hK hI (by decide) hw_3 dX7_as_52 (fun V12 H locs eV12 hI => ?_)
          replace hw := hw V12 eV12
          refine lv_iload_n hx hb dX7_as_55 rfl (lv_at hl 1 rfl) ?_
          exact W.iret (v := x1) hx hb hr (x_reti hI hw) hI.2.2.2.2 dX7_as_56
        · replace hw := hw.2 c11
          refine lv_aload_n hx hb dX7_as_44 rfl (lv_at hl 0 rfl) ?_
          refine lv_iconst (v := (3 : Int32)) hx hb dX7_as_45 (by decide) ?_
          refine x_afti (va_runV (As := [.int (3 : Int32)]) (rest := []) ⟨hx, hb, hml, hown, hts⟩ (c_X7_found l g ad H.size V9 (3 : Int32) _ hw) (cwV 1 hts gX7_as_X7_found rfl rfl rfl (by decide +kernel) ⟨Nat.le_of_ble_eq_true rfl, Nat.le_of_ble_eq_true rfl⟩) (x_preV (k := 0) hK hE hI (by decide) (cX_7 (by decide)) rfl) rfl rfl hl.1 rfl (lv_room (Nat.le_of_ble_eq_true rfl)) dX7_as_46 ⟨Nat.zero_le _, Nat.zero_le _⟩) hI (fun r14 V13 H locs hw hI => ?_)
          exact W.iret (v := r14) hx hb hr (x_reti hI hw) hI.2.2.2.2 dX7_as_49
      · replace hw := hw.2 c6
        refine lv_ldc (v := (-1000001 : Int32)) hx hb hown hw_2 dX7_as_26 ?_
        exact W.iret (v := (-1000001 : Int32)) hx hb hr (x_reti hI hw) hI.2.2.2.2 dX7_as_28
  exact hgo s.heap [] hI
def rm_X7_ask : Room := { frames := 6, cells := 0, slots := 0, locals := 121 }
set_option maxHeartbeats 4000000 in
set_option maxRecDepth 100000 in
theorem c_X7_ask (l : Launch) (g : GP) (ad : Nat → Nat) (sz : Nat) (V : VT) (x1 : Int32) (x2 : Int32)  (K : Int32 → VT → Prop) (hw : wp_X7_ask V x1 x2 K) : Met l yX7_ask wsX7_ask rm_X7_ask (va_Pc [.ref (ad 0), .int x1, .int x2] (WPre 76 (cX g ad) ad g V sz)) (va_Qi K (WPost 76 (cX g ad) ad g) (AW ad 76 sz)) 0 0 (AW ad 76 sz) := by
  refine Met.ofW (cc := cX7_ask) (maxL := 3) (ret := (some .int)) (by decide) rfl ?_
  intro p e s m args below meth c s₁ B hml hv
  obtain ⟨ha, hv⟩ := hv
  obtain rfl := hv.1
  have hI : WI g 76 (cX g ad) ad V s.heap s.heap [] := WI.start hv
  have hK := hv.2.2.1
  have hE := hv.2.2.2.2
  have hx := B.exec
  have hb := B.bytes
  have hr := B.returns
  have hts := atoms_spec (ws := wsX7_ask) B.pre
  have hown : s.vm.findClass RX7 = some m.cls := findClass_of_methodNamed B.named
  have hlocks := B.notSynchronized
  have hw_0 := hts (.fieldLink RX7 22 "HoopLane" "lane" "LHoopLane$Lane;") (by decide +kernel)
  have hw_1 := hts (.fieldLink RX7 134 "HoopLane$Lane" "taps" "I") (by decide +kernel)
  have hw_2 := hts (.constant RX7 76 (-1000001)) (by decide +kernel)
  have hw_3 := hts (.fieldLink RX7 53 "HoopLane" "asks" "LHoopLane$Asks;") (by decide +kernel)
  have hin7 : ∀ w ∈ wsX70, w ∈ wsX7_ask := by decide +kernel
  have hin3 : ∀ w ∈ wsX30, w ∈ wsX7_ask := by decide +kernel
  have hl := lv_entry ([.ref (ad 0), .int x1, .int x2]) (n := 3) (Nat.le_of_ble_eq_true rfl)
  have hent : entryFrame m args 3 = F0 m 0 ((lg_sl ([.ref (ad 0), .int x1, .int x2]) ++ List.replicate (3 - (lg_sl ([.ref (ad 0), .int x1, .int x2])).length) Slot.unset).toArray) [] := by rw [ha, lg_entry_eq]
  rw [hent]
  generalize (lg_sl ([.ref (ad 0), .int x1, .int x2]) ++ List.replicate (3 - (lg_sl ([.ref (ad 0), .int x1, .int x2])).length) Slot.unset).toArray = ls at hl ⊢
  have hl : lv_has ls 3 [(0, .ref (ad 0)), (1, .int x1), (2, .int x2)] := hl
  obtain ⟨H, hH⟩ : ∃ H : Heap, H = s.heap := ⟨_, rfl⟩
  have hgo : ∀ (H : Heap) (locs : List Loc), WI g 76 (cX g ad) ad V s.heap H locs → W p l e (headSpec wsX7_ask rm_X7_ask).room s m args below meth c H locs 0 0 (MQ below (va_Qi K (WPost 76 (cX g ad) ad g) (AW ad 76 s.heap.size)) args s 0 0 (AW ad 76 s.heap.size)) (F0 m 0 ls []) := by
    intro H locs hI
    refine lv_iload_n hx hb dX7_ask_0 rfl (lv_at hl 1 rfl) ?_
    refine lv_iconst (v := (0 : Int32)) hx hb dX7_ask_1 (by decide) ?_
    refine lv_aload_n hx hb dX7_ask_2 rfl (lv_at hl 0 rfl) ?_
    refine xg7_2 (k := 0) hx hb hts hin7 hown hK hI (by decide) hw_0 dX7_ask_3 ?_
    refine xg3_5 (k := 16) hx hb hts hin3 hown hK hI (by decide) hw_1 dX7_ask_6 ?_
    refine lv_iconst (v := (1 : Int32)) hx hb dX7_ask_9 (by decide) ?_
    refine lv_isub hx hb dX7_ask_10 ?_
    refine x_afti (va_runS (As := [.int x1, .int (0 : Int32), .int ((V 16 5) - (1 : Int32))]) (rest := []) ⟨hx, hb, hml, hown, hts⟩ (c_X7_isOut l g ad H.size V x1 (0 : Int32) ((V 16 5) - (1 : Int32)) _ hw) (cwS 3 hts gX7_ask_X7_isOut rfl rfl rfl (by decide +kernel) ⟨Nat.le_of_ble_eq_true rfl, Nat.le_of_ble_eq_true rfl⟩) (x_preS hK hE hI) rfl rfl hl.1 rfl (lv_room (Nat.le_of_ble_eq_true rfl)) dX7_ask_11 ⟨Nat.zero_le _, Nat.zero_le _⟩) hI (fun r2 V1 H locs hw hI => ?_)
    refine lv_if_ne (tgt := 26) hx hb dX7_ask_14 (by decide) (fun c3 => ?_) (fun c3 => ?_)
    · replace hw := hw.1 c3
      refine lv_ldc (v := (-1000001 : Int32)) hx hb hown hw_2 dX7_ask_26 ?_
      exact W.iret (v := (-1000001 : Int32)) hx hb hr (x_reti hI hw) hI.2.2.2.2 dX7_ask_28
    · replace hw := hw.2 c3
      refine lv_iload_n hx hb dX7_ask_17 rfl (lv_at hl 2 rfl) ?_
      refine lv_iconst (v := (0 : Int32)) hx hb dX7_ask_18 (by decide) ?_
      refine lv_iconst (v := (1 : Int32)) hx hb dX7_ask_19 (by decide) ?_
      refine x_afti (va_runS (As := [.int x2, .int (0 : Int32), .int (1 : Int32)]) (rest := []) ⟨hx, hb, hml, hown, hts⟩ (c_X7_isOut l g ad H.size V1 x2 (0 : Int32) (1 : Int32) _ hw) (cwS 3 hts gX7_ask_X7_isOut rfl rfl rfl (by decide +kernel) ⟨Nat.le_of_ble_eq_true rfl, Nat.le_of_ble_eq_true rfl⟩) (x_preS hK hE hI) rfl rfl hl.1 rfl (lv_room (Nat.le_of_ble_eq_true rfl)) dX7_ask_20 ⟨Nat.zero_le _, Nat.zero_le _⟩) hI (fun r5 V4 H locs hw hI => ?_)
      refine lv_if_eq (tgt := 29) hx hb dX7_ask_23 (by decide) (fun c6 => ?_) (fun c6 => ?_)
      · replace hw := hw.1 c6
        refine lv_aload_n hx hb dX7_ask_29 rfl (lv_at hl 0 rfl) ?_
        refine xg7_7 (k := 0) hx hb hts hin7 hown hK hI (by decide) hw_3 dX7_ask_30 ?_
        refine lv_aload_n hx hb dX7_ask_33 rfl (lv_at hl 0 rfl) ?_
        refine xg7_2 (k := 0) hx hb hts hin7 hown hK hI (by decide) hw_0 dX7_ask_34 ?_
        refine lv_iload_n hx hb dX7_ask_37 rfl (lv_at hl 1 rfl) ?_
        refine x_aftv (va_runV (As := [.ref (ad 16), .int x1]) (rest := []) ⟨hx, hb, hml, hown, hts⟩ (c_X1_begin l g ad H.size V4 16 x1 (by decide) _ hw) (cwV 2 hts gX7_ask_X1_begin rfl rfl rfl (by decide +kernel) ⟨Nat.le_of_ble_eq_true rfl, Nat.le_of_ble_eq_true rfl⟩) (x_preV (k := 13) hK hE hI (by decide) (cX_1 (by decide)) rfl) rfl rfl hl.1 rfl (lv_room (Nat.le_of_ble_eq_true rfl)) dX7_ask_38 ⟨Nat.zero_le _, Nat.zero_le _⟩) hI (fun V7 H locs hw hI => ?_)
        refine lv_iload_n hx hb dX7_ask_41 rfl (lv_at hl 2 rfl) ?_
        refine lv_if_ne (tgt := 55) hx hb dX7_ask_42 (by decide) (fun c8 => ?_) (fun c8 => ?_)
        · replace hw := hw.1 c8
          refine lv_aload_n hx hb dX7_ask_55 rfl (lv_at hl 0 rfl) ?_
          refine xg7_7 (k := 0) hx hb hts hin7 hown hK hI (by decide) hw_3 dX7_ask_56 ?_
          refine x_afti (va_runV (As := []) (rest := []) ⟨hx, hb, hml, hown, hts⟩ (c_X1_mark l g ad H.size V7  _ hw) (cwV 0 hts gX7_ask_X1_mark rfl rfl rfl (by decide +kernel) ⟨Nat.le_of_ble_eq_true rfl, Nat.le_of_ble_eq_true rfl⟩) (x_preV (k := 13) hK hE hI (by decide) (cX_1 (by decide)) rfl) rfl rfl hl.1 rfl (lv_room (Nat.le_of_ble_eq_true rfl)) dX7_ask_59 ⟨Nat.zero_le _, Nat.zero_le _⟩) hI (fun r10 V9 H locs hw hI => ?_)
          exact W.iret (v := r10) hx hb hr (x_reti hI hw) hI.2.2.2.2 dX7_ask_62
        · replace hw := hw.2 c8
          refine lv_aload_n hx hb dX7_ask_45 rfl (lv_at hl 0 rfl) ?_
          refine xg7_7 (k := 0) hx hb hts hin7 hown hK hI (by decide) hw_3 dX7_ask_46 ?_
          refine x_afti (va_runV (As := []) (rest := []) ⟨hx, hb, hml, hown, hts⟩ (c_X1_size l g ad H.size V7  _ hw) (cwV 0 hts gX7_ask_X1_size rfl rfl rfl (by decide +kernel) ⟨Nat.le_of_ble_eq_true rfl, Nat.le_of_ble_eq_true rfl⟩) (x_preV (k := 13) hK hE hI (by decide) (cX_1 (by decide)) rfl) rfl rfl hl.1 rfl (lv_room (Nat.le_of_ble_eq_true rfl)) dX7_ask_49 ⟨Nat.zero_le _, Nat.zero_le _⟩) hI (fun r12 V11 H locs hw hI => ?_)
          refine lv_goto (tgt := 62) hx hb dX7_ask_52 (by decide) ?_
          exact W.iret (v := r12) hx hb hr (x_reti hI hw) hI.2.2.2.2 dX7_ask_62
      · replace hw := hw.2 c6
        refine lv_ldc (v := (-1000001 : Int32)) hx hb hown hw_2 dX7_ask_26 ?_
        exact W.iret (v := (-1000001 : Int32)) hx hb hr (x_reti hI hw) hI.2.2.2.2 dX7_ask_28
  exact hgo s.heap [] hI
