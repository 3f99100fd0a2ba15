def rm_X4_first : Room := { frames := 0, cells := 0, slots := 0, locals := 0 }
set_option maxHeartbeats 4000000 in
set_option maxRecDepth 100000 in
theorem c_X4_first (l : Launch) (g : GP) (ad : Nat → Nat) (sz : Nat) (V : VT)   (K : Int32 → VT → Prop) (hw : wp_X4_first V  K) : Met l yX4_first wsX4_first rm_X4_first (va_Pc [.ref (ad 10)] (WPre 76 (cX g ad) ad g V sz)) (va_Qi K (WPost 76 (cX g ad) ad g) (AW ad 76 sz)) 0 0 (AW ad 76 sz) := by
  refine Met.ofW (cc := cX4_first) (maxL := 1) (ret := (some .int)) (by decide) rfl ?_
  intro p e s m args below meth c s₁ B hml hv
  obtain ⟨ha, hv⟩ := hv
  obtain rfl := hv.1
  have hI : WI g 76 (cX g ad) ad V s.heap s.heap [] := WI.start hv
  have hK := hv.2.2.1
  have hE := hv.2.2.2.2
  have hx := B.exec
  have hb := B.bytes
  have hr := B.returns
  have hts := atoms_spec (ws := wsX4_first) B.pre
  have hown : s.vm.findClass RX4 = some m.cls := findClass_of_methodNamed B.named
  have hlocks := B.notSynchronized
  have hw_0 := hts (.fieldLink RX4 27 "HoopLane$Paths" "home" "I") (by decide +kernel)
  have hw_1 := hts (.constant RX4 33 (-1000000)) (by decide +kernel)
  have hin4 : ∀ w ∈ wsX40, w ∈ wsX4_first := by decide +kernel
  have hl := lv_entry ([.ref (ad 10)]) (n := 1) (Nat.le_of_ble_eq_true rfl)
  have hent : entryFrame m args 1 = F0 m 0 ((lg_sl ([.ref (ad 10)]) ++ List.replicate (1 - (lg_sl ([.ref (ad 10)])).length) Slot.unset).toArray) [] := by rw [ha, lg_entry_eq]
  rw [hent]
  generalize (lg_sl ([.ref (ad 10)]) ++ List.replicate (1 - (lg_sl ([.ref (ad 10)])).length) Slot.unset).toArray = ls at hl ⊢
  have hl : lv_has ls 1 [(0, .ref (ad 10))] := hl
  obtain ⟨H, hH⟩ : ∃ H : Heap, H = s.heap := ⟨_, rfl⟩
  have hgo : ∀ (H : Heap) (locs : List Loc), WI g 76 (cX g ad) ad V s.heap H locs → W p l e (headSpec wsX4_first rm_X4_first).room s m args below meth c H locs 0 0 (MQ below (va_Qi K (WPost 76 (cX g ad) ad g) (AW ad 76 s.heap.size)) args s 0 0 (AW ad 76 s.heap.size)) (F0 m 0 ls []) := by
    intro H locs hI
    refine lv_aload_n hx hb dX4_first_0 rfl (lv_at hl 0 rfl) ?_
    refine xg4_3 (k := 10) hx hb hts hin4 hown hK hI (by decide) hw_0 dX4_first_1 ?_
    refine lv_bipush (v := (8 : Int32)) hx hb dX4_first_4 (by decide) ?_
    refine lv_irem hx hb dX4_first_6 (by decide) ?_
    refine lv_if_ne (tgt := 15) hx hb dX4_first_7 (by decide) (fun c1 => ?_) (fun c1 => ?_)
    · replace hw := hw.1 c1
      refine lv_aload_n hx hb dX4_first_15 rfl (lv_at hl 0 rfl) ?_
      refine xg4_3 (k := 10) hx hb hts hin4 hown hK hI (by decide) hw_0 dX4_first_16 ?_
      refine lv_bipush (v := (8 : Int32)) hx hb dX4_first_19 (by decide) ?_
      refine lv_irem hx hb dX4_first_21 (by decide) ?_
      refine lv_iconst (v := (1 : Int32)) hx hb dX4_first_22 (by decide) ?_
      refine lv_isub hx hb dX4_first_23 ?_
      exact W.iret (v := (((V 10 3) - (V 10 3) / (8 : Int32) * (8 : Int32)) - (1 : Int32))) hx hb hr (x_reti hI hw) hI.2.2.2.2 dX4_first_24
    · replace hw := hw.2 c1
      refine lv_ldc (v := (-1000000 : Int32)) hx hb hown hw_1 dX4_first_10 ?_
      refine lv_goto (tgt := 24) hx hb dX4_first_12 (by decide) ?_
      exact W.iret (v := (-1000000 : Int32)) hx hb hr (x_reti hI hw) hI.2.2.2.2 dX4_first_24
  exact hgo s.heap [] hI
def rm_J7_fill_53178 : Room := { frames := 0, cells := 0, slots := 0, locals := 0 }
set_option maxHeartbeats 4000000 in
set_option maxRecDepth 100000 in
theorem c_J7_fill_53178 (l : Launch) (g : GP) (ad : Nat → Nat) (sz : Nat) (V : VT) (k0 : Nat) (x1 : Int32) (hk0 : kX k0 = 9) (K : VT → Prop) (hw : wp_J7_fill_53178 V k0 x1 K) : Met l yJ7_fill_53178 wsJ7_fill_53178 rm_J7_fill_53178 (va_Pc [.ref (ad k0), .int x1] (WPre 76 (cX g ad) ad g V sz)) (va_Qv K (WPost 76 (cX g ad) ad g) (AW ad 76 sz)) 0 0 (AW ad 76 sz) := by
  refine Met.ofW (cc := cJ7_fill_53178) (maxL := 4) (ret := none) (by decide) rfl ?_
  intro p e s m args below meth c s₁ B hml hv
  obtain ⟨ha, hv⟩ := hv
  obtain rfl := hv.1
  have hI : WI g 76 (cX g ad) ad V s.heap s.heap [] := WI.start hv
  have hK := hv.2.2.1
  have hE := hv.2.2.2.2
  have hx := B.exec
  have hb := B.bytes
  have hr := B.returns
  have hts := atoms_spec (ws := wsJ7_fill_53178) B.pre
  have hown : s.vm.findClass RJ7 = some m.cls := findClass_of_methodNamed B.named
  have hlocks := B.notSynchronized
  have hl := lv_entry ([.ref (ad k0), .int x1]) (n := 4) (Nat.le_of_ble_eq_true rfl)
  have hent : entryFrame m args 4 = F0 m 0 ((lg_sl ([.ref (ad k0), .int x1]) ++ List.replicate (4 - (lg_sl ([.ref (ad k0), .int x1])).length) Slot.unset).toArray) [] := by rw [ha, lg_entry_eq]
  rw [hent]
  generalize (lg_sl ([.ref (ad k0), .int x1]) ++ List.replicate (4 - (lg_sl ([.ref (ad k0), .int x1])).length) Slot.unset).toArray = ls at hl ⊢
  have hl : lv_has ls 4 [(0, .ref (ad k0)), (1, .int x1)] := hl
  obtain ⟨H, hH⟩ : ∃ H : Heap, H = s.heap := ⟨_, rfl⟩
  have hL5 : ∀ (n5 : Nat) (V : VT) (H : Heap) (locs : List Loc) (ls : Array Slot) (k0 : Nat) (x1 : Int32) (x2 : Int32) (x3 : Int32), kX k0 = 9 → WI g 76 (cX g ad) ad V s.heap H locs → lv_has ls 4 [(0, .ref (ad k0)), (1, .int x1), (2, .int x2), (3, .int x3)] → wp_J7_fill_53178_L5 K  n5 V k0 x1 x2 x3 → W p l e (headSpec wsJ7_fill_53178 rm_J7_fill_53178).room s m args below meth c H locs 0 0 (MQ below (va_Qv K (WPost 76 (cX g ad) ad g) (AW ad 76 s.heap.size)) args s 0 0 (AW ad 76 s.heap.size)) (F0 m 5 ls []) := by
    intro n5
    induction n5 with
    | zero => intro V H locs ls k0 x1 x2 x3 hk0 hI hl hw; exact False.elim hw
    | succ n5 ihL5 =>
      intro V H locs ls k0 x1 x2 x3 hk0 hI hl hw
      refine lv_iload_n hx hb dJ7_fill_53178_5 rfl (lv_at hl 2 rfl) ?_
      refine lv_iload_n hx hb dJ7_fill_53178_6 rfl (lv_at hl 3 rfl) ?_
      refine lv_icmp_ge (tgt := 20) hx hb dJ7_fill_53178_7 (by decide) (fun c1 => ?_) (fun c1 => ?_)
      · replace hw := hw.1 c1
        exact W.vret hx hb hr (x_retv hI hw) hI.2.2.2.2 dJ7_fill_53178_20
      · replace hw := hw.2 c1
        refine lv_aload_n hx hb dJ7_fill_53178_10 rfl (lv_at hl 0 rfl) ?_
        refine lv_iload_n hx hb dJ7_fill_53178_11 rfl (lv_at hl 2 rfl) ?_
        refine lv_iload_n hx hb dJ7_fill_53178_12 rfl (lv_at hl 1 rfl) ?_
        obtain ⟨h2, hw⟩ := hw
        refine x_iastV (k := k0) hx hb hK hI (cX_loc g ad) (kX_lt hk0 (by decide)) (fun _ => cX_9 hk0 rfl) h2 dJ7_fill_53178_13 (fun V3 H locs eV3 hI => ?_)
        replace hw := hw V3 eV3
        refine lv_iinc (v := (x2 + (1 : Int32))) (lv' := [(2, .int (x2 + (1 : Int32))), (0, .ref (ad k0)), (1, .int x1), (3, .int x3)]) hx hb dJ7_fill_53178_14 hl (k := 2) rfl rfl (by decide) rfl (fun ls hl => ?_)
        refine lv_goto (tgt := 5) hx hb dJ7_fill_53178_17 (by decide) ?_
        exact ihL5 V3 H locs ls k0 x1 (x2 + (1 : Int32)) x3 hk0 hI (lv_sub hl [1, 2, 0, 3] rfl) hw
  have hgo : ∀ (H : Heap) (locs : List Loc), WI g 76 (cX g ad) ad V s.heap H locs → W p l e (headSpec wsJ7_fill_53178 rm_J7_fill_53178).room s m args below meth c H locs 0 0 (MQ below (va_Qv K (WPost 76 (cX g ad) ad g) (AW ad 76 s.heap.size)) args s 0 0 (AW ad 76 s.heap.size)) (F0 m 0 ls []) := by
    intro H locs hI
    refine lv_iconst (v := (0 : Int32)) hx hb dJ7_fill_53178_0 (by decide) ?_
    refine lv_istore_n (lv' := [(2, .int (0 : Int32)), (0, .ref (ad k0)), (1, .int x1)]) hx hb dJ7_fill_53178_1 rfl hl (by decide) rfl (fun ls hl => ?_)
    refine lv_aload_n hx hb dJ7_fill_53178_2 rfl (lv_at hl 1 rfl) ?_
    refine x_alen (k := k0) (n := (nX k0)) hx hb hK hI (kX_lt hk0 (by decide)) (cX_9 hk0 rfl) dJ7_fill_53178_3 ?_
    refine lv_istore_n (lv' := [(3, .int (nI (nX k0))), (2, .int (0 : Int32)), (0, .ref (ad k0)), (1, .int x1)]) hx hb dJ7_fill_53178_4 rfl hl (by decide) rfl (fun ls hl => ?_)
    obtain ⟨n5, hw⟩ := hw
    exact hL5 n5 V H locs ls k0 x1 (0 : Int32) (nI (nX k0)) hk0 hI (lv_sub hl [2, 3, 1, 0] rfl) hw
  exact hgo s.heap [] hI
def rm_X4_placeOf : Room := { frames := 0, cells := 0, slots := 0, locals := 0 }
set_option maxHeartbeats 4000000 in
set_option maxRecDepth 100000 in
theorem c_X4_placeOf (l : Launch) (g : GP) (ad : Nat → Nat) (sz : Nat) (V : VT) (k0 : Nat) (hk0 : kX k0 = 2) (K : Int32 → VT → Prop) (hw : wp_X4_placeOf V k0 K) : Met l yX4_placeOf wsX4_placeOf rm_X4_placeOf (va_Pc [.ref (ad k0)] (WPre 76 (cX g ad) ad g V sz)) (va_Qi K (WPost 76 (cX g ad) ad g) (AW ad 76 sz)) 0 0 (AW ad 76 sz) := by
  refine Met.ofW (cc := cX4_placeOf) (maxL := 1) (ret := (some .int)) (by decide) rfl ?_
  intro p e s m args below meth c s₁ B hml hv
  obtain ⟨ha, hv⟩ := hv
  obtain rfl := hv.1
  have hI : WI g 76 (cX g ad) ad V s.heap s.heap [] := WI.start hv
  have hK := hv.2.2.1
  have hE := hv.2.2.2.2
  have hx := B.exec
  have hb := B.bytes
  have hr := B.returns
  have hts := atoms_spec (ws := wsX4_placeOf) B.pre
  have hown : s.vm.findClass RX4 = some m.cls := findClass_of_methodNamed B.named
  have hlocks := B.notSynchronized
  have hw_0 := hts (.fieldLink RX4 87 "HoopLane$Hoop" "yard" "I") (by decide +kernel)
  have hw_1 := hts (.fieldLink RX4 94 "HoopLane$Hoop" "pace" "I") (by decide +kernel)
  have hw_2 := hts (.fieldLink RX4 97 "HoopLane$Hoop" "lean" "I") (by decide +kernel)
  have hin2 : ∀ w ∈ wsX20, w ∈ wsX4_placeOf := by decide +kernel
  have hl := lv_entry ([.ref (ad k0)]) (n := 1) (Nat.le_of_ble_eq_true rfl)
  have hent : entryFrame m args 1 = F0 m 0 ((lg_sl ([.ref (ad k0)]) ++ List.replicate (1 - (lg_sl ([.ref (ad k0)])).length) Slot.unset).toArray) [] := by rw [ha, lg_entry_eq]
  rw [hent]
  generalize (lg_sl ([.ref (ad k0)]) ++ List.replicate (1 - (lg_sl ([.ref (ad k0)])).length) Slot.unset).toArray = ls at hl ⊢
  have hl : lv_has ls 1 [(0, .ref (ad k0))] := hl
  obtain ⟨H, hH⟩ : ∃ H : Heap, H = s.heap := ⟨_, rfl⟩
  have hgo : ∀ (H : Heap) (locs : List Loc), WI g 76 (cX g ad) ad V s.heap H locs → W p l e (headSpec wsX4_placeOf rm_X4_placeOf).room s m args below meth c H locs 0 0 (MQ below (va_Qi K (WPost 76 (cX g ad) ad g) (AW ad 76 s.heap.size)) args s 0 0 (AW ad 76 s.heap.size)) (F0 m 0 ls []) := by
    intro H locs hI
    refine lv_aload_n hx hb dX4_placeOf_0 rfl (lv_at hl 0 rfl) ?_
    refine xg2_0 (k := k0) hx hb hts hin2 hown hK hI hk0 hw_0 dX4_placeOf_1 ?_
    refine lv_bipush (v := (99 : Int32)) hx hb dX4_placeOf_4 (by decide) ?_
    refine lv_imul hx hb dX4_placeOf_6 ?_
    refine lv_aload_n hx hb dX4_placeOf_7 rfl (lv_at hl 0 rfl) ?_
    refine xg2_1 (k := k0) hx hb hts hin2 hown hK hI hk0 hw_1 dX4_placeOf_8 ?_
    refine lv_iconst (v := (1 : Int32)) hx hb dX4_placeOf_11 (by decide) ?_
    refine lv_isub hx hb dX4_placeOf_12 ?_
    refine lv_bipush (v := (11 : Int32)) hx hb dX4_placeOf_13 (by decide) ?_
    refine lv_imul hx hb dX4_placeOf_15 ?_
    refine lv_iadd hx hb dX4_placeOf_16 ?_
    refine lv_aload_n hx hb dX4_placeOf_17 rfl (lv_at hl 0 rfl) ?_
    refine xg2_2 (k := k0) hx hb hts hin2 hown hK hI hk0 hw_2 dX4_placeOf_18 ?_
    refine lv_iadd hx hb dX4_placeOf_21 ?_
    refine lv_iconst (v := (5 : Int32)) hx hb dX4_placeOf_22 (by decide) ?_
    refine lv_iadd hx hb dX4_placeOf_23 ?_
    exact W.iret (v := (((((V k0 0) * (99 : Int32)) + (((V k0 1) - (1 : Int32)) * (11 : Int32))) + (V k0 2)) + (5 : Int32))) hx hb hr (x_reti hI hw) hI.2.2.2.2 dX4_placeOf_24
  exact hgo s.heap [] hI
def rm_X4_reach : Room := { frames := 1, cells := 0, slots := 0, locals := 22 }
set_option maxHeartbeats 4000000 in
set_option maxRecDepth 100000 in
theorem c_X4_reach (l : Launch) (g : GP) (ad : Nat → Nat) (sz : Nat) (V : VT) (x1 : Int32) (x2 : Int32)  (K : VT → Prop) (hw : wp_X4_reach V x1 x2 K) : Met l yX4_reach wsX4_reach rm_X4_reach (va_Pc [.ref (ad 10), .int x1, .int x2] (WPre 76 (cX g ad) ad g V sz)) (va_Qv K (WPost 76 (cX g ad) ad g) (AW ad 76 sz)) 0 0 (AW ad 76 sz) := by
  refine Met.ofW (cc := cX4_reach) (maxL := 3) (ret := none) (by decide) rfl ?_
  intro p e s m args below meth c s₁ B hml hv
  obtain ⟨ha, hv⟩ := hv
  obtain rfl := hv.1
  have hI : WI g 76 (cX g ad) ad V s.heap s.heap [] := WI.start hv
  have hK := hv.2.2.1
  have hE := hv.2.2.2.2
  have hx := B.exec
  have hb := B.bytes
  have hr := B.returns
  have hts := atoms_spec (ws := wsX4_reach) B.pre
  have hown : s.vm.findClass RX4 = some m.cls := findClass_of_methodNamed B.named
  have hlocks := B.notSynchronized
  have hw_0 := hts (.fieldLink RX4 11 "HoopLane$Paths" "least" "[I") (by decide +kernel)
  have hw_1 := hts (.methodLink RX4 84 Lib.Math.min.name) (by decide +kernel)
  have hw_2 := hts (.static Lib.Math.min.name) (by decide +kernel)
  have hw_3 := hts (.initialized "java/lang/Math") (by decide +kernel)
  have hw_4 := hts (.code Lib.Math.min.name Lib.Math.min.code 2 (some .int)) (by decide +kernel)
  have hw_5 := hts (.initialized RX7) (by decide +kernel)
  have hw_6 := hts (.static yX7_isOut) (by decide +kernel)
  have hin4 : ∀ w ∈ wsX40, w ∈ wsX4_reach := by decide +kernel
  have hl := lv_entry ([.ref (ad 10), .int x1, .int x2]) (n := 3) (Nat.le_of_ble_eq_true rfl)
  have hent : entryFrame m args 3 = F0 m 0 ((lg_sl ([.ref (ad 10), .int x1, .int x2]) ++ List.replicate (3 - (lg_sl ([.ref (ad 10), .int x1, .int x2])).length) Slot.unset).toArray) [] := by rw [ha, lg_entry_eq]
  rw [hent]
  generalize (lg_sl ([.ref (ad 10), .int x1, .int x2]) ++ List.replicate (3 - (lg_sl ([.ref (ad 10), .int x1, .int x2])).length) Slot.unset).toArray = ls at hl ⊢
  have hl : lv_has ls 3 [(0, .ref (ad 10)), (1, .int x1), (2, .int x2)] := hl
  obtain ⟨H, hH⟩ : ∃ H : Heap, H = s.heap := ⟨_, rfl⟩
  have hgo : ∀ (H : Heap) (locs : List Loc), WI g 76 (cX g ad) ad V s.heap H locs → W p l e (headSpec wsX4_reach rm_X4_reach).room s m args below meth c H locs 0 0 (MQ below (va_Qv K (WPost 76 (cX g ad) ad g) (AW ad 76 s.heap.size)) args s 0 0 (AW ad 76 s.heap.size)) (F0 m 0 ls []) := by
    intro H locs hI
    refine lv_iload_n hx hb dX4_reach_0 rfl (lv_at hl 1 rfl) ?_
    refine lv_iconst (v := (0 : Int32)) hx hb dX4_reach_1 (by decide) ?_
    refine lv_aload_n hx hb dX4_reach_2 rfl (lv_at hl 0 rfl) ?_
    refine xg4_0 (k := 10) hx hb hts hin4 hown hK hI (by decide) hw_0 dX4_reach_3 ?_
    refine x_alen (k := 11) (n := 2376) hx hb hK hI (by decide) (cX_9 (by decide) (by decide)) dX4_reach_6 ?_
    refine lv_iconst (v := (1 : Int32)) hx hb dX4_reach_7 (by decide) ?_
    refine lv_isub hx hb dX4_reach_8 ?_
    refine x_afti (va_runSN (As := [.int x1, .int (0 : Int32), .int ((nI 2376) - (1 : Int32))]) (rest := []) ⟨hx, hb, hml, hown, hts⟩ (c_X7_isOut l g ad H.size V x1 (0 : Int32) ((nI 2376) - (1 : Int32)) _ hw) ⟨va_cnB 3 hts gX4_reach_X7_isOut_n90 rfl rfl rfl (hE.1 _ (List.mem_of_getElem? (i := 3) rfl)) hw_5 (by decide +kernel) ⟨Nat.le_of_ble_eq_true rfl, Nat.le_of_ble_eq_true rfl⟩, hw_6, trivial⟩ (x_preS hK hE hI) rfl rfl hl.1 rfl (lv_room (Nat.le_of_ble_eq_true rfl)) dX4_reach_9 ⟨Nat.zero_le _, Nat.zero_le _⟩) hI (fun r2 V1 H locs hw hI => ?_)
    refine lv_if_ne (tgt := 31) hx hb dX4_reach_12 (by decide) (fun c3 => ?_) (fun c3 => ?_)
    · replace hw := hw.1 c3
      exact W.vret hx hb hr (x_retv hI hw) hI.2.2.2.2 dX4_reach_31
    · replace hw := hw.2 c3
      refine lv_aload_n hx hb dX4_reach_15 rfl (lv_at hl 0 rfl) ?_
      refine xg4_0 (k := 10) hx hb hts hin4 hown hK hI (by decide) hw_0 dX4_reach_16 ?_
      refine lv_iload_n hx hb dX4_reach_19 rfl (lv_at hl 1 rfl) ?_
      refine lv_aload_n hx hb dX4_reach_20 rfl (lv_at hl 0 rfl) ?_
      refine xg4_0 (k := 10) hx hb hts hin4 hown hK hI (by decide) hw_0 dX4_reach_21 ?_
      refine lv_iload_n hx hb dX4_reach_24 rfl (lv_at hl 1 rfl) ?_
      obtain ⟨h4, hw⟩ := hw
      refine x_iald (k := 11) hx hb hK hI (by decide) (cX_9 (by decide) (by decide)) h4 dX4_reach_25 ?_
      refine lv_iload_n hx hb dX4_reach_26 rfl (lv_at hl 2 rfl) ?_
      refine va_mmin hx hb (hml.trans hl.1.symm) hown hw_1 hw_2 hw_3 hw_4 (Nat.le_of_ble_eq_true rfl) (Nat.le_of_ble_eq_true rfl) (Nat.zero_le _) (Nat.zero_le _) dX4_reach_27 ?_
      obtain ⟨h5, hw⟩ := hw
      refine x_iastV (k := 11) hx hb hK hI (cX_loc g ad) (by decide) (fun _ => cX_9 (by decide) (by decide)) h5 dX4_reach_30 (fun V6 H locs eV6 hI => ?_)
      replace hw := hw V6 eV6
      exact W.vret hx hb hr (x_retv hI hw) hI.2.2.2.2 dX4_reach_31
  exact hgo s.heap [] hI
def rm_X4_spread : Room := { frames := 4, cells := 0, slots := 0, locals := 81 }
set_option maxHeartbeats 4000000 in
set_option maxRecDepth 100000 in
theorem c_X4_spread (l : Launch) (g : GP) (ad : Nat → Nat) (sz : Nat) (V : VT) (k1 : Nat) (x2 : Int32) (x3 : Int32) (x4 : Int32) (hk1 : kX k1 = 3) (K : VT → Prop) (hw : wp_X4_spread V k1 x2 x3 x4 K) : Met l yX4_spread wsX4_spread rm_X4_spread (va_Pc [.ref (ad 10), .ref (ad k1), .int x2, .int x3, .int x4] (WPre 76 (cX g ad) ad g V sz)) (va_Qv K (WPost 76 (cX g ad) ad g) (AW ad 76 sz)) 0 0 (AW ad 76 sz) := by
  refine Met.ofW (cc := cX4_spread) (maxL := 7) (ret := none) (by decide) rfl ?_
  intro p e s m args below meth c s₁ B hml hv
  obtain ⟨ha, hv⟩ := hv
  obtain rfl := hv.1
  have hI : WI g 76 (cX g ad) ad V s.heap s.heap [] := WI.start hv
  have hK := hv.2.2.1
  have hE := hv.2.2.2.2
  have hx := B.exec
  have hb := B.bytes
  have hr := B.returns
  have hts := atoms_spec (ws := wsX4_spread) B.pre
  have hown : s.vm.findClass RX4 = some m.cls := findClass_of_methodNamed B.named
  have hlocks := B.notSynchronized
  have hw_0 := hts (.fieldLink RX4 66 "HoopLane$Lane" "taps" "I") (by decide +kernel)
  have hw_1 := hts (.fieldLink RX4 18 "HoopLane$Paths" "trial" "LHoopLane$Hoop;") (by decide +kernel)
  have hw_2 := hts (.fieldLink RX4 11 "HoopLane$Paths" "least" "[I") (by decide +kernel)
  have hw_3 := hts (.fieldLink RX4 22 "HoopLane$Paths" "start" "I") (by decide +kernel)
  have hw_4 := hts (.fieldLink RX4 34 "HoopLane$Hoop" "end" "I") (by decide +kernel)
  have hw_5 := hts (.fieldLink RX4 30 "HoopLane$Paths" "falls" "I") (by decide +kernel)
  have hw_6 := hts (.fieldLink RX4 87 "HoopLane$Hoop" "yard" "I") (by decide +kernel)
  have hw_7 := hts (.fieldLink RX4 27 "HoopLane$Paths" "home" "I") (by decide +kernel)
  have hw_8 := hts (.methodLink RX4 84 Lib.Math.min.name) (by decide +kernel)
  have hw_9 := hts (.static Lib.Math.min.name) (by decide +kernel)
  have hw_10 := hts (.initialized "java/lang/Math") (by decide +kernel)
  have hw_11 := hts (.code Lib.Math.min.name Lib.Math.min.code 2 (some .int)) (by decide +kernel)
  have hin3 : ∀ w ∈ wsX30, w ∈ wsX4_spread := by decide +kernel
  have hin4 : ∀ w ∈ wsX40, w ∈ wsX4_spread := by decide +kernel
  have hin2 : ∀ w ∈ wsX20, w ∈ wsX4_spread := by decide +kernel
  have hl := lv_entry ([.ref (ad 10), .ref (ad k1), .int x2, .int x3, .int x4]) (n := 7) (Nat.le_of_ble_eq_true rfl)
  have hent : entryFrame m args 7 = F0 m 0 ((lg_sl ([.ref (ad 10), .ref (ad k1), .int x2, .int x3, .int x4]) ++ List.replicate (7 - (lg_sl ([.ref (ad 10), .ref (ad k1), .int x2, .int x3, .int x4])).length) Slot.unset).toArray) [] := by rw [ha, lg_entry_eq]
  rw [hent]
  generalize (lg_sl ([.ref (ad 10), .ref (ad k1), .int x2, .int x3, .int x4]) ++ List.replicate (7 - (lg_sl ([.ref (ad 10), .ref (ad k1), .int x2, .int x3, .int x4])).length) Slot.unset).toArray = ls at hl ⊢
  have hl : lv_has ls 7 [(0, .ref (ad 10)), (1, .ref (ad k1)), (2, .int x2), (3, .int x3), (4, .int x4)] := hl
  obtain ⟨H, hH⟩ : ∃ H : Heap, H = s.heap := ⟨_, rfl⟩
  have hL3 : ∀ (n3 : Nat) (V : VT) (H : Heap) (locs : List Loc) (ls : Array Slot) (k1 : Nat) (x2 : Int32) (x3 : Int32) (x4 : Int32) (x5 : Int32), kX k1 = 3 → WI g 76 (cX g ad) ad V s.heap H locs → lv_has ls 7 [(0, .ref (ad 10)), (1, .ref (ad k1)), (2, .int x2), (3, .int x3), (4, .int x4), (5, .int x5)] → wp_X4_spread_L3 K  n3 V k1 x2 x3 x4 x5 → W p l e (headSpec wsX4_spread rm_X4_spread).room s m args below meth c H locs 0 0 (MQ below (va_Qv K (WPost 76 (cX g ad) ad g) (AW ad 76 s.heap.size)) args s 0 0 (AW ad 76 s.heap.size)) (F0 m 3 ls []) := by
    intro n3
    induction n3 with
    | zero => intro V H locs ls k1 x2 x3 x4 x5 hk1 hI hl hw; exact False.elim hw
    | succ n3 ihL3 =>
      have hb172 : ∀ (V : VT) (H : Heap) (locs : List Loc) (ls : Array Slot) (k1 : Nat) (x2 : Int32) (x3 : Int32) (x4 : Int32) (x5 : Int32), kX k1 = 3 → WI g 76 (cX g ad) ad V s.heap H locs → lv_has ls 7 [(0, .ref (ad 10)), (1, .ref (ad k1)), (2, .int x2), (3, .int x3), (4, .int x4), (5, .int x5)] → wp_X4_spread_b172 K (wp_X4_spread_L3 K  n3) V k1 x2 x3 x4 x5 → W p l e (headSpec wsX4_spread rm_X4_spread).room s m args below meth c H locs 0 0 (MQ below (va_Qv K (WPost 76 (cX g ad) ad g) (AW ad 76 s.heap.size)) args s 0 0 (AW ad 76 s.heap.size)) (F0 m 172 ls []) := by
        intro V H locs ls k1 x2 x3 x4 x5 hk1 hI hl hw
        refine lv_iinc (v := (x5 + (1 : Int32))) (lv' := [(5, .int (x5 + (1 : Int32))), (0, .ref (ad 10)), (1, .ref (ad k1)), (2, .int x2), (3, .int x3), (4, .int x4)]) hx hb dX4_spread_172 hl (k := 5) rfl rfl (by decide) rfl (fun ls hl => ?_)
        refine lv_goto (tgt := 3) hx hb dX4_spread_175 (by decide) ?_
        exact ihL3 V H locs ls k1 x2 x3 x4 (x5 + (1 : Int32)) hk1 hI (lv_sub hl [1, 2, 3, 4, 5, 0] rfl) hw
      have hb100 : ∀ (V : VT) (H : Heap) (locs : List Loc) (ls : Array Slot) (k1 : Nat) (x2 : Int32) (x3 : Int32) (x4 : Int32) (x5 : Int32) (x6 : Int32), kX k1 = 3 → WI g 76 (cX g ad) ad V s.heap H locs → lv_has ls 7 [(0, .ref (ad 10)), (1, .ref (ad k1)), (2, .int x2), (3, .int x3), (4, .int x4), (5, .int x5), (6, .int x6)] → wp_X4_spread_b100 K (wp_X4_spread_L3 K  n3) V k1 x2 x3 x4 x5 x6 → W p l e (headSpec wsX4_spread rm_X4_spread).room s m args below meth c H locs 0 0 (MQ below (va_Qv K (WPost 76 (cX g ad) ad g) (AW ad 76 s.heap.size)) args s 0 0 (AW ad 76 s.heap.size)) (F0 m 100 ls []) := by
        intro V H locs ls k1 x2 x3 x4 x5 x6 hk1 hI hl hw
        refine lv_aload_n hx hb dX4_spread_100 rfl (lv_at hl 0 rfl) ?_
        refine xg4_1 (k := 10) hx hb hts hin4 hown hK hI (by decide) hw_1 dX4_spread_101 ?_
        refine xg2_3 (k := 12) hx hb hts hin2 hown hK hI (by decide) hw_4 dX4_spread_104 ?_
        refine lv_iconst (v := (2 : Int32)) hx hb dX4_spread_107 (by decide) ?_
        refine lv_icmp_ne (tgt := 127) hx hb dX4_spread_108 (by decide) (fun c11 => ?_) (fun c11 => ?_)
        · replace hw := hw.1 c11
          refine lv_aload_n hx hb dX4_spread_127 rfl (lv_at hl 0 rfl) ?_
          refine xg4_1 (k := 10) hx hb hts hin4 hown hK hI (by decide) hw_1 dX4_spread_128 ?_
          refine xg2_3 (k := 12) hx hb hts hin2 hown hK hI (by decide) hw_4 dX4_spread_131 ?_
          refine lv_iconst (v := (1 : Int32)) hx hb dX4_spread_134 (by decide) ?_
          refine lv_icmp_ne (tgt := 159) hx hb dX4_spread_135 (by decide) (fun c12 => ?_) (fun c12 => ?_)
          · replace hw := hw.1 c12
            refine lv_aload_n hx hb dX4_spread_159 rfl (lv_at hl 0 rfl) ?_
            refine lv_aload_n hx hb dX4_spread_160 rfl (lv_at hl 0 rfl) ?_
            refine xg4_1 (k := 10) hx hb hts hin4 hown hK hI (by decide) hw_1 dX4_spread_161 ?_
            refine x_afti (va_runS (As := [.ref (ad 12)]) (rest := [.ref (ad 10)]) ⟨hx, hb, hml, hown, hts⟩ (c_X4_placeOf l g ad H.size V 12 (by decide) _ hw) (cwS 1 hts gX4_spread_X4_placeOf rfl rfl rfl (by decide +kernel) ⟨Nat.le_of_ble_eq_true rfl, Nat.le_of_ble_eq_true rfl⟩) (x_preS hK hE hI) rfl rfl hl.1 rfl (lv_room (Nat.le_of_ble_eq_true rfl)) dX4_spread_164 ⟨Nat.zero_le _, Nat.zero_le _⟩) hI (fun r14 V13 H locs hw hI => ?_)
            refine lv_iload hx hb dX4_spread_167 (lv_at hl 6 rfl) ?_
            refine x_aftv (va_runV (As := [.int r14, .int x6]) (rest := []) ⟨hx, hb, hml, hown, hts⟩ (c_X4_reach l g ad H.size V13 r14 x6 _ hw) (cwV 2 hts gX4_spread_X4_reach rfl rfl rfl (by decide +kernel) ⟨Nat.le_of_ble_eq_true rfl, Nat.le_of_ble_eq_true rfl⟩) (x_preV (k := 10) hK hE hI (by decide) (cX_4 (by decide)) rfl) rfl rfl hl.1 rfl (lv_room (Nat.le_of_ble_eq_true rfl)) dX4_spread_169 ⟨Nat.zero_le _, Nat.zero_le _⟩) hI (fun V15 H locs hw hI => ?_)
            exact hb172 V15 H locs ls k1 x2 x3 x4 x5 hk1 hI (lv_sub hl [0, 1, 2, 3, 4, 5] rfl) hw
          · replace hw := hw.2 c12
            refine lv_aload_n hx hb dX4_spread_138 rfl (lv_at hl 0 rfl) ?_
            refine lv_dup hx hb dX4_spread_139 rfl ?_
            refine xg4_4 (k := 10) hx hb hts hin4 hown hK hI (by decide) hw_5 dX4_spread_140 ?_
            refine lv_iconst (v := (1 : Int32)) hx hb dX4_spread_143 (by decide) ?_
            refine lv_aload_n hx hb dX4_spread_144 rfl (lv_at hl 0 rfl) ?_
            refine xg4_1 (k := 10) hx hb hts hin4 hown hK hI (by decide) hw_1 dX4_spread_145 ?_
            refine xg2_0 (k := 12) hx hb hts hin2 hown hK hI (by decide) hw_6 dX4_spread_148 ?_
            refine lv_ishl hx hb dX4_spread_151 ?_
            refine lv_ior hx hb dX4_spread_152 ?_
            refine xp4_4 (k := 10) hx hb hts hin4 hown hK hI (by decide) hw_5 dX4_spread_153 (fun V16 H locs eV16 hI => ?_)
            replace hw := hw V16 eV16
            refine lv_goto (tgt := 172) hx hb dX4_spread_156 (by decide) ?_
            exact hb172 V16 H locs ls k1 x2 x3 x4 x5 hk1 hI (lv_sub hl [0, 1, 2, 3, 4, 5] rfl) hw
        · replace hw := hw.2 c11
          refine lv_aload_n hx hb dX4_spread_111 rfl (lv_at hl 0 rfl) ?_
          refine lv_aload_n hx hb dX4_spread_112 rfl (lv_at hl 0 rfl) ?_
          refine xg4_3 (k := 10) hx hb hts hin4 hown hK hI (by decide) hw_7 dX4_spread_113 ?_
          refine lv_iload hx hb dX4_spread_116 (lv_at hl 6 rfl) ?_
          refine va_mmin hx hb (hml.trans hl.1.symm) hown hw_8 hw_9 hw_10 hw_11 (Nat.le_of_ble_eq_true rfl) (Nat.le_of_ble_eq_true rfl) (Nat.zero_le _) (Nat.zero_le _) dX4_spread_118 ?_
          refine xp4_3 (k := 10) hx hb hts hin4 hown hK hI (by decide) hw_7 dX4_spread_121 (fun V17 H locs eV17 hI => ?_)
          replace hw := hw V17 eV17
          refine lv_goto (tgt := 172) hx hb dX4_spread_124 (by decide) ?_
          exact hb172 V17 H locs ls k1 x2 x3 x4 x5 hk1 hI (lv_sub hl [0, 1, 2, 3, 4, 5] rfl) hw
      have hb76 : ∀ (V : VT) (H : Heap) (locs : List Loc) (ls : Array Slot) (k1 : Nat) (x2 : Int32) (x3 : Int32) (x4 : Int32) (x5 : Int32) (s0 : Int32) (s1 : Int32) (s2 : Int32), kX k1 = 3 → WI g 76 (cX g ad) ad V s.heap H locs → lv_has ls 7 [(0, .ref (ad 10)), (1, .ref (ad k1)), (2, .int x2), (3, .int x3), (4, .int x4), (5, .int x5)] → wp_X4_spread_b76 K (wp_X4_spread_L3 K  n3) V k1 x2 x3 x4 x5 s0 s1 s2 → W p l e (headSpec wsX4_spread rm_X4_spread).room s m args below meth c H locs 0 0 (MQ below (va_Qv K (WPost 76 (cX g ad) ad g) (AW ad 76 s.heap.size)) args s 0 0 (AW ad 76 s.heap.size)) (F0 m 76 ls [.int s2, .int s1, .int s0]) := by
        intro V H locs ls k1 x2 x3 x4 x5 s0 s1 s2 hk1 hI hl hw
        refine lv_iadd hx hb dX4_spread_76 ?_
        refine lv_bipush (v := (8 : Int32)) hx hb dX4_spread_77 (by decide) ?_
        refine lv_imul hx hb dX4_spread_79 ?_
        refine lv_iadd hx hb dX4_spread_80 ?_
        refine lv_istore (lv' := [(6, .int (s0 + ((s1 + s2) * (8 : Int32)))), (0, .ref (ad 10)), (1, .ref (ad k1)), (2, .int x2), (3, .int x3), (4, .int x4), (5, .int x5)]) hx hb dX4_spread_81 hl (by decide) rfl (fun ls hl => ?_)
        refine lv_iload_n hx hb dX4_spread_83 rfl (lv_at hl 3 rfl) ?_
        refine lv_aload_n hx hb dX4_spread_84 rfl (lv_at hl 1 rfl) ?_
        refine xg4_2 (k := 10) hx hb hts hin4 hown hK hI (by decide) hw_3 dX4_spread_85 ?_
        refine lv_icmp_ne (tgt := 100) hx hb dX4_spread_88 (by decide) (fun c10 => ?_) (fun c10 => ?_)
        · replace hw := hw.1 c10
          exact hb100 V H locs ls k1 x2 x3 x4 x5 (s0 + ((s1 + s2) * (8 : Int32))) hk1 hI (lv_sub hl [1, 2, 3, 4, 5, 6, 0] rfl) hw
        · replace hw := hw.2 c10
          refine lv_iload hx hb dX4_spread_91 (lv_at hl 0 rfl) ?_
          refine lv_iload hx hb dX4_spread_93 (lv_at hl 6 rfl) ?_
          refine lv_iconst (v := (1 : Int32)) hx hb dX4_spread_95 (by decide) ?_
          refine lv_iadd hx hb dX4_spread_96 ?_
          refine lv_iadd hx hb dX4_spread_97 ?_
          refine lv_istore (lv' := [(6, .int ((s0 + ((s1 + s2) * (8 : Int32))) + (x5 + (1 : Int32)))), (0, .ref (ad 10)), (1, .ref (ad k1)), (2, .int x2), (3, .int x3), (4, .int x4), (5, .int x5)]) hx hb dX4_spread_98 hl (by decide) rfl (fun ls hl => ?_)
          exact hb100 V H locs ls k1 x2 x3 x4 x5 ((s0 + ((s1 + s2) * (8 : Int32))) + (x5 + (1 : Int32))) hk1 hI (lv_sub hl [1, 2, 3, 4, 5, 6, 0] rfl) hw
      intro V H locs ls k1 x2 x3 x4 x5 hk1 hI hl hw
      refine lv_iload hx hb dX4_spread_3 (lv_at hl 5 rfl) ?_
      refine lv_aload_n hx hb dX4_spread_5 rfl (lv_at hl 1 rfl) ?_
      refine xg3_5 (k := k1) hx hb hts hin3 hown hK hI hk1 hw_0 dX4_spread_6 ?_
      refine lv_icmp_ge (tgt := 178) hx hb dX4_spread_9 (by decide) (fun c1 => ?_) (fun c1 => ?_)
      · replace hw := hw.1 c1
        exact W.vret hx hb hr (x_retv hI hw) hI.2.2.2.2 dX4_spread_178
      · replace hw := hw.2 c1
        refine lv_aload_n hx hb dX4_spread_12 rfl (lv_at hl 0 rfl) ?_
        refine xg4_1 (k := 10) hx hb hts hin4 hown hK hI (by decide) hw_1 dX4_spread_13 ?_
        refine lv_iload_n hx hb dX4_spread_16 rfl (lv_at hl 2 rfl) ?_
        refine lv_bipush (v := (99 : Int32)) hx hb dX4_spread_17 (by decide) ?_
        refine lv_idiv hx hb dX4_spread_19 (by decide) ?_
        refine lv_iload_n hx hb dX4_spread_20 rfl (lv_at hl 2 rfl) ?_
        refine lv_bipush (v := (99 : Int32)) hx hb dX4_spread_21 (by decide) ?_
        refine lv_irem hx hb dX4_spread_23 (by decide) ?_
        refine lv_bipush (v := (11 : Int32)) hx hb dX4_spread_24 (by decide) ?_
        refine lv_idiv hx hb dX4_spread_26 (by decide) ?_
        refine lv_iconst (v := (1 : Int32)) hx hb dX4_spread_27 (by decide) ?_
        refine lv_iadd hx hb dX4_spread_28 ?_
        refine lv_iload_n hx hb dX4_spread_29 rfl (lv_at hl 2 rfl) ?_
        refine lv_bipush (v := (11 : Int32)) hx hb dX4_spread_30 (by decide) ?_
        refine lv_irem hx hb dX4_spread_32 (by decide) ?_
        refine lv_iconst (v := (5 : Int32)) hx hb dX4_spread_33 (by decide) ?_
        refine lv_isub hx hb dX4_spread_34 ?_
        refine x_aftv (va_runV (As := [.int (x2 / (99 : Int32)), .int (((x2 - x2 / (99 : Int32) * (99 : Int32)) / (11 : Int32)) + (1 : Int32)), .int ((x2 - x2 / (11 : Int32) * (11 : Int32)) - (5 : Int32))]) (rest := []) ⟨hx, hb, hml, hown, hts⟩ (c_X2_stand l g ad H.size V 12 (x2 / (99 : Int32)) (((x2 - x2 / (99 : Int32) * (99 : Int32)) / (11 : Int32)) + (1 : Int32)) ((x2 - x2 / (11 : Int32) * (11 : Int32)) - (5 : Int32)) (by decide) _ hw) (cwV 3 hts gX4_spread_X2_stand rfl rfl rfl (by decide +kernel) ⟨Nat.le_of_ble_eq_true rfl, Nat.le_of_ble_eq_true rfl⟩) (x_preV (k := 12) hK hE hI (by decide) (cX_2 (by decide)) rfl) rfl rfl hl.1 rfl (lv_room (Nat.le_of_ble_eq_true rfl)) dX4_spread_35 ⟨Nat.zero_le _, Nat.zero_le _⟩) hI (fun V2 H locs hw hI => ?_)
        refine lv_aload_n hx hb dX4_spread_38 rfl (lv_at hl 0 rfl) ?_
        refine xg4_1 (k := 10) hx hb hts hin4 hown hK hI (by decide) hw_1 dX4_spread_39 ?_
        refine lv_aload_n hx hb dX4_spread_42 rfl (lv_at hl 1 rfl) ?_
        refine lv_aload_n hx hb dX4_spread_43 rfl (lv_at hl 1 rfl) ?_
        refine lv_iload hx hb dX4_spread_44 (lv_at hl 5 rfl) ?_
        refine x_afti (va_runV (As := [.int x5]) (rest := [.ref (ad k1), .ref (ad 12)]) ⟨hx, hb, hml, hown, hts⟩ (c_X3_kindAt l g ad H.size V2 k1 x5 hk1 _ hw) (cwV 1 hts gX4_spread_X3_kindAt rfl rfl rfl (by decide +kernel) ⟨Nat.le_of_ble_eq_true rfl, Nat.le_of_ble_eq_true rfl⟩) (x_preV (k := k1) hK hE hI (kX_lt hk1 (by decide)) (cX_3 hk1) rfl) rfl rfl hl.1 rfl (lv_room (Nat.le_of_ble_eq_true rfl)) dX4_spread_46 ⟨Nat.zero_le _, Nat.zero_le _⟩) hI (fun r4 V3 H locs hw hI => ?_)
        refine lv_aload_n hx hb dX4_spread_49 rfl (lv_at hl 1 rfl) ?_
        refine lv_iload hx hb dX4_spread_50 (lv_at hl 5 rfl) ?_
        refine x_afti (va_runV (As := [.int x5]) (rest := [.int r4, .ref (ad k1), .ref (ad 12)]) ⟨hx, hb, hml, hown, hts⟩ (c_X3_forceAt l g ad H.size V3 k1 x5 hk1 _ hw) (cwV 1 hts gX4_spread_X3_forceAt rfl rfl rfl (by decide +kernel) ⟨Nat.le_of_ble_eq_true rfl, Nat.le_of_ble_eq_true rfl⟩) (x_preV (k := k1) hK hE hI (kX_lt hk1 (by decide)) (cX_3 hk1) rfl) rfl rfl hl.1 rfl (lv_room (Nat.le_of_ble_eq_true rfl)) dX4_spread_52 ⟨Nat.zero_le _, Nat.zero_le _⟩) hI (fun r6 V5 H locs hw hI => ?_)
        refine x_aftv (va_runV (As := [.ref (ad k1), .int r4, .int r6]) (rest := []) ⟨hx, hb, hml, hown, hts⟩ (c_X2_pass l g ad H.size V5 12 k1 r4 r6 (by decide) hk1 _ hw) (cwV 3 hts gX4_spread_X2_pass rfl rfl rfl (by decide +kernel) ⟨Nat.le_of_ble_eq_true rfl, Nat.le_of_ble_eq_true rfl⟩) (x_preV (k := 12) hK hE hI (by decide) (cX_2 (by decide)) rfl) rfl rfl hl.1 rfl (lv_room (Nat.le_of_ble_eq_true rfl)) dX4_spread_55 ⟨Nat.zero_le _, Nat.zero_le _⟩) hI (fun V7 H locs hw hI => ?_)
        refine lv_aload_n hx hb dX4_spread_58 rfl (lv_at hl 0 rfl) ?_
        refine xg4_0 (k := 10) hx hb hts hin4 hown hK hI (by decide) hw_2 dX4_spread_59 ?_
        refine lv_iload_n hx hb dX4_spread_62 rfl (lv_at hl 2 rfl) ?_
        obtain ⟨h8, hw⟩ := hw
        refine x_iald (k := 11) hx hb hK hI (by decide) (cX_9 (by decide) (by decide)) h8 dX4_spread_63 ?_
        refine lv_iload hx hb dX4_spread_64 (lv_at hl 4 rfl) ?_
        refine lv_iload hx hb dX4_spread_66 (lv_at hl 5 rfl) ?_
        refine lv_if_ge (tgt := 75) hx hb dX4_spread_68 (by decide) (fun c9 => ?_) (fun c9 => ?_)
        · replace hw := hw.1 c9
          refine lv_iload_n hx hb dX4_spread_75 rfl (lv_at hl 3 rfl) ?_
          exact hb76 V7 H locs ls k1 x2 x3 x4 x5 (V7 11 (x2).toNatClampNeg) x4 x3 hk1 hI (lv_sub hl [0, 1, 2, 3, 4, 5] rfl) hw
        · replace hw := hw.2 c9
          refine lv_iconst (v := (0 : Int32)) hx hb dX4_spread_71 (by decide) ?_
          refine lv_goto (tgt := 76) hx hb dX4_spread_72 (by decide) ?_
          exact hb76 V7 H locs ls k1 x2 x3 x4 x5 (V7 11 (x2).toNatClampNeg) x4 (0 : Int32) hk1 hI (lv_sub hl [0, 1, 2, 3, 4, 5] rfl) hw
  have hgo : ∀ (H : Heap) (locs : List Loc), WI g 76 (cX g ad) ad V s.heap H locs → W p l e (headSpec wsX4_spread rm_X4_spread).room s m args below meth c H locs 0 0 (MQ below (va_Qv K (WPost 76 (cX g ad) ad g) (AW ad 76 s.heap.size)) args s 0 0 (AW ad 76 s.heap.size)) (F0 m 0 ls []) := by
    intro H locs hI
    refine lv_iconst (v := (-1 : Int32)) hx hb dX4_spread_0 (by decide) ?_
    refine lv_istore (lv' := [(5, .int (-1 : Int32)), (0, .ref (ad 10)), (1, .ref (ad k1)), (2, .int x2), (3, .int x3), (4, .int x4)]) hx hb dX4_spread_1 hl (by decide) rfl (fun ls hl => ?_)
    obtain ⟨n3, hw⟩ := hw
    exact hL3 n3 V H locs ls k1 x2 x3 x4 (-1 : Int32) hk1 hI (lv_sub hl [1, 2, 3, 4, 5, 0] rfl) hw
  exact hgo s.heap [] hI
def rm_X4_walk : Room := { frames := 5, cells := 0, slots := 0, locals := 107 }
set_option maxHeartbeats 4000000 in
set_option maxRecDepth 100000 in
theorem c_X4_walk (l : Launch) (g : GP) (ad : Nat → Nat) (sz : Nat) (V : VT) (k1 : Nat) (k2 : Nat) (x3 : Int32) (x4 : Int32) (x5 : Int32) (hk1 : kX k1 = 3) (hk2 : kX k2 = 2) (K : VT → Prop) (hw : wp_X4_walk V k1 k2 x3 x4 x5 K) : Met l yX4_walk wsX4_walk rm_X4_walk (va_Pc [.ref (ad 10), .ref (ad k1), .ref (ad k2), .int x3, .int x4, .int x5] (WPre 76 (cX g ad) ad g V sz)) (va_Qv K (WPost 76 (cX g ad) ad g) (AW ad 76 sz)) 0 0 (AW ad 76 sz) := by
  refine Met.ofW (cc := cX4_walk) (maxL := 7) (ret := none) (by decide) rfl ?_
  intro p e s m args below meth c s₁ B hml hv
  obtain ⟨ha, hv⟩ := hv
  obtain rfl := hv.1
  have hI : WI g 76 (cX g ad) ad V s.heap s.heap [] := WI.start hv
  have hK := hv.2.2.1
  have hE := hv.2.2.2.2
  have hx := B.exec
  have hb := B.bytes
  have hr := B.returns
  have hts := atoms_spec (ws := wsX4_walk) B.pre
  have hown : s.vm.findClass RX4 = some m.cls := findClass_of_methodNamed B.named
  have hlocks := B.notSynchronized
  have hw_0 := hts (.fieldLink RX4 34 "HoopLane$Hoop" "end" "I") (by decide +kernel)
  have hw_1 := hts (.constant RX4 26 (8000000)) (by decide +kernel)
  have hw_2 := hts (.fieldLink RX4 27 "HoopLane$Paths" "home" "I") (by decide +kernel)
  have hw_3 := hts (.fieldLink RX4 30 "HoopLane$Paths" "falls" "I") (by decide +kernel)
  have hw_4 := hts (.fieldLink RX4 11 "HoopLane$Paths" "least" "[I") (by decide +kernel)
  have hw_5 := hts (.fieldLink RX4 22 "HoopLane$Paths" "start" "I") (by decide +kernel)
  have hw_6 := hts (.methodLink RX4 51 Lib.Math.max.name) (by decide +kernel)
  have hw_7 := hts (.static Lib.Math.max.name) (by decide +kernel)
  have hw_8 := hts (.initialized "java/lang/Math") (by decide +kernel)
  have hw_9 := hts (.code Lib.Math.max.name Lib.Math.max.code 2 (some .int)) (by decide +kernel)
  have hw_10 := hts (.fieldLink RX4 57 "HoopLane$Lane" "yards" "I") (by decide +kernel)
  have hin2 : ∀ w ∈ wsX20, w ∈ wsX4_walk := by decide +kernel
  have hin4 : ∀ w ∈ wsX40, w ∈ wsX4_walk := by decide +kernel
  have hin3 : ∀ w ∈ wsX30, w ∈ wsX4_walk := by decide +kernel
  have hl := lv_entry ([.ref (ad 10), .ref (ad k1), .ref (ad k2), .int x3, .int x4, .int x5]) (n := 7) (Nat.le_of_ble_eq_true rfl)
  have hent : entryFrame m args 7 = F0 m 0 ((lg_sl ([.ref (ad 10), .ref (ad k1), .ref (ad k2), .int x3, .int x4, .int x5]) ++ List.replicate (7 - (lg_sl ([.ref (ad 10), .ref (ad k1), .ref (ad k2), .int x3, .int x4, .int x5])).length) Slot.unset).toArray) [] := by rw [ha, lg_entry_eq]
  rw [hent]
  generalize (lg_sl ([.ref (ad 10), .ref (ad k1), .ref (ad k2), .int x3, .int x4, .int x5]) ++ List.replicate (7 - (lg_sl ([.ref (ad 10), .ref (ad k1), .ref (ad k2), .int x3, .int x4, .int x5])).length) Slot.unset).toArray = ls at hl ⊢
  have hl : lv_has ls 7 [(0, .ref (ad 10)), (1, .ref (ad k1)), (2, .ref (ad k2)), (3, .int x3), (4, .int x4), (5, .int x5)] := hl
  obtain ⟨H, hH⟩ : ∃ H : Heap, H = s.heap := ⟨_, rfl⟩
  have hL67 : ∀ (n67 : Nat) (V : VT) (H : Heap) (locs : List Loc) (ls : Array Slot) (k1 : Nat) (x3 : Int32) (x4 : Int32) (x5 : Int32) (x6 : Int32), kX k1 = 3 → WI g 76 (cX g ad) ad V s.heap H locs → lv_has ls 7 [(0, .ref (ad 10)), (1, .ref (ad k1)), (3, .int x3), (4, .int x4), (5, .int x5), (6, .int x6)] → wp_X4_walk_L67 K  n67 V k1 x3 x4 x5 x6 → W p l e (headSpec wsX4_walk rm_X4_walk).room s m args below meth c H locs 0 0 (MQ below (va_Qv K (WPost 76 (cX g ad) ad g) (AW ad 76 s.heap.size)) args s 0 0 (AW ad 76 s.heap.size)) (F0 m 67 ls []) := by
    intro n67
    induction n67 with
    | zero => intro V H locs ls k1 x3 x4 x5 x6 hk1 hI hl hw; exact False.elim hw
    | succ n67 ihL67 =>
      have hb104 : ∀ (V : VT) (H : Heap) (locs : List Loc) (ls : Array Slot) (k1 : Nat) (x3 : Int32) (x4 : Int32) (x5 : Int32) (x6 : Int32), kX k1 = 3 → WI g 76 (cX g ad) ad V s.heap H locs → lv_has ls 7 [(0, .ref (ad 10)), (1, .ref (ad k1)), (3, .int x3), (4, .int x4), (5, .int x5), (6, .int x6)] → wp_X4_walk_b104 K (wp_X4_walk_L67 K  n67) V k1 x3 x4 x5 x6 → W p l e (headSpec wsX4_walk rm_X4_walk).room s m args below meth c H locs 0 0 (MQ below (va_Qv K (WPost 76 (cX g ad) ad g) (AW ad 76 s.heap.size)) args s 0 0 (AW ad 76 s.heap.size)) (F0 m 104 ls []) := by
        intro V H locs ls k1 x3 x4 x5 x6 hk1 hI hl hw
        refine lv_iinc (v := (x6 + (1 : Int32))) (lv' := [(6, .int (x6 + (1 : Int32))), (0, .ref (ad 10)), (1, .ref (ad k1)), (3, .int x3), (4, .int x4), (5, .int x5)]) hx hb dX4_walk_104 hl (k := 5) rfl rfl (by decide) rfl (fun ls hl => ?_)
        refine lv_goto (tgt := 67) hx hb dX4_walk_107 (by decide) ?_
        exact ihL67 V H locs ls k1 x3 x4 x5 (x6 + (1 : Int32)) hk1 hI (lv_sub hl [1, 2, 3, 4, 5, 0] rfl) hw
      intro V H locs ls k1 x3 x4 x5 x6 hk1 hI hl hw
      refine lv_iload hx hb dX4_walk_67 (lv_at hl 5 rfl) ?_
      refine lv_aload_n hx hb dX4_walk_69 rfl (lv_at hl 1 rfl) ?_
      refine xg3_4 (k := k1) hx hb hts hin3 hown hK hI hk1 hw_10 dX4_walk_70 ?_
      refine lv_bipush (v := (99 : Int32)) hx hb dX4_walk_73 (by decide) ?_
      refine lv_imul hx hb dX4_walk_75 ?_
      refine lv_icmp_ge (tgt := 110) hx hb dX4_walk_76 (by decide) (fun c10 => ?_) (fun c10 => ?_)
      · replace hw := hw.1 c10
        exact W.vret hx hb hr (x_retv hI hw) hI.2.2.2.2 dX4_walk_110
      · replace hw := hw.2 c10
        refine lv_aload_n hx hb dX4_walk_79 rfl (lv_at hl 0 rfl) ?_
        refine xg4_0 (k := 10) hx hb hts hin4 hown hK hI (by decide) hw_4 dX4_walk_80 ?_
        refine lv_iload hx hb dX4_walk_83 (lv_at hl 5 rfl) ?_
        obtain ⟨h11, hw⟩ := hw
        refine x_iald (k := 11) hx hb hK hI (by decide) (cX_9 (by decide) (by decide)) h11 dX4_walk_85 ?_
        refine lv_iload hx hb dX4_walk_86 (lv_at hl 4 rfl) ?_
        refine lv_bipush (v := (8 : Int32)) hx hb dX4_walk_88 (by decide) ?_
        refine lv_imul hx hb dX4_walk_90 ?_
        refine lv_icmp_ge (tgt := 104) hx hb dX4_walk_91 (by decide) (fun c12 => ?_) (fun c12 => ?_)
        · replace hw := hw.1 c12
          exact hb104 V H locs ls k1 x3 x4 x5 x6 hk1 hI (lv_sub hl [0, 1, 2, 3, 4, 5] rfl) hw
        · replace hw := hw.2 c12
          refine lv_aload_n hx hb dX4_walk_94 rfl (lv_at hl 0 rfl) ?_
          refine lv_aload_n hx hb dX4_walk_95 rfl (lv_at hl 1 rfl) ?_
          refine lv_iload hx hb dX4_walk_96 (lv_at hl 5 rfl) ?_
          refine lv_iload_n hx hb dX4_walk_98 rfl (lv_at hl 2 rfl) ?_
          refine lv_iload hx hb dX4_walk_99 (lv_at hl 3 rfl) ?_
          refine x_aftv (va_runV (As := [.ref (ad k1), .int x6, .int x3, .int x4]) (rest := []) ⟨hx, hb, hml, hown, hts⟩ (c_X4_spread l g ad H.size V k1 x6 x3 x4 hk1 _ hw) (cwV 4 hts gX4_walk_X4_spread rfl rfl rfl (by decide +kernel) ⟨Nat.le_of_ble_eq_true rfl, Nat.le_of_ble_eq_true rfl⟩) (x_preV (k := 10) hK hE hI (by decide) (cX_4 (by decide)) rfl) rfl rfl hl.1 rfl (lv_room (Nat.le_of_ble_eq_true rfl)) dX4_walk_101 ⟨Nat.zero_le _, Nat.zero_le _⟩) hI (fun V13 H locs hw hI => ?_)
          exact hb104 V13 H locs ls k1 x3 x4 x5 x6 hk1 hI (lv_sub hl [0, 1, 2, 3, 4, 5] rfl) hw
  have hb15 : ∀ (V : VT) (H : Heap) (locs : List Loc) (ls : Array Slot) (k1 : Nat) (k2 : Nat) (x3 : Int32) (x4 : Int32) (x5 : Int32) (s1 : Int32), kX k1 = 3 → kX k2 = 2 → WI g 76 (cX g ad) ad V s.heap H locs → lv_has ls 7 [(0, .ref (ad 10)), (1, .ref (ad k1)), (2, .ref (ad k2)), (3, .int x3), (4, .int x4), (5, .int x5)] → wp_X4_walk_b15 K  V k1 k2 x3 x4 x5 s1 → W p l e (headSpec wsX4_walk rm_X4_walk).room s m args below meth c H locs 0 0 (MQ below (va_Qv K (WPost 76 (cX g ad) ad g) (AW ad 76 s.heap.size)) args s 0 0 (AW ad 76 s.heap.size)) (F0 m 15 ls [.int s1, .ref (ad 10)]) := by
    intro V H locs ls k1 k2 x3 x4 x5 s1 hk1 hk2 hI hl hw
    refine xp4_3 (k := 10) hx hb hts hin4 hown hK hI (by decide) hw_2 dX4_walk_15 (fun V2 H locs eV2 hI => ?_)
    replace hw := hw V2 eV2
    refine lv_aload_n hx hb dX4_walk_18 rfl (lv_at hl 0 rfl) ?_
    refine lv_iconst (v := (0 : Int32)) hx hb dX4_walk_19 (by decide) ?_
    refine xp4_4 (k := 10) hx hb hts hin4 hown hK hI (by decide) hw_3 dX4_walk_20 (fun V3 H locs eV3 hI => ?_)
    replace hw := hw V3 eV3
    refine lv_aload_n hx hb dX4_walk_23 rfl (lv_at hl 2 rfl) ?_
    refine xg2_3 (k := k2) hx hb hts hin2 hown hK hI hk2 hw_0 dX4_walk_24 ?_
    refine lv_if_eq (tgt := 31) hx hb dX4_walk_27 (by decide) (fun c4 => ?_) (fun c4 => ?_)
    · replace hw := hw.1 c4
      refine lv_aload_n hx hb dX4_walk_31 rfl (lv_at hl 0 rfl) ?_
      refine xg4_0 (k := 10) hx hb hts hin4 hown hK hI (by decide) hw_4 dX4_walk_32 ?_
      refine lv_ldc (v := (8000000 : Int32)) hx hb hown hw_1 dX4_walk_35 ?_
      refine x_aftv (va_runS (As := [.ref (ad 11), .int (8000000 : Int32)]) (rest := []) ⟨hx, hb, hml, hown, hts⟩ (c_J7_fill_53178 l g ad H.size V3 11 (8000000 : Int32) (by decide) _ hw) (va_cwS 2 hts gX4_walk_J7_fill_53178 rfl rfl rfl (by decide +kernel) ⟨Nat.le_of_ble_eq_true rfl, Nat.le_of_ble_eq_true rfl⟩) (x_preS hK hE hI) rfl rfl hl.1 rfl (lv_room (Nat.le_of_ble_eq_true rfl)) dX4_walk_37 ⟨Nat.zero_le _, Nat.zero_le _⟩) hI (fun V5 H locs hw hI => ?_)
      refine lv_aload_n hx hb dX4_walk_40 rfl (lv_at hl 0 rfl) ?_
      refine lv_aload_n hx hb dX4_walk_41 rfl (lv_at hl 2 rfl) ?_
      refine x_afti (va_runS (As := [.ref (ad k2)]) (rest := [.ref (ad 10)]) ⟨hx, hb, hml, hown, hts⟩ (c_X4_placeOf l g ad H.size V5 k2 hk2 _ hw) (cwS 1 hts gX4_walk_X4_placeOf rfl rfl rfl (by decide +kernel) ⟨Nat.le_of_ble_eq_true rfl, Nat.le_of_ble_eq_true rfl⟩) (x_preS hK hE hI) rfl rfl hl.1 rfl (lv_room (Nat.le_of_ble_eq_true rfl)) dX4_walk_42 ⟨Nat.zero_le _, Nat.zero_le _⟩) hI (fun r7 V6 H locs hw hI => ?_)
      refine xp4_2 (k := 10) hx hb hts hin4 hown hK hI (by decide) hw_5 dX4_walk_45 (fun V8 H locs eV8 hI => ?_)
      replace hw := hw V8 eV8
      refine lv_aload_n hx hb dX4_walk_48 rfl (lv_at hl 0 rfl) ?_
      refine lv_aload_n hx hb dX4_walk_49 rfl (lv_at hl 0 rfl) ?_
      refine xg4_2 (k := 10) hx hb hts hin4 hown hK hI (by decide) hw_5 dX4_walk_50 ?_
      refine lv_iconst (v := (0 : Int32)) hx hb dX4_walk_53 (by decide) ?_
      refine x_aftv (va_runV (As := [.int (V8 10 2), .int (0 : Int32)]) (rest := []) ⟨hx, hb, hml, hown, hts⟩ (c_X4_reach l g ad H.size V8 (V8 10 2) (0 : Int32) _ hw) (cwV 2 hts gX4_walk_X4_reach rfl rfl rfl (by decide +kernel) ⟨Nat.le_of_ble_eq_true rfl, Nat.le_of_ble_eq_true rfl⟩) (x_preV (k := 10) hK hE hI (by decide) (cX_4 (by decide)) rfl) rfl rfl hl.1 rfl (lv_room (Nat.le_of_ble_eq_true rfl)) dX4_walk_54 ⟨Nat.zero_le _, Nat.zero_le _⟩) hI (fun V9 H locs hw hI => ?_)
      refine lv_iconst (v := (0 : Int32)) hx hb dX4_walk_57 (by decide) ?_
      refine lv_aload_n hx hb dX4_walk_58 rfl (lv_at hl 0 rfl) ?_
      refine xg4_2 (k := 10) hx hb hts hin4 hown hK hI (by decide) hw_5 dX4_walk_59 ?_
      refine va_mmax hx hb (hml.trans hl.1.symm) hown hw_6 hw_7 hw_8 hw_9 (Nat.le_of_ble_eq_true rfl) (Nat.le_of_ble_eq_true rfl) (Nat.zero_le _) (Nat.zero_le _) dX4_walk_62 ?_
      refine lv_istore (lv' := [(6, .int (imx (0 : Int32) (V9 10 2))), (0, .ref (ad 10)), (1, .ref (ad k1)), (2, .ref (ad k2)), (3, .int x3), (4, .int x4), (5, .int x5)]) hx hb dX4_walk_65 hl (by decide) rfl (fun ls hl => ?_)
      obtain ⟨n67, hw⟩ := hw
      exact hL67 n67 V9 H locs ls k1 x3 x4 x5 (imx (0 : Int32) (V9 10 2)) hk1 hI (lv_sub hl [1, 2, 4, 5, 6, 0] rfl) hw
    · replace hw := hw.2 c4
      exact W.vret hx hb hr (x_retv hI hw) hI.2.2.2.2 dX4_walk_30
  have hgo : ∀ (H : Heap) (locs : List Loc), WI g 76 (cX g ad) ad V s.heap H locs → W p l e (headSpec wsX4_walk rm_X4_walk).room s m args below meth c H locs 0 0 (MQ below (va_Qv K (WPost 76 (cX g ad) ad g) (AW ad 76 s.heap.size)) args s 0 0 (AW ad 76 s.heap.size)) (F0 m 0 ls []) := by
    intro H locs hI
    refine lv_aload_n hx hb dX4_walk_0 rfl (lv_at hl 0 rfl) ?_
    refine lv_aload_n hx hb dX4_walk_1 rfl (lv_at hl 2 rfl) ?_
    refine xg2_3 (k := k2) hx hb hts hin2 hown hK hI hk2 hw_0 dX4_walk_2 ?_
    refine lv_iconst (v := (2 : Int32)) hx hb dX4_walk_5 (by decide) ?_
    refine lv_icmp_ne (tgt := 13) hx hb dX4_walk_6 (by decide) (fun c1 => ?_) (fun c1 => ?_)
    · replace hw := hw.1 c1
      refine lv_ldc (v := (8000000 : Int32)) hx hb hown hw_1 dX4_walk_13 ?_
      exact hb15 V H locs ls k1 k2 x3 x4 x5 (8000000 : Int32) hk1 hk2 hI (lv_sub hl [0, 1, 2, 3, 4, 5] rfl) hw
    · replace hw := hw.2 c1
      refine lv_iconst (v := (0 : Int32)) hx hb dX4_walk_9 (by decide) ?_
      refine lv_goto (tgt := 15) hx hb dX4_walk_10 (by decide) ?_
      exact hb15 V H locs ls k1 k2 x3 x4 x5 (0 : Int32) hk1 hk2 hI (lv_sub hl [0, 1, 2, 3, 4, 5] rfl) hw
  exact hgo s.heap [] hI
def rm_X5_isMissing : Room := { frames := 0, cells := 0, slots := 0, locals := 0 }
set_option maxHeartbeats 4000000 in
set_option maxRecDepth 100000 in
theorem c_X5_isMissing (l : Launch) (g : GP) (ad : Nat → Nat) (sz : Nat) (V : VT) (k0 : Nat) (hk0 : kX k0 = 5) (K : Int32 → VT → Prop) (hw : wp_X5_isMissing V k0 K) : Met l yX5_isMissing wsX5_isMissing rm_X5_isMissing (va_Pc [.ref (ad k0)] (WPre 76 (cX g ad) ad g V sz)) (va_Qi K (WPost 76 (cX g ad) ad g) (AW ad 76 sz)) 0 0 (AW ad 76 sz) := by
  refine Met.ofW (cc := cX5_isMissing) (maxL := 1) (ret := (some .boolean)) (by decide) rfl ?_
  intro p e s m args below meth c s₁ B hml hv
  obtain ⟨ha, hv⟩ := hv
  obtain rfl := hv.1
  have hI : WI g 76 (cX g ad) ad V s.heap s.heap [] := WI.start hv
  have hK := hv.2.2.1
  have hE := hv.2.2.2.2
  have hx := B.exec
  have hb := B.bytes
  have hr := B.returns
  have hts := atoms_spec (ws := wsX5_isMissing) B.pre
  have hown : s.vm.findClass RX5 = some m.cls := findClass_of_methodNamed B.named
  have hlocks := B.notSynchronized
  have hw_0 := hts (.fieldLink RX5 15 "HoopLane$Row" "width" "I") (by decide +kernel)
  have hin5 : ∀ w ∈ wsX50, w ∈ wsX5_isMissing := by decide +kernel
  have hl := lv_entry ([.ref (ad k0)]) (n := 1) (Nat.le_of_ble_eq_true rfl)
  have hent : entryFrame m args 1 = F0 m 0 ((lg_sl ([.ref (ad k0)]) ++ List.replicate (1 - (lg_sl ([.ref (ad k0)])).length) Slot.unset).toArray) [] := by rw [ha, lg_entry_eq]
  rw [hent]
  generalize (lg_sl ([.ref (ad k0)]) ++ List.replicate (1 - (lg_sl ([.ref (ad k0)])).length) Slot.unset).toArray = ls at hl ⊢
  have hl : lv_has ls 1 [(0, .ref (ad k0))] := hl
  obtain ⟨H, hH⟩ : ∃ H : Heap, H = s.heap := ⟨_, rfl⟩
  have hgo : ∀ (H : Heap) (locs : List Loc), WI g 76 (cX g ad) ad V s.heap H locs → W p l e (headSpec wsX5_isMissing rm_X5_isMissing).room s m args below meth c H locs 0 0 (MQ below (va_Qi K (WPost 76 (cX g ad) ad g) (AW ad 76 s.heap.size)) args s 0 0 (AW ad 76 s.heap.size)) (F0 m 0 ls []) := by
    intro H locs hI
    refine lv_aload_n hx hb dX5_isMissing_0 rfl (lv_at hl 0 rfl) ?_
    refine xg5_1 (k := k0) hx hb hts hin5 hown hK hI hk0 hw_0 dX5_isMissing_1 ?_
    refine lv_iconst (v := (-1 : Int32)) hx hb dX5_isMissing_4 (by decide) ?_
    refine lv_icmp_ne (tgt := 12) hx hb dX5_isMissing_5 (by decide) (fun c1 => ?_) (fun c1 => ?_)
    · replace hw := hw.1 c1
      refine lv_iconst (v := (0 : Int32)) hx hb dX5_isMissing_12 (by decide) ?_
      exact W.zret (v := (0 : Int32)) hx hb hr rfl (x_reti hI hw) hI.2.2.2.2 dX5_isMissing_13
    · replace hw := hw.2 c1
      refine lv_iconst (v := (1 : Int32)) hx hb dX5_isMissing_8 (by decide) ?_
      refine lv_goto (tgt := 13) hx hb dX5_isMissing_9 (by decide) ?_
      exact W.zret (v := (1 : Int32)) hx hb hr rfl (x_reti hI hw) hI.2.2.2.2 dX5_isMissing_13
  exact hgo s.heap [] hI
def rm_X5_become : Room := { frames := 1, cells := 0, slots := 0, locals := 23 }
set_option maxHeartbeats 4000000 in
set_option maxRecDepth 100000 in
theorem c_X5_become (l : Launch) (g : GP) (ad : Nat → Nat) (sz : Nat) (V : VT) (k0 : Nat) (x1 : Int32) (x2 : Int32) (hk0 : kX k0 = 5) (K : VT → Prop) (hw : wp_X5_become V k0 x1 x2 K) : Met l yX5_become wsX5_become rm_X5_become (va_Pc [.ref (ad k0), .int x1, .int x2] (WPre 76 (cX g ad) ad g V sz)) (va_Qv K (WPost 76 (cX g ad) ad g) (AW ad 76 sz)) 0 0 (AW ad 76 sz) := by
  refine Met.ofW (cc := cX5_become) (maxL := 3) (ret := none) (by decide) rfl ?_
  intro p e s m args below meth c s₁ B hml hv
  obtain ⟨ha, hv⟩ := hv
  obtain rfl := hv.1
  have hI : WI g 76 (cX g ad) ad V s.heap s.heap [] := WI.start hv
  have hK := hv.2.2.1
  have hE := hv.2.2.2.2
  have hx := B.exec
  have hb := B.bytes
  have hr := B.returns
  have hts := atoms_spec (ws := wsX5_become) B.pre
  have hown : s.vm.findClass RX5 = some m.cls := findClass_of_methodNamed B.named
  have hlocks := B.notSynchronized
  have hw_0 := hts (.fieldLink RX5 15 "HoopLane$Row" "width" "I") (by decide +kernel)
  have hw_1 := hts (.fieldLink RX5 19 "HoopLane$Row" "size" "I") (by decide +kernel)
  have hw_2 := hts (.fieldLink RX5 9 "HoopLane$Row" "items" "[I") (by decide +kernel)
  have hin5 : ∀ w ∈ wsX50, w ∈ wsX5_become := by decide +kernel
  have hl := lv_entry ([.ref (ad k0), .int x1, .int x2]) (n := 3) (Nat.le_of_ble_eq_true rfl)
  have hent : entryFrame m args 3 = F0 m 0 ((lg_sl ([.ref (ad k0), .int x1, .int x2]) ++ List.replicate (3 - (lg_sl ([.ref (ad k0), .int x1, .int x2])).length) Slot.unset).toArray) [] := by rw [ha, lg_entry_eq]
  rw [hent]
  generalize (lg_sl ([.ref (ad k0), .int x1, .int x2]) ++ List.replicate (3 - (lg_sl ([.ref (ad k0), .int x1, .int x2])).length) Slot.unset).toArray = ls at hl ⊢
  have hl : lv_has ls 3 [(0, .ref (ad k0)), (1, .int x1), (2, .int x2)] := hl
  obtain ⟨H, hH⟩ : ∃ H : Heap, H = s.heap := ⟨_, rfl⟩
  have hgo : ∀ (H : Heap) (locs : List Loc), WI g 76 (cX g ad) ad V s.heap H locs → W p l e (headSpec wsX5_become rm_X5_become).room s m args below meth c H locs 0 0 (MQ below (va_Qv K (WPost 76 (cX g ad) ad g) (AW ad 76 s.heap.size)) args s 0 0 (AW ad 76 s.heap.size)) (F0 m 0 ls []) := by
    intro H locs hI
    refine lv_aload_n hx hb dX5_become_0 rfl (lv_at hl 0 rfl) ?_
    refine lv_iload_n hx hb dX5_become_1 rfl (lv_at hl 1 rfl) ?_
    refine xp5_1 (k := k0) hx hb hts hin5 hown hK hI hk0 hw_0 dX5_become_2 (fun V1 H locs eV1 hI => ?_)
    replace hw := hw V1 eV1
    refine lv_aload_n hx hb dX5_become_5 rfl (lv_at hl 0 rfl) ?_
    refine lv_iload_n hx hb dX5_become_6 rfl (lv_at hl 2 rfl) ?_
    refine xp5_2 (k := k0) hx hb hts hin5 hown hK hI hk0 hw_1 dX5_become_7 (fun V2 H locs eV2 hI => ?_)
    replace hw := hw V2 eV2
    refine lv_aload_n hx hb dX5_become_10 rfl (lv_at hl 0 rfl) ?_
    refine xg5_0 (k := k0) hx hb hts hin5 hown hK hI hk0 hw_2 dX5_become_11 ?_
    refine lv_iconst (v := (0 : Int32)) hx hb dX5_become_14 (by decide) ?_
    refine x_aftv (va_runS (As := [.ref (ad (k0 + 1)), .int (0 : Int32)]) (rest := []) ⟨hx, hb, hml, hown, hts⟩ (c_J7_fill_53178 l g ad H.size V2 (k0 + 1) (0 : Int32) (kX_5s hk0).1 _ hw) (va_cwS 2 hts gX5_become_J7_fill_53178 rfl rfl rfl (by decide +kernel) ⟨Nat.le_of_ble_eq_true rfl, Nat.le_of_ble_eq_true rfl⟩) (x_preS hK hE hI) rfl rfl hl.1 rfl (lv_room (Nat.le_of_ble_eq_true rfl)) dX5_become_15 ⟨Nat.zero_le _, Nat.zero_le _⟩) hI (fun V3 H locs hw hI => ?_)
    exact W.vret hx hb hr (x_retv hI hw) hI.2.2.2.2 dX5_become_18
  exact hgo s.heap [] hI
def rm_X5_put : Room := { frames := 0, cells := 0, slots := 0, locals := 0 }
set_option maxHeartbeats 4000000 in
set_option maxRecDepth 100000 in
theorem c_X5_put (l : Launch) (g : GP) (ad : Nat → Nat) (sz : Nat) (V : VT) (k0 : Nat) (x1 : Int32) (x2 : Int32) (hk0 : kX k0 = 5) (K : Int32 → VT → Prop) (hw : wp_X5_put V k0 x1 x2 K) : Met l yX5_put wsX5_put rm_X5_put (va_Pc [.ref (ad k0), .int x1, .int x2] (WPre 76 (cX g ad) ad g V sz)) (va_Qi K (WPost 76 (cX g ad) ad g) (AW ad 76 sz)) 0 0 (AW ad 76 sz) := by
  refine Met.ofW (cc := cX5_put) (maxL := 3) (ret := (some .int)) (by decide) rfl ?_
  intro p e s m args below meth c s₁ B hml hv
  obtain ⟨ha, hv⟩ := hv
  obtain rfl := hv.1
  have hI : WI g 76 (cX g ad) ad V s.heap s.heap [] := WI.start hv
  have hK := hv.2.2.1
  have hE := hv.2.2.2.2
  have hx := B.exec
  have hb := B.bytes
  have hr := B.returns
  have hts := atoms_spec (ws := wsX5_put) B.pre
  have hown : s.vm.findClass RX5 = some m.cls := findClass_of_methodNamed B.named
  have hlocks := B.notSynchronized
  have hw_0 := hts (.fieldLink RX5 9 "HoopLane$Row" "items" "[I") (by decide +kernel)
  have hw_1 := hts (.fieldLink RX5 15 "HoopLane$Row" "width" "I") (by decide +kernel)
  have hin5 : ∀ w ∈ wsX50, w ∈ wsX5_put := by decide +kernel
  have hl := lv_entry ([.ref (ad k0), .int x1, .int x2]) (n := 3) (Nat.le_of_ble_eq_true rfl)
  have hent : entryFrame m args 3 = F0 m 0 ((lg_sl ([.ref (ad k0), .int x1, .int x2]) ++ List.replicate (3 - (lg_sl ([.ref (ad k0), .int x1, .int x2])).length) Slot.unset).toArray) [] := by rw [ha, lg_entry_eq]
  rw [hent]
  generalize (lg_sl ([.ref (ad k0), .int x1, .int x2]) ++ List.replicate (3 - (lg_sl ([.ref (ad k0), .int x1, .int x2])).length) Slot.unset).toArray = ls at hl ⊢
  have hl : lv_has ls 3 [(0, .ref (ad k0)), (1, .int x1), (2, .int x2)] := hl
  obtain ⟨H, hH⟩ : ∃ H : Heap, H = s.heap := ⟨_, rfl⟩
  have hb31 : ∀ (V : VT) (H : Heap) (locs : List Loc) (ls : Array Slot) (k0 : Nat) (x1 : Int32) (t0 : Nat) (s1 : Int32) (s2 : Int32), kX k0 = 5 → kX t0 = 9 → WI g 76 (cX g ad) ad V s.heap H locs → lv_has ls 3 [(0, .ref (ad k0)), (1, .int x1)] → wp_X5_put_b31 K  V k0 x1 t0 s1 s2 → W p l e (headSpec wsX5_put rm_X5_put).room s m args below meth c H locs 0 0 (MQ below (va_Qi K (WPost 76 (cX g ad) ad g) (AW ad 76 s.heap.size)) args s 0 0 (AW ad 76 s.heap.size)) (F0 m 31 ls [.int s2, .int s1, .ref (ad t0)]) := by
    intro V H locs ls k0 x1 t0 s1 s2 hk0 ht0 hI hl hw
    obtain ⟨h3, hw⟩ := hw
    refine x_iastV (k := t0) hx hb hK hI (cX_loc g ad) (kX_lt ht0 (by decide)) (fun _ => cX_9 ht0 rfl) h3 dX5_put_31 (fun V4 H locs eV4 hI => ?_)
    replace hw := hw V4 eV4
    refine lv_aload_n hx hb dX5_put_32 rfl (lv_at hl 0 rfl) ?_
    refine xg5_0 (k := k0) hx hb hts hin5 hown hK hI hk0 hw_0 dX5_put_33 ?_
    refine lv_iload_n hx hb dX5_put_36 rfl (lv_at hl 1 rfl) ?_
    obtain ⟨h5, hw⟩ := hw
    refine x_iald (k := k0 + 1) hx hb hK hI (kX_lt (kX_5s hk0).1 (by decide)) (cX_9 (kX_5s hk0).1 (kX_5s hk0).2) h5 dX5_put_37 ?_
    exact W.iret (v := (V4 (k0 + 1) (x1).toNatClampNeg)) hx hb hr (x_reti hI hw) hI.2.2.2.2 dX5_put_38
  have hgo : ∀ (H : Heap) (locs : List Loc), WI g 76 (cX g ad) ad V s.heap H locs → W p l e (headSpec wsX5_put rm_X5_put).room s m args below meth c H locs 0 0 (MQ below (va_Qi K (WPost 76 (cX g ad) ad g) (AW ad 76 s.heap.size)) args s 0 0 (AW ad 76 s.heap.size)) (F0 m 0 ls []) := by
    intro H locs hI
    refine lv_aload_n hx hb dX5_put_0 rfl (lv_at hl 0 rfl) ?_
    refine xg5_0 (k := k0) hx hb hts hin5 hown hK hI hk0 hw_0 dX5_put_1 ?_
    refine lv_iload_n hx hb dX5_put_4 rfl (lv_at hl 1 rfl) ?_
    refine lv_aload_n hx hb dX5_put_5 rfl (lv_at hl 0 rfl) ?_
    refine xg5_1 (k := k0) hx hb hts hin5 hown hK hI hk0 hw_1 dX5_put_6 ?_
    refine lv_if_ne (tgt := 17) hx hb dX5_put_9 (by decide) (fun c1 => ?_) (fun c1 => ?_)
    · replace hw := hw.1 c1
      refine lv_aload_n hx hb dX5_put_17 rfl (lv_at hl 0 rfl) ?_
      refine xg5_1 (k := k0) hx hb hts hin5 hown hK hI hk0 hw_1 dX5_put_18 ?_
      refine lv_iconst (v := (1 : Int32)) hx hb dX5_put_21 (by decide) ?_
      refine lv_icmp_ne (tgt := 30) hx hb dX5_put_22 (by decide) (fun c2 => ?_) (fun c2 => ?_)
      · replace hw := hw.1 c2
        refine lv_iload_n hx hb dX5_put_30 rfl (lv_at hl 2 rfl) ?_
        exact hb31 V H locs ls k0 x1 (k0 + 1) x1 x2 hk0 (kX_5s hk0).1 hI (lv_sub hl [0, 1] rfl) hw
      · replace hw := hw.2 c2
        refine lv_iload_n hx hb dX5_put_25 rfl (lv_at hl 2 rfl) ?_
        refine lv_i2s (v := (x2).toInt16.toInt32) hx hb dX5_put_26 rfl ?_
        refine lv_goto (tgt := 31) hx hb dX5_put_27 (by decide) ?_
        exact hb31 V H locs ls k0 x1 (k0 + 1) x1 ((x2).toInt16.toInt32) hk0 (kX_5s hk0).1 hI (lv_sub hl [0, 1] rfl) hw
    · replace hw := hw.2 c1
      refine lv_iload_n hx hb dX5_put_12 rfl (lv_at hl 2 rfl) ?_
      refine lv_i2b (v := (x2).toInt8.toInt32) hx hb dX5_put_13 rfl ?_
      refine lv_goto (tgt := 31) hx hb dX5_put_14 (by decide) ?_
      exact hb31 V H locs ls k0 x1 (k0 + 1) x1 ((x2).toInt8.toInt32) hk0 (kX_5s hk0).1 hI (lv_sub hl [0, 1] rfl) hw
  exact hgo s.heap [] hI
def rm_X5_findingAt : Room := { frames := 1, cells := 0, slots := 0, locals := 20 }
set_option maxHeartbeats 4000000 in
set_option maxRecDepth 100000 in
theorem c_X5_findingAt (l : Launch) (g : GP) (ad : Nat → Nat) (sz : Nat) (V : VT) (k0 : Nat) (x1 : Int32) (x2 : Int32) (hk0 : kX k0 = 5) (K : Int32 → VT → Prop) (hw : wp_X5_findingAt V k0 x1 x2 K) : Met l yX5_findingAt wsX5_findingAt rm_X5_findingAt (va_Pc [.ref (ad k0), .int x1, .int x2] (WPre 76 (cX g ad) ad g V sz)) (va_Qi K (WPost 76 (cX g ad) ad g) (AW ad 76 sz)) 0 0 (AW ad 76 sz) := by
  refine Met.ofW (cc := cX5_findingAt) (maxL := 3) (ret := (some .int)) (by decide) rfl ?_
  intro p e s m args below meth c s₁ B hml hv
  obtain ⟨ha, hv⟩ := hv
  obtain rfl := hv.1
  have hI : WI g 76 (cX g ad) ad V s.heap s.heap [] := WI.start hv
  have hK := hv.2.2.1
  have hE := hv.2.2.2.2
  have hx := B.exec
  have hb := B.bytes
  have hr := B.returns
  have hts := atoms_spec (ws := wsX5_findingAt) B.pre
  have hown : s.vm.findClass RX5 = some m.cls := findClass_of_methodNamed B.named
  have hlocks := B.notSynchronized
  have hw_0 := hts (.fieldLink RX5 19 "HoopLane$Row" "size" "I") (by decide +kernel)
  have hin5 : ∀ w ∈ wsX50, w ∈ wsX5_findingAt := by decide +kernel
  have hl := lv_entry ([.ref (ad k0), .int x1, .int x2]) (n := 3) (Nat.le_of_ble_eq_true rfl)
  have hent : entryFrame m args 3 = F0 m 0 ((lg_sl ([.ref (ad k0), .int x1, .int x2]) ++ List.replicate (3 - (lg_sl ([.ref (ad k0), .int x1, .int x2])).length) Slot.unset).toArray) [] := by rw [ha, lg_entry_eq]
  rw [hent]
  generalize (lg_sl ([.ref (ad k0), .int x1, .int x2]) ++ List.replicate (3 - (lg_sl ([.ref (ad k0), .int x1, .int x2])).length) Slot.unset).toArray = ls at hl ⊢
  have hl : lv_has ls 3 [(0, .ref (ad k0)), (1, .int x1), (2, .int x2)] := hl
  obtain ⟨H, hH⟩ : ∃ H : Heap, H = s.heap := ⟨_, rfl⟩
  have hb27 : ∀ (V : VT) (H : Heap) (locs : List Loc) (ls : Array Slot) , WI g 76 (cX g ad) ad V s.heap H locs → lv_has ls 3 [] → wp_X5_findingAt_b27 K  V  → W p l e (headSpec wsX5_findingAt rm_X5_findingAt).room s m args below meth c H locs 0 0 (MQ below (va_Qi K (WPost 76 (cX g ad) ad g) (AW ad 76 s.heap.size)) args s 0 0 (AW ad 76 s.heap.size)) (F0 m 27 ls []) := by
    intro V H locs ls   hI hl hw
    refine lv_iconst (v := (2 : Int32)) hx hb dX5_findingAt_27 (by decide) ?_
    refine lv_goto (tgt := 32) hx hb dX5_findingAt_28 (by decide) ?_
    exact W.iret (v := (2 : Int32)) hx hb hr (x_reti hI hw) hI.2.2.2.2 dX5_findingAt_32
  have hgo : ∀ (H : Heap) (locs : List Loc), WI g 76 (cX g ad) ad V s.heap H locs → W p l e (headSpec wsX5_findingAt rm_X5_findingAt).room s m args below meth c H locs 0 0 (MQ below (va_Qi K (WPost 76 (cX g ad) ad g) (AW ad 76 s.heap.size)) args s 0 0 (AW ad 76 s.heap.size)) (F0 m 0 ls []) := by
    intro H locs hI
    refine lv_aload_n hx hb dX5_findingAt_0 rfl (lv_at hl 0 rfl) ?_
    refine x_afti (va_runV (As := []) (rest := []) ⟨hx, hb, hml, hown, hts⟩ (c_X5_isMissing l g ad H.size V k0 hk0 _ hw) (cwV 0 hts gX5_findingAt_X5_isMissing rfl rfl rfl (by decide +kernel) ⟨Nat.le_of_ble_eq_true rfl, Nat.le_of_ble_eq_true rfl⟩) (x_preV (k := k0) hK hE hI (kX_lt hk0 (by decide)) (cX_5 hk0) rfl) rfl rfl hl.1 rfl (lv_room (Nat.le_of_ble_eq_true rfl)) dX5_findingAt_1 ⟨Nat.zero_le _, Nat.zero_le _⟩) hI (fun r2 V1 H locs hw hI => ?_)
    refine lv_if_eq (tgt := 9) hx hb dX5_findingAt_4 (by decide) (fun c3 => ?_) (fun c3 => ?_)
    · replace hw := hw.1 c3
      refine lv_iload_n hx hb dX5_findingAt_9 rfl (lv_at hl 1 rfl) ?_
      refine lv_if_lt (tgt := 27) hx hb dX5_findingAt_10 (by decide) (fun c4 => ?_) (fun c4 => ?_)
      · replace hw := hw.1 c4
        exact hb27 V1 H locs ls  hI (lv_sub hl [] rfl) hw
      · replace hw := hw.2 c4
        refine lv_iload_n hx hb dX5_findingAt_13 rfl (lv_at hl 2 rfl) ?_
        refine lv_if_lt (tgt := 27) hx hb dX5_findingAt_14 (by decide) (fun c5 => ?_) (fun c5 => ?_)
        · replace hw := hw.1 c5
          exact hb27 V1 H locs ls  hI (lv_sub hl [] rfl) hw
        · replace hw := hw.2 c5
          refine lv_iload_n hx hb dX5_findingAt_17 rfl (lv_at hl 1 rfl) ?_
          refine lv_aload_n hx hb dX5_findingAt_18 rfl (lv_at hl 0 rfl) ?_
          refine xg5_2 (k := k0) hx hb hts hin5 hown hK hI hk0 hw_0 dX5_findingAt_19 ?_
          refine lv_iload_n hx hb dX5_findingAt_22 rfl (lv_at hl 2 rfl) ?_
          refine lv_isub hx hb dX5_findingAt_23 ?_
          refine lv_icmp_le (tgt := 31) hx hb dX5_findingAt_24 (by decide) (fun c6 => ?_) (fun c6 => ?_)
          · replace hw := hw.1 c6
            refine lv_iconst (v := (0 : Int32)) hx hb dX5_findingAt_31 (by decide) ?_
            exact W.iret (v := (0 : Int32)) hx hb hr (x_reti hI hw) hI.2.2.2.2 dX5_findingAt_32
          · replace hw := hw.2 c6
            exact hb27 V1 H locs ls  hI (lv_sub hl [] rfl) hw
    · replace hw := hw.2 c3
      refine lv_iconst (v := (1 : Int32)) hx hb dX5_findingAt_7 (by decide) ?_
      exact W.iret (v := (1 : Int32)) hx hb hr (x_reti hI hw) hI.2.2.2.2 dX5_findingAt_8
  exact hgo s.heap [] hI
def rm_X6_add : Room := { frames := 0, cells := 0, slots := 0, locals := 0 }
set_option maxHeartbeats 4000000 in
set_option maxRecDepth 100000 in
theorem c_X6_add (l : Launch) (g : GP) (ad : Nat → Nat) (sz : Nat) (V : VT) (x1 : Int32)  (K : Int32 → VT → Prop) (hw : wp_X6_add V x1 K) : Met l yX6_add wsX6_add rm_X6_add (va_Pc [.ref (ad 3), .int x1] (WPre 76 (cX g ad) ad g V sz)) (va_Qi K (WPost 76 (cX g ad) ad g) (AW ad 76 sz)) 0 0 (AW ad 76 sz) := by
  refine Met.ofW (cc := cX6_add) (maxL := 2) (ret := (some .boolean)) (by decide) rfl ?_
  intro p e s m args below meth c s₁ B hml hv
  obtain ⟨ha, hv⟩ := hv
  obtain rfl := hv.1
  have hI : WI g 76 (cX g ad) ad V s.heap s.heap [] := WI.start hv
  have hK := hv.2.2.1
  have hE := hv.2.2.2.2
  have hx := B.exec
  have hb := B.bytes
  have hr := B.returns
  have hts := atoms_spec (ws := wsX6_add) B.pre
  have hown : s.vm.findClass RX6 = some m.cls := findClass_of_methodNamed B.named
  have hlocks := B.notSynchronized
  have hw_0 := hts (.fieldLink RX6 15 "HoopLane$Tape" "size" "I") (by decide +kernel)
  have hw_1 := hts (.fieldLink RX6 9 "HoopLane$Tape" "bytes" "[I") (by decide +kernel)
  have hin6 : ∀ w ∈ wsX60, w ∈ wsX6_add := by decide +kernel
  have hl := lv_entry ([.ref (ad 3), .int x1]) (n := 2) (Nat.le_of_ble_eq_true rfl)
  have hent : entryFrame m args 2 = F0 m 0 ((lg_sl ([.ref (ad 3), .int x1]) ++ List.replicate (2 - (lg_sl ([.ref (ad 3), .int x1])).length) Slot.unset).toArray) [] := by rw [ha, lg_entry_eq]
  rw [hent]
  generalize (lg_sl ([.ref (ad 3), .int x1]) ++ List.replicate (2 - (lg_sl ([.ref (ad 3), .int x1])).length) Slot.unset).toArray = ls at hl ⊢
  have hl : lv_has ls 2 [(0, .ref (ad 3)), (1, .int x1)] := hl
  obtain ⟨H, hH⟩ : ∃ H : Heap, H = s.heap := ⟨_, rfl⟩
  have hgo : ∀ (H : Heap) (locs : List Loc), WI g 76 (cX g ad) ad V s.heap H locs → W p l e (headSpec wsX6_add rm_X6_add).room s m args below meth c H locs 0 0 (MQ below (va_Qi K (WPost 76 (cX g ad) ad g) (AW ad 76 s.heap.size)) args s 0 0 (AW ad 76 s.heap.size)) (F0 m 0 ls []) := by
    intro H locs hI
    refine lv_aload_n hx hb dX6_add_0 rfl (lv_at hl 0 rfl) ?_
    refine xg6_1 (k := 3) hx hb hts hin6 hown hK hI (by decide) hw_0 dX6_add_1 ?_
    refine lv_bipush (v := (100 : Int32)) hx hb dX6_add_4 (by decide) ?_
    refine lv_icmp_lt (tgt := 11) hx hb dX6_add_6 (by decide) (fun c1 => ?_) (fun c1 => ?_)
    · replace hw := hw.1 c1
      refine lv_aload_n hx hb dX6_add_11 rfl (lv_at hl 0 rfl) ?_
      refine xg6_0 (k := 3) hx hb hts hin6 hown hK hI (by decide) hw_1 dX6_add_12 ?_
      refine lv_aload_n hx hb dX6_add_15 rfl (lv_at hl 0 rfl) ?_
      refine xg6_1 (k := 3) hx hb hts hin6 hown hK hI (by decide) hw_0 dX6_add_16 ?_
      refine lv_iload_n hx hb dX6_add_19 rfl (lv_at hl 1 rfl) ?_
      obtain ⟨h2, hw⟩ := hw
      refine x_iastV (k := 4) hx hb hK hI (cX_loc g ad) (by decide) (fun _ => cX_9 (by decide) (by decide)) h2 dX6_add_20 (fun V3 H locs eV3 hI => ?_)
      replace hw := hw V3 eV3
      refine lv_aload_n hx hb dX6_add_21 rfl (lv_at hl 0 rfl) ?_
      refine lv_dup hx hb dX6_add_22 rfl ?_
      refine xg6_1 (k := 3) hx hb hts hin6 hown hK hI (by decide) hw_0 dX6_add_23 ?_
      refine lv_iconst (v := (1 : Int32)) hx hb dX6_add_26 (by decide) ?_
      refine lv_iadd hx hb dX6_add_27 ?_
      refine xp6_1 (k := 3) hx hb hts hin6 hown hK hI (by decide) hw_0 dX6_add_28 (fun V4 H locs eV4 hI => ?_)
      replace hw := hw V4 eV4
      refine lv_iconst (v := (1 : Int32)) hx hb dX6_add_31 (by decide) ?_
      exact W.zret (v := (1 : Int32)) hx hb hr rfl (x_reti hI hw) hI.2.2.2.2 dX6_add_32
    · replace hw := hw.2 c1
      refine lv_iconst (v := (0 : Int32)) hx hb dX6_add_9 (by decide) ?_
      exact W.zret (v := (0 : Int32)) hx hb hr rfl (x_reti hI hw) hI.2.2.2.2 dX6_add_10
  exact hgo s.heap [] hI
def rm_X6_clear : Room := { frames := 0, cells := 0, slots := 0, locals := 0 }
set_option maxHeartbeats 4000000 in
set_option maxRecDepth 100000 in
theorem c_X6_clear (l : Launch) (g : GP) (ad : Nat → Nat) (sz : Nat) (V : VT)   (K : VT → Prop) (hw : wp_X6_clear V  K) : Met l yX6_clear wsX6_clear rm_X6_clear (va_Pc [.ref (ad 3)] (WPre 76 (cX g ad) ad g V sz)) (va_Qv K (WPost 76 (cX g ad) ad g) (AW ad 76 sz)) 0 0 (AW ad 76 sz) := by
  refine Met.ofW (cc := cX6_clear) (maxL := 1) (ret := none) (by decide) rfl ?_
  intro p e s m args below meth c s₁ B hml hv
  obtain ⟨ha, hv⟩ := hv
  obtain rfl := hv.1
  have hI : WI g 76 (cX g ad) ad V s.heap s.heap [] := WI.start hv
  have hK := hv.2.2.1
  have hE := hv.2.2.2.2
  have hx := B.exec
  have hb := B.bytes
  have hr := B.returns
  have hts := atoms_spec (ws := wsX6_clear) B.pre
  have hown : s.vm.findClass RX6 = some m.cls := findClass_of_methodNamed B.named
  have hlocks := B.notSynchronized
  have hw_0 := hts (.fieldLink RX6 15 "HoopLane$Tape" "size" "I") (by decide +kernel)
  have hin6 : ∀ w ∈ wsX60, w ∈ wsX6_clear := by decide +kernel
  have hl := lv_entry ([.ref (ad 3)]) (n := 1) (Nat.le_of_ble_eq_true rfl)
  have hent : entryFrame m args 1 = F0 m 0 ((lg_sl ([.ref (ad 3)]) ++ List.replicate (1 - (lg_sl ([.ref (ad 3)])).length) Slot.unset).toArray) [] := by rw [ha, lg_entry_eq]
  rw [hent]
  generalize (lg_sl ([.ref (ad 3)]) ++ List.replicate (1 - (lg_sl ([.ref (ad 3)])).length) Slot.unset).toArray = ls at hl ⊢
  have hl : lv_has ls 1 [(0, .ref (ad 3))] := hl
  obtain ⟨H, hH⟩ : ∃ H : Heap, H = s.heap := ⟨_, rfl⟩
  have hgo : ∀ (H : Heap) (locs : List Loc), WI g 76 (cX g ad) ad V s.heap H locs → W p l e (headSpec wsX6_clear rm_X6_clear).room s m args below meth c H locs 0 0 (MQ below (va_Qv K (WPost 76 (cX g ad) ad g) (AW ad 76 s.heap.size)) args s 0 0 (AW ad 76 s.heap.size)) (F0 m 0 ls []) := by
    intro H locs hI
    refine lv_aload_n hx hb dX6_clear_0 rfl (lv_at hl 0 rfl) ?_
    refine lv_iconst (v := (0 : Int32)) hx hb dX6_clear_1 (by decide) ?_
    refine xp6_1 (k := 3) hx hb hts hin6 hown hK hI (by decide) hw_0 dX6_clear_2 (fun V1 H locs eV1 hI => ?_)
    replace hw := hw V1 eV1
    exact W.vret hx hb hr (x_retv hI hw) hI.2.2.2.2 dX6_clear_5
  exact hgo s.heap [] hI
def rm_X6_fail : Room := { frames := 0, cells := 0, slots := 0, locals := 0 }
set_option maxHeartbeats 4000000 in
set_option maxRecDepth 100000 in
theorem c_X6_fail (l : Launch) (g : GP) (ad : Nat → Nat) (sz : Nat) (V : VT) (x1 : Int32)  (K : VT → Prop) (hw : wp_X6_fail V x1 K) : Met l yX6_fail wsX6_fail rm_X6_fail (va_Pc [.ref (ad 3), .int x1] (WPre 76 (cX g ad) ad g V sz)) (va_Qv K (WPost 76 (cX g ad) ad g) (AW ad 76 sz)) 0 0 (AW ad 76 sz) := by
  refine Met.ofW (cc := cX6_fail) (maxL := 2) (ret := none) (by decide) rfl ?_
  intro p e s m args below meth c s₁ B hml hv
  obtain ⟨ha, hv⟩ := hv
  obtain rfl := hv.1
  have hI : WI g 76 (cX g ad) ad V s.heap s.heap [] := WI.start hv
  have hK := hv.2.2.1
  have hE := hv.2.2.2.2
  have hx := B.exec
  have hb := B.bytes
  have hr := B.returns
  have hts := atoms_spec (ws := wsX6_fail) B.pre
  have hown : s.vm.findClass RX6 = some m.cls := findClass_of_methodNamed B.named
  have hlocks := B.notSynchronized
  have hw_0 := hts (.fieldLink RX6 22 "HoopLane$Tape" "fault" "I") (by decide +kernel)
  have hin6 : ∀ w ∈ wsX60, w ∈ wsX6_fail := by decide +kernel
  have hl := lv_entry ([.ref (ad 3), .int x1]) (n := 2) (Nat.le_of_ble_eq_true rfl)
  have hent : entryFrame m args 2 = F0 m 0 ((lg_sl ([.ref (ad 3), .int x1]) ++ List.replicate (2 - (lg_sl ([.ref (ad 3), .int x1])).length) Slot.unset).toArray) [] := by rw [ha, lg_entry_eq]
  rw [hent]
  generalize (lg_sl ([.ref (ad 3), .int x1]) ++ List.replicate (2 - (lg_sl ([.ref (ad 3), .int x1])).length) Slot.unset).toArray = ls at hl ⊢
  have hl : lv_has ls 2 [(0, .ref (ad 3)), (1, .int x1)] := hl
  obtain ⟨H, hH⟩ : ∃ H : Heap, H = s.heap := ⟨_, rfl⟩
  have hgo : ∀ (H : Heap) (locs : List Loc), WI g 76 (cX g ad) ad V s.heap H locs → W p l e (headSpec wsX6_fail rm_X6_fail).room s m args below meth c H locs 0 0 (MQ below (va_Qv K (WPost 76 (cX g ad) ad g) (AW ad 76 s.heap.size)) args s 0 0 (AW ad 76 s.heap.size)) (F0 m 0 ls []) := by
    intro H locs hI
    refine lv_aload_n hx hb dX6_fail_0 rfl (lv_at hl 0 rfl) ?_
    refine xg6_3 (k := 3) hx hb hts hin6 hown hK hI (by decide) hw_0 dX6_fail_1 ?_
    refine lv_if_ne (tgt := 12) hx hb dX6_fail_4 (by decide) (fun c1 => ?_) (fun c1 => ?_)
    · replace hw := hw.1 c1
      exact W.vret hx hb hr (x_retv hI hw) hI.2.2.2.2 dX6_fail_12
    · replace hw := hw.2 c1
      refine lv_aload_n hx hb dX6_fail_7 rfl (lv_at hl 0 rfl) ?_
      refine lv_iload_n hx hb dX6_fail_8 rfl (lv_at hl 1 rfl) ?_
      refine xp6_3 (k := 3) hx hb hts hin6 hown hK hI (by decide) hw_0 dX6_fail_9 (fun V2 H locs eV2 hI => ?_)
      replace hw := hw V2 eV2
      exact W.vret hx hb hr (x_retv hI hw) hI.2.2.2.2 dX6_fail_12
  exact hgo s.heap [] hI
def rm_X6_readSign : Room := { frames := 1, cells := 0, slots := 0, locals := 21 }
set_option maxHeartbeats 4000000 in
set_option maxRecDepth 100000 in
theorem c_X6_readSign (l : Launch) (g : GP) (ad : Nat → Nat) (sz : Nat) (V : VT) (x1 : Int32)  (K : VT → Prop) (hw : wp_X6_readSign V x1 K) : Met l yX6_readSign wsX6_readSign rm_X6_readSign (va_Pc [.ref (ad 3), .int x1] (WPre 76 (cX g ad) ad g V sz)) (va_Qv K (WPost 76 (cX g ad) ad g) (AW ad 76 sz)) 0 0 (AW ad 76 sz) := by
  refine Met.ofW (cc := cX6_readSign) (maxL := 2) (ret := none) (by decide) rfl ?_
  intro p e s m args below meth c s₁ B hml hv
  obtain ⟨ha, hv⟩ := hv
  obtain rfl := hv.1
  have hI : WI g 76 (cX g ad) ad V s.heap s.heap [] := WI.start hv
  have hK := hv.2.2.1
  have hE := hv.2.2.2.2
  have hx := B.exec
  have hb := B.bytes
  have hr := B.returns
  have hts := atoms_spec (ws := wsX6_readSign) B.pre
  have hown : s.vm.findClass RX6 = some m.cls := findClass_of_methodNamed B.named
  have hlocks := B.notSynchronized
  have hw_0 := hts (.fieldLink RX6 22 "HoopLane$Tape" "fault" "I") (by decide +kernel)
  have hw_1 := hts (.fieldLink RX6 19 "HoopLane$Tape" "at" "I") (by decide +kernel)
  have hw_2 := hts (.fieldLink RX6 15 "HoopLane$Tape" "size" "I") (by decide +kernel)
  have hw_3 := hts (.fieldLink RX6 9 "HoopLane$Tape" "bytes" "[I") (by decide +kernel)
  have hin6 : ∀ w ∈ wsX60, w ∈ wsX6_readSign := by decide +kernel
  have hl := lv_entry ([.ref (ad 3), .int x1]) (n := 2) (Nat.le_of_ble_eq_true rfl)
  have hent : entryFrame m args 2 = F0 m 0 ((lg_sl ([.ref (ad 3), .int x1]) ++ List.replicate (2 - (lg_sl ([.ref (ad 3), .int x1])).length) Slot.unset).toArray) [] := by rw [ha, lg_entry_eq]
  rw [hent]
  generalize (lg_sl ([.ref (ad 3), .int x1]) ++ List.replicate (2 - (lg_sl ([.ref (ad 3), .int x1])).length) Slot.unset).toArray = ls at hl ⊢
  have hl : lv_has ls 2 [(0, .ref (ad 3)), (1, .int x1)] := hl
  obtain ⟨H, hH⟩ : ∃ H : Heap, H = s.heap := ⟨_, rfl⟩
  have hb32 : ∀ (V : VT) (H : Heap) (locs : List Loc) (ls : Array Slot) , WI g 76 (cX g ad) ad V s.heap H locs → lv_has ls 2 [(0, .ref (ad 3))] → wp_X6_readSign_b32 K  V  → W p l e (headSpec wsX6_readSign rm_X6_readSign).room s m args below meth c H locs 0 0 (MQ below (va_Qv K (WPost 76 (cX g ad) ad g) (AW ad 76 s.heap.size)) args s 0 0 (AW ad 76 s.heap.size)) (F0 m 32 ls []) := by
    intro V H locs ls   hI hl hw
    refine lv_aload_n hx hb dX6_readSign_32 rfl (lv_at hl 0 rfl) ?_
    refine lv_iconst (v := (1 : Int32)) hx hb dX6_readSign_33 (by decide) ?_
    refine x_aftv (va_runV (As := [.int (1 : Int32)]) (rest := []) ⟨hx, hb, hml, hown, hts⟩ (c_X6_fail l g ad H.size V (1 : Int32) _ hw) (cwV 1 hts gX6_readSign_X6_fail rfl rfl rfl (by decide +kernel) ⟨Nat.le_of_ble_eq_true rfl, Nat.le_of_ble_eq_true rfl⟩) (x_preV (k := 3) hK hE hI (by decide) (cX_6 (by decide)) rfl) rfl rfl hl.1 rfl (lv_room (Nat.le_of_ble_eq_true rfl)) dX6_readSign_34 ⟨Nat.zero_le _, Nat.zero_le _⟩) hI (fun V6 H locs hw hI => ?_)
    exact W.vret hx hb hr (x_retv hI hw) hI.2.2.2.2 dX6_readSign_37
  have hgo : ∀ (H : Heap) (locs : List Loc), WI g 76 (cX g ad) ad V s.heap H locs → W p l e (headSpec wsX6_readSign rm_X6_readSign).room s m args below meth c H locs 0 0 (MQ below (va_Qv K (WPost 76 (cX g ad) ad g) (AW ad 76 s.heap.size)) args s 0 0 (AW ad 76 s.heap.size)) (F0 m 0 ls []) := by
    intro H locs hI
    refine lv_aload_n hx hb dX6_readSign_0 rfl (lv_at hl 0 rfl) ?_
    refine xg6_3 (k := 3) hx hb hts hin6 hown hK hI (by decide) hw_0 dX6_readSign_1 ?_
    refine lv_if_eq (tgt := 8) hx hb dX6_readSign_4 (by decide) (fun c1 => ?_) (fun c1 => ?_)
    · replace hw := hw.1 c1
      refine lv_aload_n hx hb dX6_readSign_8 rfl (lv_at hl 0 rfl) ?_
      refine xg6_2 (k := 3) hx hb hts hin6 hown hK hI (by decide) hw_1 dX6_readSign_9 ?_
      refine lv_aload_n hx hb dX6_readSign_12 rfl (lv_at hl 0 rfl) ?_
      refine xg6_1 (k := 3) hx hb hts hin6 hown hK hI (by decide) hw_2 dX6_readSign_13 ?_
      refine lv_icmp_ge (tgt := 32) hx hb dX6_readSign_16 (by decide) (fun c2 => ?_) (fun c2 => ?_)
      · replace hw := hw.1 c2
        exact hb32 V H locs ls  hI (lv_sub hl [0] rfl) hw
      · replace hw := hw.2 c2
        refine lv_aload_n hx hb dX6_readSign_19 rfl (lv_at hl 0 rfl) ?_
        refine xg6_0 (k := 3) hx hb hts hin6 hown hK hI (by decide) hw_3 dX6_readSign_20 ?_
        refine lv_aload_n hx hb dX6_readSign_23 rfl (lv_at hl 0 rfl) ?_
        refine xg6_2 (k := 3) hx hb hts hin6 hown hK hI (by decide) hw_1 dX6_readSign_24 ?_
        obtain ⟨h3, hw⟩ := hw
        refine x_iald (k := 4) hx hb hK hI (by decide) (cX_9 (by decide) (by decide)) h3 dX6_readSign_27 ?_
        refine lv_iload_n hx hb dX6_readSign_28 rfl (lv_at hl 1 rfl) ?_
        refine lv_icmp_eq (tgt := 38) hx hb dX6_readSign_29 (by decide) (fun c4 => ?_) (fun c4 => ?_)
        · replace hw := hw.1 c4
          refine lv_aload_n hx hb dX6_readSign_38 rfl (lv_at hl 0 rfl) ?_
          refine lv_dup hx hb dX6_readSign_39 rfl ?_
          refine xg6_2 (k := 3) hx hb hts hin6 hown hK hI (by decide) hw_1 dX6_readSign_40 ?_
          refine lv_iconst (v := (1 : Int32)) hx hb dX6_readSign_43 (by decide) ?_
          refine lv_iadd hx hb dX6_readSign_44 ?_
          refine xp6_2 (k := 3) hx hb hts hin6 hown hK hI (by decide) hw_1 dX6_readSign_45 (fun V5 H locs eV5 hI => ?_)
          replace hw := hw V5 eV5
          exact W.vret hx hb hr (x_retv hI hw) hI.2.2.2.2 dX6_readSign_48
        · replace hw := hw.2 c4
          exact hb32 V H locs ls  hI (lv_sub hl [0] rfl) hw
    · replace hw := hw.2 c1
      exact W.vret hx hb hr (x_retv hI hw) hI.2.2.2.2 dX6_readSign_7
  exact hgo s.heap [] hI
