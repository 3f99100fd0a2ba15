def rm_X8_drop : Room := { frames := 2, cells := 0, slots := 0, locals := 45 }
set_option maxHeartbeats 4000000 in
set_option maxRecDepth 100000 in
theorem c_X8_drop (l : Launch) (g : GP) (ad : Nat → Nat) (sz : Nat) (V : VT) (x1 : Int32)  (K : Int32 → VT → Prop) (hw : wp_X8_drop V x1 K) : Met l yX8_drop wsX8_drop rm_X8_drop (va_Pc [.ref (ad 0), .int x1] (WPre 13 (cM g ad) ad g V sz)) (va_Qi K (WPost 13 (cM g ad) ad g) (AW ad 13 sz)) 0 0 (AW ad 13 sz) := by
  refine Met.ofW (cc := cX8_drop) (maxL := 2) (ret := (some .int)) (by decide) rfl ?_
  intro p e s m args below meth c s₁ B hml hv
  obtain ⟨ha, hv⟩ := hv
  obtain rfl := hv.1
  have hI : WI g 13 (cM g ad) ad V s.heap s.heap [] := WI.start hv
  have hK := hv.2.2.1
  have hE := hv.2.2.2.2
  have hx := B.exec
  have hb := B.bytes
  have hr := B.returns
  have hts := atoms_spec (ws := wsX8_drop) B.pre
  have hown : s.vm.findClass RX8 = some m.cls := findClass_of_methodNamed B.named
  have hlocks := B.notSynchronized
  have hw_0 := hts (.fieldLink RX8 7 "HoopLaneModel" "lanes" "[I") (by decide +kernel)
  have hw_1 := hts (.fieldLink RX8 13 "HoopLaneModel" "sizes" "[I") (by decide +kernel)
  have hw_2 := hts (.constant RX8 64 (-1000001)) (by decide +kernel)
  have hin8 : ∀ w ∈ wsX80, w ∈ wsX8_drop := by decide +kernel
  have hl := lv_entry ([.ref (ad 0), .int x1]) (n := 2) (Nat.le_of_ble_eq_true rfl)
  have hent : entryFrame m args 2 = F0 m 0 ((lg_sl ([.ref (ad 0), .int x1]) ++ List.replicate (2 - (lg_sl ([.ref (ad 0), .int x1])).length) Slot.unset).toArray) [] := by rw [ha, lg_entry_eq]
  rw [hent]
  generalize (lg_sl ([.ref (ad 0), .int x1]) ++ List.replicate (2 - (lg_sl ([.ref (ad 0), .int x1])).length) Slot.unset).toArray = ls at hl ⊢
  have hl : lv_has ls 2 [(0, .ref (ad 0)), (1, .int x1)] := hl
  obtain ⟨H, hH⟩ : ∃ H : Heap, H = s.heap := ⟨_, rfl⟩
  have hgo : ∀ (H : Heap) (locs : List Loc), WI g 13 (cM g ad) ad V s.heap H locs → W p l e (headSpec wsX8_drop rm_X8_drop).room s m args below meth c H locs 0 0 (MQ below (va_Qi K (WPost 13 (cM g ad) ad g) (AW ad 13 s.heap.size)) args s 0 0 (AW ad 13 s.heap.size)) (F0 m 0 ls []) := by
    intro H locs hI
    refine lv_iload_n hx hb dX8_drop_0 rfl (lv_at hl 1 rfl) ?_
    refine x_afti (va_runS (As := [.int x1]) (rest := []) ⟨hx, hb, hml, hown, hts⟩ (c_X8_isRow l g ad H.size V x1 _ hw) (cwS 1 hts gX8_drop_X8_isRow rfl rfl rfl (by decide +kernel) ⟨Nat.le_of_ble_eq_true rfl, Nat.le_of_ble_eq_true rfl⟩) (x_preS hK hE hI) rfl rfl hl.1 rfl (lv_room (Nat.le_of_ble_eq_true rfl)) dX8_drop_1 ⟨Nat.zero_le _, Nat.zero_le _⟩) hI (fun r2 V1 H locs hw hI => ?_)
    refine lv_if_ne (tgt := 10) hx hb dX8_drop_4 (by decide) (fun c3 => ?_) (fun c3 => ?_)
    · replace hw := hw.1 c3
      refine lv_aload_n hx hb dX8_drop_10 rfl (lv_at hl 0 rfl) ?_
      refine mg_0 hx hb hts hin8 hown hK hI hw_0 dX8_drop_11 ?_
      refine lv_iload_n hx hb dX8_drop_14 rfl (lv_at hl 1 rfl) ?_
      obtain ⟨h4, hw⟩ := hw
      refine x_iald (k := 1) hx hb hK hI (by decide) rfl h4 dX8_drop_15 ?_
      refine lv_if_ge (tgt := 25) hx hb dX8_drop_16 (by decide) (fun c5 => ?_) (fun c5 => ?_)
      · replace hw := hw.1 c5
        refine lv_aload_n hx hb dX8_drop_25 rfl (lv_at hl 0 rfl) ?_
        refine mg_0 hx hb hts hin8 hown hK hI hw_0 dX8_drop_26 ?_
        refine lv_iload_n hx hb dX8_drop_29 rfl (lv_at hl 1 rfl) ?_
        refine lv_iconst (v := (-1 : Int32)) hx hb dX8_drop_30 (by decide) ?_
        obtain ⟨h6, hw⟩ := hw
        refine x_iastV (k := 1) hx hb hK hI (cM_loc g ad) (by decide) (fun _ => rfl) h6 dX8_drop_31 (fun V7 H locs eV7 hI => ?_)
        replace hw := hw V7 eV7
        refine lv_aload_n hx hb dX8_drop_32 rfl (lv_at hl 0 rfl) ?_
        refine lv_aload_n hx hb dX8_drop_33 rfl (lv_at hl 0 rfl) ?_
        refine mg_1 hx hb hts hin8 hown hK hI hw_1 dX8_drop_34 ?_
        refine lv_iload_n hx hb dX8_drop_37 rfl (lv_at hl 1 rfl) ?_
        obtain ⟨h8, hw⟩ := hw
        refine x_iald (k := 2) hx hb hK hI (by decide) rfl h8 dX8_drop_38 ?_
        refine x_afti (va_runV (As := [.int (V7 2 (x1).toNatClampNeg)]) (rest := []) ⟨hx, hb, hml, hown, hts⟩ (c_X8_well l g ad H.size V7 (V7 2 (x1).toNatClampNeg) _ hw) (cwV 1 hts gX8_drop_X8_well rfl rfl rfl (by decide +kernel) ⟨Nat.le_of_ble_eq_true rfl, Nat.le_of_ble_eq_true rfl⟩) (x_preV (k := 0) hK hE hI (by decide) rfl rfl) rfl rfl hl.1 rfl (lv_room (Nat.le_of_ble_eq_true rfl)) dX8_drop_39 ⟨Nat.zero_le _, Nat.zero_le _⟩) hI (fun r10 V9 H locs hw hI => ?_)
        exact W.iret (v := r10) hx hb hr (x_reti hI hw) hI.2.2.2.2 dX8_drop_42
      · replace hw := hw.2 c5
        refine lv_aload_n hx hb dX8_drop_19 rfl (lv_at hl 0 rfl) ?_
        refine lv_iconst (v := (1 : Int32)) hx hb dX8_drop_20 (by decide) ?_
        refine x_afti (va_runV (As := [.int (1 : Int32)]) (rest := []) ⟨hx, hb, hml, hown, hts⟩ (c_X8_finds l g ad H.size V1 (1 : Int32) _ hw) (cwV 1 hts gX8_drop_X8_finds rfl rfl rfl (by decide +kernel) ⟨Nat.le_of_ble_eq_true rfl, Nat.le_of_ble_eq_true rfl⟩) (x_preV (k := 0) hK hE hI (by decide) rfl rfl) rfl rfl hl.1 rfl (lv_room (Nat.le_of_ble_eq_true rfl)) dX8_drop_21 ⟨Nat.zero_le _, Nat.zero_le _⟩) hI (fun r12 V11 H locs hw hI => ?_)
        exact W.iret (v := r12) hx hb hr (x_reti hI hw) hI.2.2.2.2 dX8_drop_24
    · replace hw := hw.2 c3
      refine lv_ldc (v := (-1000001 : Int32)) hx hb hown hw_2 dX8_drop_7 ?_
      exact W.iret (v := (-1000001 : Int32)) hx hb hr (x_reti hI hw) hI.2.2.2.2 dX8_drop_9
  exact hgo s.heap [] hI
def rm_X8_partOf : Room := { frames := 1, cells := 0, slots := 0, locals := 23 }
set_option maxHeartbeats 4000000 in
set_option maxRecDepth 100000 in
theorem c_X8_partOf (l : Launch) (g : GP) (ad : Nat → Nat) (sz : Nat) (V : VT) (x1 : Int32) (x2 : Int32) (x3 : Int32)  (K : Int32 → VT → Prop) (hw : wp_X8_partOf V x1 x2 x3 K) : Met l yX8_partOf wsX8_partOf rm_X8_partOf (va_Pc [.ref (ad 0), .int x1, .int x2, .int x3] (WPre 13 (cM g ad) ad g V sz)) (va_Qi K (WPost 13 (cM g ad) ad g) (AW ad 13 sz)) 0 0 (AW ad 13 sz) := by
  refine Met.ofW (cc := cX8_partOf) (maxL := 4) (ret := (some .int)) (by decide) rfl ?_
  intro p e s m args below meth c s₁ B hml hv
  obtain ⟨ha, hv⟩ := hv
  obtain rfl := hv.1
  have hI : WI g 13 (cM g ad) ad V s.heap s.heap [] := WI.start hv
  have hK := hv.2.2.1
  have hE := hv.2.2.2.2
  have hx := B.exec
  have hb := B.bytes
  have hr := B.returns
  have hts := atoms_spec (ws := wsX8_partOf) B.pre
  have hown : s.vm.findClass RX8 = some m.cls := findClass_of_methodNamed B.named
  have hlocks := B.notSynchronized
  have hw_0 := hts (.fieldLink RX8 7 "HoopLaneModel" "lanes" "[I") (by decide +kernel)
  have hin8 : ∀ w ∈ wsX80, w ∈ wsX8_partOf := by decide +kernel
  have hl := lv_entry ([.ref (ad 0), .int x1, .int x2, .int x3]) (n := 4) (Nat.le_of_ble_eq_true rfl)
  have hent : entryFrame m args 4 = F0 m 0 ((lg_sl ([.ref (ad 0), .int x1, .int x2, .int x3]) ++ List.replicate (4 - (lg_sl ([.ref (ad 0), .int x1, .int x2, .int x3])).length) Slot.unset).toArray) [] := by rw [ha, lg_entry_eq]
  rw [hent]
  generalize (lg_sl ([.ref (ad 0), .int x1, .int x2, .int x3]) ++ List.replicate (4 - (lg_sl ([.ref (ad 0), .int x1, .int x2, .int x3])).length) Slot.unset).toArray = ls at hl ⊢
  have hl : lv_has ls 4 [(0, .ref (ad 0)), (1, .int x1), (2, .int x2), (3, .int x3)] := hl
  obtain ⟨H, hH⟩ : ∃ H : Heap, H = s.heap := ⟨_, rfl⟩
  have hgo : ∀ (H : Heap) (locs : List Loc), WI g 13 (cM g ad) ad V s.heap H locs → W p l e (headSpec wsX8_partOf rm_X8_partOf).room s m args below meth c H locs 0 0 (MQ below (va_Qi K (WPost 13 (cM g ad) ad g) (AW ad 13 s.heap.size)) args s 0 0 (AW ad 13 s.heap.size)) (F0 m 0 ls []) := by
    intro H locs hI
    refine lv_aload_n hx hb dX8_partOf_0 rfl (lv_at hl 0 rfl) ?_
    refine mg_0 hx hb hts hin8 hown hK hI hw_0 dX8_partOf_1 ?_
    refine lv_iload_n hx hb dX8_partOf_4 rfl (lv_at hl 1 rfl) ?_
    obtain ⟨h1, hw⟩ := hw
    refine x_iald (k := 1) hx hb hK hI (by decide) rfl h1 dX8_partOf_5 ?_
    refine lv_if_ge (tgt := 13) hx hb dX8_partOf_6 (by decide) (fun c2 => ?_) (fun c2 => ?_)
    · replace hw := hw.1 c2
      refine lv_aload_n hx hb dX8_partOf_13 rfl (lv_at hl 0 rfl) ?_
      refine lv_iload_n hx hb dX8_partOf_14 rfl (lv_at hl 1 rfl) ?_
      refine lv_iload_n hx hb dX8_partOf_15 rfl (lv_at hl 2 rfl) ?_
      refine lv_iload_n hx hb dX8_partOf_16 rfl (lv_at hl 3 rfl) ?_
      refine x_afti (va_runV (As := [.int x1, .int x2, .int x3]) (rest := []) ⟨hx, hb, hml, hown, hts⟩ (c_X8_isPart l g ad H.size V x1 x2 x3 _ hw) (cwV 3 hts gX8_partOf_X8_isPart rfl rfl rfl (by decide +kernel) ⟨Nat.le_of_ble_eq_true rfl, Nat.le_of_ble_eq_true rfl⟩) (x_preV (k := 0) hK hE hI (by decide) rfl rfl) rfl rfl hl.1 rfl (lv_room (Nat.le_of_ble_eq_true rfl)) dX8_partOf_17 ⟨Nat.zero_le _, Nat.zero_le _⟩) hI (fun r4 V3 H locs hw hI => ?_)
      refine lv_if_eq (tgt := 27) hx hb dX8_partOf_20 (by decide) (fun c5 => ?_) (fun c5 => ?_)
      · replace hw := hw.1 c5
        refine lv_iconst (v := (2 : Int32)) hx hb dX8_partOf_27 (by decide) ?_
        exact W.iret (v := (2 : Int32)) hx hb hr (x_reti hI hw) hI.2.2.2.2 dX8_partOf_28
      · replace hw := hw.2 c5
        refine lv_iconst (v := (0 : Int32)) hx hb dX8_partOf_23 (by decide) ?_
        refine lv_goto (tgt := 28) hx hb dX8_partOf_24 (by decide) ?_
        exact W.iret (v := (0 : Int32)) hx hb hr (x_reti hI hw) hI.2.2.2.2 dX8_partOf_28
    · replace hw := hw.2 c2
      refine lv_iconst (v := (1 : Int32)) hx hb dX8_partOf_9 (by decide) ?_
      refine lv_goto (tgt := 28) hx hb dX8_partOf_10 (by decide) ?_
      exact W.iret (v := (1 : Int32)) hx hb hr (x_reti hI hw) hI.2.2.2.2 dX8_partOf_28
  exact hgo s.heap [] hI
def rm_X8_feed : Room := { frames := 1, cells := 0, slots := 0, locals := 25 }
set_option maxHeartbeats 4000000 in
set_option maxRecDepth 100000 in
theorem c_X8_feed (l : Launch) (g : GP) (ad : Nat → Nat) (sz : Nat) (V : VT) (x1 : Int32)  (K : Int32 → VT → Prop) (hw : wp_X8_feed V x1 K) : Met l yX8_feed wsX8_feed rm_X8_feed (va_Pc [.ref (ad 0), .int x1] (WPre 13 (cM g ad) ad g V sz)) (va_Qi K (WPost 13 (cM g ad) ad g) (AW ad 13 sz)) 0 0 (AW ad 13 sz) := by
  refine Met.ofW (cc := cX8_feed) (maxL := 2) (ret := (some .int)) (by decide) rfl ?_
  intro p e s m args below meth c s₁ B hml hv
  obtain ⟨ha, hv⟩ := hv
  obtain rfl := hv.1
  have hI : WI g 13 (cM g ad) ad V s.heap s.heap [] := WI.start hv
  have hK := hv.2.2.1
  have hE := hv.2.2.2.2
  have hx := B.exec
  have hb := B.bytes
  have hr := B.returns
  have hts := atoms_spec (ws := wsX8_feed) B.pre
  have hown : s.vm.findClass RX8 = some m.cls := findClass_of_methodNamed B.named
  have hlocks := B.notSynchronized
  have hw_0 := hts (.constantLong RX8 76 (255)) (by decide +kernel)
  have hw_1 := hts (.fieldLink RX8 78 "HoopLaneModel" "taped" "I") (by decide +kernel)
  have hw_2 := hts (.fieldLink RX8 28 "HoopLaneModel" "tape" "[I") (by decide +kernel)
  have hw_3 := hts (.constant RX8 81 (-1000003)) (by decide +kernel)
  have hw_4 := hts (.constant RX8 64 (-1000001)) (by decide +kernel)
  have hin8 : ∀ w ∈ wsX80, w ∈ wsX8_feed := by decide +kernel
  have hl := lv_entry ([.ref (ad 0), .int x1]) (n := 2) (Nat.le_of_ble_eq_true rfl)
  have hent : entryFrame m args 2 = F0 m 0 ((lg_sl ([.ref (ad 0), .int x1]) ++ List.replicate (2 - (lg_sl ([.ref (ad 0), .int x1])).length) Slot.unset).toArray) [] := by rw [ha, lg_entry_eq]
  rw [hent]
  generalize (lg_sl ([.ref (ad 0), .int x1]) ++ List.replicate (2 - (lg_sl ([.ref (ad 0), .int x1])).length) Slot.unset).toArray = ls at hl ⊢
  have hl : lv_has ls 2 [(0, .ref (ad 0)), (1, .int x1)] := hl
  obtain ⟨H, hH⟩ : ∃ H : Heap, H = s.heap := ⟨_, rfl⟩
  have hgo : ∀ (H : Heap) (locs : List Loc), WI g 13 (cM g ad) ad V s.heap H locs → W p l e (headSpec wsX8_feed rm_X8_feed).room s m args below meth c H locs 0 0 (MQ below (va_Qi K (WPost 13 (cM g ad) ad g) (AW ad 13 s.heap.size)) args s 0 0 (AW ad 13 s.heap.size)) (F0 m 0 ls []) := by
    intro H locs hI
    refine lv_iload_n hx hb dX8_feed_0 rfl (lv_at hl 1 rfl) ?_
    refine lv_i2l (v := (x1).toInt64) hx hb dX8_feed_1 rfl ?_
    refine lv_lconst (v := (0 : Int64)) hx hb dX8_feed_2 (by decide) ?_
    refine lv_ldc2 (v := (255 : Int64)) hx hb hown hw_0 dX8_feed_3 ?_
    refine x_afti (va_runS (As := [.long ((x1).toInt64), .long (0 : Int64), .long (255 : Int64)]) (rest := []) ⟨hx, hb, hml, hown, hts⟩ (c_X8_in l g ad H.size V ((x1).toInt64) (0 : Int64) (255 : Int64) _ hw) (cwS 3 hts gX8_feed_X8_in rfl rfl rfl (by decide +kernel) ⟨Nat.le_of_ble_eq_true rfl, Nat.le_of_ble_eq_true rfl⟩) (x_preS hK hE hI) rfl rfl hl.1 rfl (lv_room (Nat.le_of_ble_eq_true rfl)) dX8_feed_6 ⟨Nat.zero_le _, Nat.zero_le _⟩) hI (fun r2 V1 H locs hw hI => ?_)
    refine lv_if_ne (tgt := 15) hx hb dX8_feed_9 (by decide) (fun c3 => ?_) (fun c3 => ?_)
    · replace hw := hw.1 c3
      refine lv_aload_n hx hb dX8_feed_15 rfl (lv_at hl 0 rfl) ?_
      refine mg_8 hx hb hts hin8 hown hK hI hw_1 dX8_feed_16 ?_
      refine lv_bipush (v := (100 : Int32)) hx hb dX8_feed_19 (by decide) ?_
      refine lv_icmp_ne (tgt := 27) hx hb dX8_feed_21 (by decide) (fun c4 => ?_) (fun c4 => ?_)
      · replace hw := hw.1 c4
        refine lv_aload_n hx hb dX8_feed_27 rfl (lv_at hl 0 rfl) ?_
        refine mg_7 hx hb hts hin8 hown hK hI hw_2 dX8_feed_28 ?_
        refine lv_aload_n hx hb dX8_feed_31 rfl (lv_at hl 0 rfl) ?_
        refine mg_8 hx hb hts hin8 hown hK hI hw_1 dX8_feed_32 ?_
        refine lv_iload_n hx hb dX8_feed_35 rfl (lv_at hl 1 rfl) ?_
        obtain ⟨h5, hw⟩ := hw
        refine x_iastV (k := 7) hx hb hK hI (cM_loc g ad) (by decide) (fun _ => rfl) h5 dX8_feed_36 (fun V6 H locs eV6 hI => ?_)
        replace hw := hw V6 eV6
        refine lv_aload_n hx hb dX8_feed_37 rfl (lv_at hl 0 rfl) ?_
        refine lv_dup hx hb dX8_feed_38 rfl ?_
        refine mg_8 hx hb hts hin8 hown hK hI hw_1 dX8_feed_39 ?_
        refine lv_iconst (v := (1 : Int32)) hx hb dX8_feed_42 (by decide) ?_
        refine lv_iadd hx hb dX8_feed_43 ?_
        refine mp_8 hx hb hts hin8 hown hK hI hw_1 dX8_feed_44 (fun V7 H locs eV7 hI => ?_)
        replace hw := hw V7 eV7
        refine lv_aload_n hx hb dX8_feed_47 rfl (lv_at hl 0 rfl) ?_
        refine mg_8 hx hb hts hin8 hown hK hI hw_1 dX8_feed_48 ?_
        exact W.iret (v := (V7 0 8)) hx hb hr (x_reti hI hw) hI.2.2.2.2 dX8_feed_51
      · replace hw := hw.2 c4
        refine lv_ldc (v := (-1000003 : Int32)) hx hb hown hw_3 dX8_feed_24 ?_
        exact W.iret (v := (-1000003 : Int32)) hx hb hr (x_reti hI hw) hI.2.2.2.2 dX8_feed_26
    · replace hw := hw.2 c3
      refine lv_ldc (v := (-1000001 : Int32)) hx hb hown hw_4 dX8_feed_12 ?_
      exact W.iret (v := (-1000001 : Int32)) hx hb hr (x_reti hI hw) hI.2.2.2.2 dX8_feed_14
  exact hgo s.heap [] hI
def rm_X8_here : Room := { frames := 0, cells := 0, slots := 0, locals := 0 }
set_option maxHeartbeats 4000000 in
set_option maxRecDepth 100000 in
theorem c_X8_here (l : Launch) (g : GP) (ad : Nat → Nat) (sz : Nat) (V : VT)   (K : Int32 → VT → Prop) (hw : wp_X8_here V  K) : Met l yX8_here wsX8_here rm_X8_here (va_Pc [.ref (ad 0)] (WPre 13 (cM g ad) ad g V sz)) (va_Qi K (WPost 13 (cM g ad) ad g) (AW ad 13 sz)) 0 0 (AW ad 13 sz) := by
  refine Met.ofW (cc := cX8_here) (maxL := 1) (ret := (some .int)) (by decide) rfl ?_
  intro p e s m args below meth c s₁ B hml hv
  obtain ⟨ha, hv⟩ := hv
  obtain rfl := hv.1
  have hI : WI g 13 (cM g ad) ad V s.heap s.heap [] := WI.start hv
  have hK := hv.2.2.1
  have hE := hv.2.2.2.2
  have hx := B.exec
  have hb := B.bytes
  have hr := B.returns
  have hts := atoms_spec (ws := wsX8_here) B.pre
  have hown : s.vm.findClass RX8 = some m.cls := findClass_of_methodNamed B.named
  have hlocks := B.notSynchronized
  have hw_0 := hts (.fieldLink RX8 82 "HoopLaneModel" "at" "I") (by decide +kernel)
  have hw_1 := hts (.fieldLink RX8 78 "HoopLaneModel" "taped" "I") (by decide +kernel)
  have hw_2 := hts (.fieldLink RX8 28 "HoopLaneModel" "tape" "[I") (by decide +kernel)
  have hin8 : ∀ w ∈ wsX80, w ∈ wsX8_here := by decide +kernel
  have hl := lv_entry ([.ref (ad 0)]) (n := 1) (Nat.le_of_ble_eq_true rfl)
  have hent : entryFrame m args 1 = F0 m 0 ((lg_sl ([.ref (ad 0)]) ++ List.replicate (1 - (lg_sl ([.ref (ad 0)])).length) Slot.unset).toArray) [] := by rw [ha, lg_entry_eq]
  rw [hent]
  generalize (lg_sl ([.ref (ad 0)]) ++ List.replicate (1 - (lg_sl ([.ref (ad 0)])).length) Slot.unset).toArray = ls at hl ⊢
  have hl : lv_has ls 1 [(0, .ref (ad 0))] := hl
  obtain ⟨H, hH⟩ : ∃ H : Heap, H = s.heap := ⟨_, rfl⟩
  have hgo : ∀ (H : Heap) (locs : List Loc), WI g 13 (cM g ad) ad V s.heap H locs → W p l e (headSpec wsX8_here rm_X8_here).room s m args below meth c H locs 0 0 (MQ below (va_Qi K (WPost 13 (cM g ad) ad g) (AW ad 13 s.heap.size)) args s 0 0 (AW ad 13 s.heap.size)) (F0 m 0 ls []) := by
    intro H locs hI
    refine lv_aload_n hx hb dX8_here_0 rfl (lv_at hl 0 rfl) ?_
    refine mg_9 hx hb hts hin8 hown hK hI hw_0 dX8_here_1 ?_
    refine lv_aload_n hx hb dX8_here_4 rfl (lv_at hl 0 rfl) ?_
    refine mg_8 hx hb hts hin8 hown hK hI hw_1 dX8_here_5 ?_
    refine lv_icmp_ge (tgt := 23) hx hb dX8_here_8 (by decide) (fun c1 => ?_) (fun c1 => ?_)
    · replace hw := hw.1 c1
      refine lv_iconst (v := (0 : Int32)) hx hb dX8_here_23 (by decide) ?_
      exact W.iret (v := (0 : Int32)) hx hb hr (x_reti hI hw) hI.2.2.2.2 dX8_here_24
    · replace hw := hw.2 c1
      refine lv_aload_n hx hb dX8_here_11 rfl (lv_at hl 0 rfl) ?_
      refine mg_7 hx hb hts hin8 hown hK hI hw_2 dX8_here_12 ?_
      refine lv_aload_n hx hb dX8_here_15 rfl (lv_at hl 0 rfl) ?_
      refine mg_9 hx hb hts hin8 hown hK hI hw_0 dX8_here_16 ?_
      obtain ⟨h2, hw⟩ := hw
      refine x_iald (k := 7) hx hb hK hI (by decide) rfl h2 dX8_here_19 ?_
      refine lv_goto (tgt := 24) hx hb dX8_here_20 (by decide) ?_
      exact W.iret (v := (V 7 ((V 0 9)).toNatClampNeg)) hx hb hr (x_reti hI hw) hI.2.2.2.2 dX8_here_24
  exact hgo s.heap [] hI
def rm_X8_wrong : Room := { frames := 0, cells := 0, slots := 0, locals := 0 }
set_option maxHeartbeats 4000000 in
set_option maxRecDepth 100000 in
theorem c_X8_wrong (l : Launch) (g : GP) (ad : Nat → Nat) (sz : Nat) (V : VT) (x1 : Int32) (x2 : Int32)  (K : VT → Prop) (hw : wp_X8_wrong V x1 x2 K) : Met l yX8_wrong wsX8_wrong rm_X8_wrong (va_Pc [.ref (ad 0), .int x1, .int x2] (WPre 13 (cM g ad) ad g V sz)) (va_Qv K (WPost 13 (cM g ad) ad g) (AW ad 13 sz)) 0 0 (AW ad 13 sz) := by
  refine Met.ofW (cc := cX8_wrong) (maxL := 3) (ret := none) (by decide) rfl ?_
  intro p e s m args below meth c s₁ B hml hv
  obtain ⟨ha, hv⟩ := hv
  obtain rfl := hv.1
  have hI : WI g 13 (cM g ad) ad V s.heap s.heap [] := WI.start hv
  have hK := hv.2.2.1
  have hE := hv.2.2.2.2
  have hx := B.exec
  have hb := B.bytes
  have hr := B.returns
  have hts := atoms_spec (ws := wsX8_wrong) B.pre
  have hown : s.vm.findClass RX8 = some m.cls := findClass_of_methodNamed B.named
  have hlocks := B.notSynchronized
  have hw_0 := hts (.fieldLink RX8 85 "HoopLaneModel" "fault" "I") (by decide +kernel)
  have hw_1 := hts (.fieldLink RX8 88 "HoopLaneModel" "faultAt" "I") (by decide +kernel)
  have hin8 : ∀ w ∈ wsX80, w ∈ wsX8_wrong := by decide +kernel
  have hl := lv_entry ([.ref (ad 0), .int x1, .int x2]) (n := 3) (Nat.le_of_ble_eq_true rfl)
  have hent : entryFrame m args 3 = F0 m 0 ((lg_sl ([.ref (ad 0), .int x1, .int x2]) ++ List.replicate (3 - (lg_sl ([.ref (ad 0), .int x1, .int x2])).length) Slot.unset).toArray) [] := by rw [ha, lg_entry_eq]
  rw [hent]
  generalize (lg_sl ([.ref (ad 0), .int x1, .int x2]) ++ List.replicate (3 - (lg_sl ([.ref (ad 0), .int x1, .int x2])).length) Slot.unset).toArray = ls at hl ⊢
  have hl : lv_has ls 3 [(0, .ref (ad 0)), (1, .int x1), (2, .int x2)] := hl
  obtain ⟨H, hH⟩ : ∃ H : Heap, H = s.heap := ⟨_, rfl⟩
  have hgo : ∀ (H : Heap) (locs : List Loc), WI g 13 (cM g ad) ad V s.heap H locs → W p l e (headSpec wsX8_wrong rm_X8_wrong).room s m args below meth c H locs 0 0 (MQ below (va_Qv K (WPost 13 (cM g ad) ad g) (AW ad 13 s.heap.size)) args s 0 0 (AW ad 13 s.heap.size)) (F0 m 0 ls []) := by
    intro H locs hI
    refine lv_aload_n hx hb dX8_wrong_0 rfl (lv_at hl 0 rfl) ?_
    refine mg_10 hx hb hts hin8 hown hK hI hw_0 dX8_wrong_1 ?_
    refine lv_if_ne (tgt := 17) hx hb dX8_wrong_4 (by decide) (fun c1 => ?_) (fun c1 => ?_)
    · replace hw := hw.1 c1
      exact W.vret hx hb hr (x_retv hI hw) hI.2.2.2.2 dX8_wrong_17
    · replace hw := hw.2 c1
      refine lv_aload_n hx hb dX8_wrong_7 rfl (lv_at hl 0 rfl) ?_
      refine lv_iload_n hx hb dX8_wrong_8 rfl (lv_at hl 1 rfl) ?_
      refine mp_10 hx hb hts hin8 hown hK hI hw_0 dX8_wrong_9 (fun V2 H locs eV2 hI => ?_)
      replace hw := hw V2 eV2
      refine lv_aload_n hx hb dX8_wrong_12 rfl (lv_at hl 0 rfl) ?_
      refine lv_iload_n hx hb dX8_wrong_13 rfl (lv_at hl 2 rfl) ?_
      refine mp_11 hx hb hts hin8 hown hK hI hw_1 dX8_wrong_14 (fun V3 H locs eV3 hI => ?_)
      replace hw := hw V3 eV3
      exact W.vret hx hb hr (x_retv hI hw) hI.2.2.2.2 dX8_wrong_17
  exact hgo s.heap [] hI
def rm_X8_must : Room := { frames := 1, cells := 0, slots := 0, locals := 22 }
set_option maxHeartbeats 4000000 in
set_option maxRecDepth 100000 in
theorem c_X8_must (l : Launch) (g : GP) (ad : Nat → Nat) (sz : Nat) (V : VT) (x1 : Int32)  (K : VT → Prop) (hw : wp_X8_must V x1 K) : Met l yX8_must wsX8_must rm_X8_must (va_Pc [.ref (ad 0), .int x1] (WPre 13 (cM g ad) ad g V sz)) (va_Qv K (WPost 13 (cM g ad) ad g) (AW ad 13 sz)) 0 0 (AW ad 13 sz) := by
  refine Met.ofW (cc := cX8_must) (maxL := 2) (ret := none) (by decide) rfl ?_
  intro p e s m args below meth c s₁ B hml hv
  obtain ⟨ha, hv⟩ := hv
  obtain rfl := hv.1
  have hI : WI g 13 (cM g ad) ad V s.heap s.heap [] := WI.start hv
  have hK := hv.2.2.1
  have hE := hv.2.2.2.2
  have hx := B.exec
  have hb := B.bytes
  have hr := B.returns
  have hts := atoms_spec (ws := wsX8_must) B.pre
  have hown : s.vm.findClass RX8 = some m.cls := findClass_of_methodNamed B.named
  have hlocks := B.notSynchronized
  have hw_0 := hts (.fieldLink RX8 85 "HoopLaneModel" "fault" "I") (by decide +kernel)
  have hw_1 := hts (.fieldLink RX8 82 "HoopLaneModel" "at" "I") (by decide +kernel)
  have hw_2 := hts (.fieldLink RX8 78 "HoopLaneModel" "taped" "I") (by decide +kernel)
  have hin8 : ∀ w ∈ wsX80, w ∈ wsX8_must := by decide +kernel
  have hl := lv_entry ([.ref (ad 0), .int x1]) (n := 2) (Nat.le_of_ble_eq_true rfl)
  have hent : entryFrame m args 2 = F0 m 0 ((lg_sl ([.ref (ad 0), .int x1]) ++ List.replicate (2 - (lg_sl ([.ref (ad 0), .int x1])).length) Slot.unset).toArray) [] := by rw [ha, lg_entry_eq]
  rw [hent]
  generalize (lg_sl ([.ref (ad 0), .int x1]) ++ List.replicate (2 - (lg_sl ([.ref (ad 0), .int x1])).length) Slot.unset).toArray = ls at hl ⊢
  have hl : lv_has ls 2 [(0, .ref (ad 0)), (1, .int x1)] := hl
  obtain ⟨H, hH⟩ : ∃ H : Heap, H = s.heap := ⟨_, rfl⟩
  have hb52 : ∀ (V : VT) (H : Heap) (locs : List Loc) (ls : Array Slot) (s1 : Int32) (s2 : Int32), WI g 13 (cM g ad) ad V s.heap H locs → lv_has ls 2 [] → wp_X8_must_b52 K  V s1 s2 → W p l e (headSpec wsX8_must rm_X8_must).room s m args below meth c H locs 0 0 (MQ below (va_Qv K (WPost 13 (cM g ad) ad g) (AW ad 13 s.heap.size)) args s 0 0 (AW ad 13 s.heap.size)) (F0 m 52 ls [.int s2, .int s1, .ref (ad 0)]) := by
    intro V H locs ls s1 s2  hI hl hw
    refine lv_iadd hx hb dX8_must_52 ?_
    refine mp_9 hx hb hts hin8 hown hK hI hw_1 dX8_must_53 (fun V8 H locs eV8 hI => ?_)
    replace hw := hw V8 eV8
    exact W.vret hx hb hr (x_retv hI hw) hI.2.2.2.2 dX8_must_56
  have hb35 : ∀ (V : VT) (H : Heap) (locs : List Loc) (ls : Array Slot) , WI g 13 (cM g ad) ad V s.heap H locs → lv_has ls 2 [(0, .ref (ad 0))] → wp_X8_must_b35 K  V  → W p l e (headSpec wsX8_must rm_X8_must).room s m args below meth c H locs 0 0 (MQ below (va_Qv K (WPost 13 (cM g ad) ad g) (AW ad 13 s.heap.size)) args s 0 0 (AW ad 13 s.heap.size)) (F0 m 35 ls []) := by
    intro V H locs ls   hI hl hw
    refine lv_aload_n hx hb dX8_must_35 rfl (lv_at hl 0 rfl) ?_
    refine lv_dup hx hb dX8_must_36 rfl ?_
    refine mg_9 hx hb hts hin8 hown hK hI hw_1 dX8_must_37 ?_
    refine lv_aload_n hx hb dX8_must_40 rfl (lv_at hl 0 rfl) ?_
    refine mg_10 hx hb hts hin8 hown hK hI hw_0 dX8_must_41 ?_
    refine lv_if_ne (tgt := 51) hx hb dX8_must_44 (by decide) (fun c6 => ?_) (fun c6 => ?_)
    · replace hw := hw.1 c6
      refine lv_iconst (v := (0 : Int32)) hx hb dX8_must_51 (by decide) ?_
      exact hb52 V H locs ls (V 0 9) (0 : Int32) hI (lv_sub hl [] rfl) hw
    · replace hw := hw.2 c6
      refine lv_iconst (v := (1 : Int32)) hx hb dX8_must_47 (by decide) ?_
      refine lv_goto (tgt := 52) hx hb dX8_must_48 (by decide) ?_
      exact hb52 V H locs ls (V 0 9) (1 : Int32) hI (lv_sub hl [] rfl) hw
  have hb26 : ∀ (V : VT) (H : Heap) (locs : List Loc) (ls : Array Slot) , WI g 13 (cM g ad) ad V s.heap H locs → lv_has ls 2 [(0, .ref (ad 0))] → wp_X8_must_b26 K  V  → W p l e (headSpec wsX8_must rm_X8_must).room s m args below meth c H locs 0 0 (MQ below (va_Qv K (WPost 13 (cM g ad) ad g) (AW ad 13 s.heap.size)) args s 0 0 (AW ad 13 s.heap.size)) (F0 m 26 ls []) := by
    intro V H locs ls   hI hl hw
    refine lv_aload_n hx hb dX8_must_26 rfl (lv_at hl 0 rfl) ?_
    refine lv_iconst (v := (1 : Int32)) hx hb dX8_must_27 (by decide) ?_
    refine lv_aload_n hx hb dX8_must_28 rfl (lv_at hl 0 rfl) ?_
    refine mg_9 hx hb hts hin8 hown hK hI hw_1 dX8_must_29 ?_
    refine x_aftv (va_runV (As := [.int (1 : Int32), .int (V 0 9)]) (rest := []) ⟨hx, hb, hml, hown, hts⟩ (c_X8_wrong l g ad H.size V (1 : Int32) (V 0 9) _ hw) (cwV 2 hts gX8_must_X8_wrong rfl rfl rfl (by decide +kernel) ⟨Nat.le_of_ble_eq_true rfl, Nat.le_of_ble_eq_true rfl⟩) (x_preV (k := 0) hK hE hI (by decide) rfl rfl) rfl rfl hl.1 rfl (lv_room (Nat.le_of_ble_eq_true rfl)) dX8_must_32 ⟨Nat.zero_le _, Nat.zero_le _⟩) hI (fun V7 H locs hw hI => ?_)
    exact hb35 V7 H locs ls  hI (lv_sub hl [0] rfl) hw
  have hgo : ∀ (H : Heap) (locs : List Loc), WI g 13 (cM g ad) ad V s.heap H locs → W p l e (headSpec wsX8_must rm_X8_must).room s m args below meth c H locs 0 0 (MQ below (va_Qv K (WPost 13 (cM g ad) ad g) (AW ad 13 s.heap.size)) args s 0 0 (AW ad 13 s.heap.size)) (F0 m 0 ls []) := by
    intro H locs hI
    refine lv_aload_n hx hb dX8_must_0 rfl (lv_at hl 0 rfl) ?_
    refine mg_10 hx hb hts hin8 hown hK hI hw_0 dX8_must_1 ?_
    refine lv_if_ne (tgt := 35) hx hb dX8_must_4 (by decide) (fun c1 => ?_) (fun c1 => ?_)
    · replace hw := hw.1 c1
      exact hb35 V H locs ls  hI (lv_sub hl [0] rfl) hw
    · replace hw := hw.2 c1
      refine lv_aload_n hx hb dX8_must_7 rfl (lv_at hl 0 rfl) ?_
      refine mg_9 hx hb hts hin8 hown hK hI hw_1 dX8_must_8 ?_
      refine lv_aload_n hx hb dX8_must_11 rfl (lv_at hl 0 rfl) ?_
      refine mg_8 hx hb hts hin8 hown hK hI hw_2 dX8_must_12 ?_
      refine lv_icmp_eq (tgt := 26) hx hb dX8_must_15 (by decide) (fun c2 => ?_) (fun c2 => ?_)
      · replace hw := hw.1 c2
        exact hb26 V H locs ls  hI (lv_sub hl [0] rfl) hw
      · replace hw := hw.2 c2
        refine lv_aload_n hx hb dX8_must_18 rfl (lv_at hl 0 rfl) ?_
        refine x_afti (va_runV (As := []) (rest := []) ⟨hx, hb, hml, hown, hts⟩ (c_X8_here l g ad H.size V  _ hw) (cwV 0 hts gX8_must_X8_here rfl rfl rfl (by decide +kernel) ⟨Nat.le_of_ble_eq_true rfl, Nat.le_of_ble_eq_true rfl⟩) (x_preV (k := 0) hK hE hI (by decide) rfl rfl) rfl rfl hl.1 rfl (lv_room (Nat.le_of_ble_eq_true rfl)) dX8_must_19 ⟨Nat.zero_le _, Nat.zero_le _⟩) hI (fun r4 V3 H locs hw hI => ?_)
        refine lv_iload_n hx hb dX8_must_22 rfl (lv_at hl 1 rfl) ?_
        refine lv_icmp_eq (tgt := 35) hx hb dX8_must_23 (by decide) (fun c5 => ?_) (fun c5 => ?_)
        · replace hw := hw.1 c5
          exact hb35 V3 H locs ls  hI (lv_sub hl [0] rfl) hw
        · replace hw := hw.2 c5
          exact hb26 V3 H locs ls  hI (lv_sub hl [0] rfl) hw
  exact hgo s.heap [] hI
def rm_X8_number : Room := { frames := 1, cells := 0, slots := 0, locals := 25 }
set_option maxHeartbeats 4000000 in
set_option maxRecDepth 100000 in
theorem c_X8_number (l : Launch) (g : GP) (ad : Nat → Nat) (sz : Nat) (V : VT) (x1 : Int32) (x2 : Int32)  (K : Int32 → VT → Prop) (hw : wp_X8_number V x1 x2 K) : Met l yX8_number wsX8_number rm_X8_number (va_Pc [.ref (ad 0), .int x1, .int x2] (WPre 13 (cM g ad) ad g V sz)) (va_Qi K (WPost 13 (cM g ad) ad g) (AW ad 13 sz)) 0 0 (AW ad 13 sz) := by
  refine Met.ofW (cc := cX8_number) (maxL := 5) (ret := (some .int)) (by decide) rfl ?_
  intro p e s m args below meth c s₁ B hml hv
  obtain ⟨ha, hv⟩ := hv
  obtain rfl := hv.1
  have hI : WI g 13 (cM g ad) ad V s.heap s.heap [] := WI.start hv
  have hK := hv.2.2.1
  have hE := hv.2.2.2.2
  have hx := B.exec
  have hb := B.bytes
  have hr := B.returns
  have hts := atoms_spec (ws := wsX8_number) B.pre
  have hown : s.vm.findClass RX8 = some m.cls := findClass_of_methodNamed B.named
  have hlocks := B.notSynchronized
  have hw_0 := hts (.fieldLink RX8 85 "HoopLaneModel" "fault" "I") (by decide +kernel)
  have hw_1 := hts (.fieldLink RX8 82 "HoopLaneModel" "at" "I") (by decide +kernel)
  have hw_2 := hts (.fieldLink RX8 78 "HoopLaneModel" "taped" "I") (by decide +kernel)
  have hw_3 := hts (.constantLong RX8 99 (48)) (by decide +kernel)
  have hw_4 := hts (.constantLong RX8 101 (57)) (by decide +kernel)
  have hin8 : ∀ w ∈ wsX80, w ∈ wsX8_number := by decide +kernel
  have hl := lv_entry ([.ref (ad 0), .int x1, .int x2]) (n := 5) (Nat.le_of_ble_eq_true rfl)
  have hent : entryFrame m args 5 = F0 m 0 ((lg_sl ([.ref (ad 0), .int x1, .int x2]) ++ List.replicate (5 - (lg_sl ([.ref (ad 0), .int x1, .int x2])).length) Slot.unset).toArray) [] := by rw [ha, lg_entry_eq]
  rw [hent]
  generalize (lg_sl ([.ref (ad 0), .int x1, .int x2]) ++ List.replicate (5 - (lg_sl ([.ref (ad 0), .int x1, .int x2])).length) Slot.unset).toArray = ls at hl ⊢
  have hl : lv_has ls 5 [(0, .ref (ad 0)), (1, .int x1), (2, .int x2)] := hl
  obtain ⟨H, hH⟩ : ∃ H : Heap, H = s.heap := ⟨_, rfl⟩
  have hb106 : ∀ (V : VT) (H : Heap) (locs : List Loc) (ls : Array Slot) (x3 : Int32) (x4 : Int32), WI g 13 (cM g ad) ad V s.heap H locs → lv_has ls 5 [(0, .ref (ad 0)), (3, .int x3), (4, .int x4)] → wp_X8_number_b106 K  V x3 x4 → W p l e (headSpec wsX8_number rm_X8_number).room s m args below meth c H locs 0 0 (MQ below (va_Qi K (WPost 13 (cM g ad) ad g) (AW ad 13 s.heap.size)) args s 0 0 (AW ad 13 s.heap.size)) (F0 m 106 ls []) := by
    intro V H locs ls x3 x4  hI hl hw
    refine lv_aload_n hx hb dX8_number_106 rfl (lv_at hl 0 rfl) ?_
    refine lv_iconst (v := (1 : Int32)) hx hb dX8_number_107 (by decide) ?_
    refine lv_iload_n hx hb dX8_number_108 rfl (lv_at hl 1 rfl) ?_
    refine x_aftv (va_runV (As := [.int (1 : Int32), .int x3]) (rest := []) ⟨hx, hb, hml, hown, hts⟩ (c_X8_wrong l g ad H.size V (1 : Int32) x3 _ hw) (cwV 2 hts gX8_number_X8_wrong rfl rfl rfl (by decide +kernel) ⟨Nat.le_of_ble_eq_true rfl, Nat.le_of_ble_eq_true rfl⟩) (x_preV (k := 0) hK hE hI (by decide) rfl rfl) rfl rfl hl.1 rfl (lv_room (Nat.le_of_ble_eq_true rfl)) dX8_number_109 ⟨Nat.zero_le _, Nat.zero_le _⟩) hI (fun V18 H locs hw hI => ?_)
    refine lv_goto (tgt := 134) hx hb dX8_number_112 (by decide) ?_
    refine lv_iload hx hb dX8_number_134 (lv_at hl 2 rfl) ?_
    exact W.iret (v := x4) hx hb hr (x_reti hI hw) hI.2.2.2.2 dX8_number_136
  have hb88 : ∀ (V : VT) (H : Heap) (locs : List Loc) (ls : Array Slot) (x1 : Int32) (x2 : Int32) (x3 : Int32) (x4 : Int32), WI g 13 (cM g ad) ad V s.heap H locs → lv_has ls 5 [(0, .ref (ad 0)), (1, .int x1), (2, .int x2), (3, .int x3), (4, .int x4)] → wp_X8_number_b88 K  V x1 x2 x3 x4 → W p l e (headSpec wsX8_number rm_X8_number).room s m args below meth c H locs 0 0 (MQ below (va_Qi K (WPost 13 (cM g ad) ad g) (AW ad 13 s.heap.size)) args s 0 0 (AW ad 13 s.heap.size)) (F0 m 88 ls []) := by
    intro V H locs ls x1 x2 x3 x4  hI hl hw
    refine lv_aload_n hx hb dX8_number_88 rfl (lv_at hl 0 rfl) ?_
    refine mg_9 hx hb hts hin8 hown hK hI hw_1 dX8_number_89 ?_
    refine lv_iload_n hx hb dX8_number_92 rfl (lv_at hl 3 rfl) ?_
    refine lv_icmp_eq (tgt := 106) hx hb dX8_number_93 (by decide) (fun c11 => ?_) (fun c11 => ?_)
    · replace hw := hw.1 c11
      exact hb106 V H locs ls x3 x4 hI (lv_sub hl [0, 3, 4] rfl) hw
    · replace hw := hw.2 c11
      refine lv_aload_n hx hb dX8_number_96 rfl (lv_at hl 0 rfl) ?_
      refine mg_9 hx hb hts hin8 hown hK hI hw_1 dX8_number_97 ?_
      refine lv_iload_n hx hb dX8_number_100 rfl (lv_at hl 3 rfl) ?_
      refine lv_isub hx hb dX8_number_101 ?_
      refine lv_iconst (v := (2 : Int32)) hx hb dX8_number_102 (by decide) ?_
      refine lv_icmp_le (tgt := 115) hx hb dX8_number_103 (by decide) (fun c12 => ?_) (fun c12 => ?_)
      · replace hw := hw.1 c12
        refine lv_iload hx hb dX8_number_115 (lv_at hl 4 rfl) ?_
        refine lv_i2l (v := (x4).toInt64) hx hb dX8_number_117 rfl ?_
        refine lv_iload_n hx hb dX8_number_118 rfl (lv_at hl 1 rfl) ?_
        refine lv_i2l (v := (x1).toInt64) hx hb dX8_number_119 rfl ?_
        refine lv_iload_n hx hb dX8_number_120 rfl (lv_at hl 2 rfl) ?_
        refine lv_i2l (v := (x2).toInt64) hx hb dX8_number_121 rfl ?_
        refine x_afti (va_runS (As := [.long ((x4).toInt64), .long ((x1).toInt64), .long ((x2).toInt64)]) (rest := []) ⟨hx, hb, hml, hown, hts⟩ (c_X8_in l g ad H.size V ((x4).toInt64) ((x1).toInt64) ((x2).toInt64) _ hw) (cwS 3 hts gX8_number_X8_in rfl rfl rfl (by decide +kernel) ⟨Nat.le_of_ble_eq_true rfl, Nat.le_of_ble_eq_true rfl⟩) (x_preS hK hE hI) rfl rfl hl.1 rfl (lv_room (Nat.le_of_ble_eq_true rfl)) dX8_number_122 ⟨Nat.zero_le _, Nat.zero_le _⟩) hI (fun r14 V13 H locs hw hI => ?_)
        refine lv_if_ne (tgt := 134) hx hb dX8_number_125 (by decide) (fun c15 => ?_) (fun c15 => ?_)
        · replace hw := hw.1 c15
          refine lv_iload hx hb dX8_number_134 (lv_at hl 4 rfl) ?_
          exact W.iret (v := x4) hx hb hr (x_reti hI hw) hI.2.2.2.2 dX8_number_136
        · replace hw := hw.2 c15
          refine lv_aload_n hx hb dX8_number_128 rfl (lv_at hl 0 rfl) ?_
          refine lv_iconst (v := (2 : Int32)) hx hb dX8_number_129 (by decide) ?_
          refine lv_iload_n hx hb dX8_number_130 rfl (lv_at hl 3 rfl) ?_
          refine x_aftv (va_runV (As := [.int (2 : Int32), .int x3]) (rest := []) ⟨hx, hb, hml, hown, hts⟩ (c_X8_wrong l g ad H.size V13 (2 : Int32) x3 _ hw) (cwV 2 hts gX8_number_X8_wrong rfl rfl rfl (by decide +kernel) ⟨Nat.le_of_ble_eq_true rfl, Nat.le_of_ble_eq_true rfl⟩) (x_preV (k := 0) hK hE hI (by decide) rfl rfl) rfl rfl hl.1 rfl (lv_room (Nat.le_of_ble_eq_true rfl)) dX8_number_131 ⟨Nat.zero_le _, Nat.zero_le _⟩) hI (fun V16 H locs hw hI => ?_)
          refine lv_iload hx hb dX8_number_134 (lv_at hl 4 rfl) ?_
          exact W.iret (v := x4) hx hb hr (x_reti hI hw) hI.2.2.2.2 dX8_number_136
      · replace hw := hw.2 c12
        exact hb106 V H locs ls x3 x4 hI (lv_sub hl [0, 3, 4] rfl) hw
  have hL17 : ∀ (n17 : Nat) (V : VT) (H : Heap) (locs : List Loc) (ls : Array Slot) (x1 : Int32) (x2 : Int32) (x3 : Int32) (x4 : Int32), WI g 13 (cM g ad) ad V s.heap H locs → lv_has ls 5 [(0, .ref (ad 0)), (1, .int x1), (2, .int x2), (3, .int x3), (4, .int x4)] → wp_X8_number_L17 K  n17 V x1 x2 x3 x4 → W p l e (headSpec wsX8_number rm_X8_number).room s m args below meth c H locs 0 0 (MQ below (va_Qi K (WPost 13 (cM g ad) ad g) (AW ad 13 s.heap.size)) args s 0 0 (AW ad 13 s.heap.size)) (F0 m 17 ls []) := by
    intro n17
    induction n17 with
    | zero => intro V H locs ls x1 x2 x3 x4  hI hl hw; exact False.elim hw
    | succ n17 ihL17 =>
      have hb73 : ∀ (V : VT) (H : Heap) (locs : List Loc) (ls : Array Slot) (x1 : Int32) (x2 : Int32) (x3 : Int32) (s0 : Int32), WI g 13 (cM g ad) ad V s.heap H locs → lv_has ls 5 [(0, .ref (ad 0)), (1, .int x1), (2, .int x2), (3, .int x3)] → wp_X8_number_b73 K (wp_X8_number_L17 K  n17) V x1 x2 x3 s0 → W p l e (headSpec wsX8_number rm_X8_number).room s m args below meth c H locs 0 0 (MQ below (va_Qi K (WPost 13 (cM g ad) ad g) (AW ad 13 s.heap.size)) args s 0 0 (AW ad 13 s.heap.size)) (F0 m 73 ls [.int s0]) := by
        intro V H locs ls x1 x2 x3 s0  hI hl hw
        refine lv_istore (lv' := [(4, .int s0), (0, .ref (ad 0)), (1, .int x1), (2, .int x2), (3, .int x3)]) hx hb dX8_number_73 hl (by decide) rfl (fun ls hl => ?_)
        refine lv_aload_n hx hb dX8_number_75 rfl (lv_at hl 1 rfl) ?_
        refine lv_dup hx hb dX8_number_76 rfl ?_
        refine mg_9 hx hb hts hin8 hown hK hI hw_1 dX8_number_77 ?_
        refine lv_iconst (v := (1 : Int32)) hx hb dX8_number_80 (by decide) ?_
        refine lv_iadd hx hb dX8_number_81 ?_
        refine mp_9 hx hb hts hin8 hown hK hI hw_1 dX8_number_82 (fun V17 H locs eV17 hI => ?_)
        replace hw := hw V17 eV17
        refine lv_goto (tgt := 17) hx hb dX8_number_85 (by decide) ?_
        exact ihL17 V17 H locs ls x1 x2 x3 s0 hI (lv_sub hl [1, 2, 3, 4, 0] rfl) hw
      intro V H locs ls x1 x2 x3 x4  hI hl hw
      refine lv_aload_n hx hb dX8_number_17 rfl (lv_at hl 0 rfl) ?_
      refine mg_9 hx hb hts hin8 hown hK hI hw_1 dX8_number_18 ?_
      refine lv_aload_n hx hb dX8_number_21 rfl (lv_at hl 0 rfl) ?_
      refine mg_8 hx hb hts hin8 hown hK hI hw_2 dX8_number_22 ?_
      refine lv_icmp_ge (tgt := 88) hx hb dX8_number_25 (by decide) (fun c2 => ?_) (fun c2 => ?_)
      · replace hw := hw.1 c2
        exact hb88 V H locs ls x1 x2 x3 x4 hI (lv_sub hl [0, 1, 2, 3, 4] rfl) hw
      · replace hw := hw.2 c2
        refine lv_aload_n hx hb dX8_number_28 rfl (lv_at hl 0 rfl) ?_
        refine x_afti (va_runV (As := []) (rest := []) ⟨hx, hb, hml, hown, hts⟩ (c_X8_here l g ad H.size V  _ hw) (cwV 0 hts gX8_number_X8_here rfl rfl rfl (by decide +kernel) ⟨Nat.le_of_ble_eq_true rfl, Nat.le_of_ble_eq_true rfl⟩) (x_preV (k := 0) hK hE hI (by decide) rfl rfl) rfl rfl hl.1 rfl (lv_room (Nat.le_of_ble_eq_true rfl)) dX8_number_29 ⟨Nat.zero_le _, Nat.zero_le _⟩) hI (fun r4 V3 H locs hw hI => ?_)
        refine lv_i2l (v := (r4).toInt64) hx hb dX8_number_32 rfl ?_
        refine lv_ldc2 (v := (48 : Int64)) hx hb hown hw_3 dX8_number_33 ?_
        refine lv_ldc2 (v := (57 : Int64)) hx hb hown hw_4 dX8_number_36 ?_
        refine x_afti (va_runS (As := [.long ((r4).toInt64), .long (48 : Int64), .long (57 : Int64)]) (rest := []) ⟨hx, hb, hml, hown, hts⟩ (c_X8_in l g ad H.size V3 ((r4).toInt64) (48 : Int64) (57 : Int64) _ hw) (cwS 3 hts gX8_number_X8_in rfl rfl rfl (by decide +kernel) ⟨Nat.le_of_ble_eq_true rfl, Nat.le_of_ble_eq_true rfl⟩) (x_preS hK hE hI) rfl rfl hl.1 rfl (lv_room (Nat.le_of_ble_eq_true rfl)) dX8_number_39 ⟨Nat.zero_le _, Nat.zero_le _⟩) hI (fun r6 V5 H locs hw hI => ?_)
        refine lv_if_eq (tgt := 88) hx hb dX8_number_42 (by decide) (fun c7 => ?_) (fun c7 => ?_)
        · replace hw := hw.1 c7
          exact hb88 V5 H locs ls x1 x2 x3 x4 hI (lv_sub hl [0, 1, 2, 3, 4] rfl) hw
        · replace hw := hw.2 c7
          refine lv_aload_n hx hb dX8_number_45 rfl (lv_at hl 0 rfl) ?_
          refine mg_9 hx hb hts hin8 hown hK hI hw_1 dX8_number_46 ?_
          refine lv_iload_n hx hb dX8_number_49 rfl (lv_at hl 3 rfl) ?_
          refine lv_isub hx hb dX8_number_50 ?_
          refine lv_iconst (v := (2 : Int32)) hx hb dX8_number_51 (by decide) ?_
          refine lv_icmp_le (tgt := 60) hx hb dX8_number_52 (by decide) (fun c8 => ?_) (fun c8 => ?_)
          · replace hw := hw.1 c8
            refine lv_bipush (v := (10 : Int32)) hx hb dX8_number_60 (by decide) ?_
            refine lv_iload hx hb dX8_number_62 (lv_at hl 4 rfl) ?_
            refine lv_imul hx hb dX8_number_64 ?_
            refine lv_aload_n hx hb dX8_number_65 rfl (lv_at hl 0 rfl) ?_
            refine x_afti (va_runV (As := []) (rest := [.int ((10 : Int32) * x4)]) ⟨hx, hb, hml, hown, hts⟩ (c_X8_here l g ad H.size V5  _ hw) (cwV 0 hts gX8_number_X8_here rfl rfl rfl (by decide +kernel) ⟨Nat.le_of_ble_eq_true rfl, Nat.le_of_ble_eq_true rfl⟩) (x_preV (k := 0) hK hE hI (by decide) rfl rfl) rfl rfl hl.1 rfl (lv_room (Nat.le_of_ble_eq_true rfl)) dX8_number_66 ⟨Nat.zero_le _, Nat.zero_le _⟩) hI (fun r10 V9 H locs hw hI => ?_)
            refine lv_iadd hx hb dX8_number_69 ?_
            refine lv_bipush (v := (48 : Int32)) hx hb dX8_number_70 (by decide) ?_
            refine lv_isub hx hb dX8_number_72 ?_
            exact hb73 V9 H locs ls x1 x2 x3 ((((10 : Int32) * x4) + r10) - (48 : Int32)) hI (lv_sub hl [0, 1, 2, 3] rfl) hw
          · replace hw := hw.2 c8
            refine lv_iload hx hb dX8_number_55 (lv_at hl 4 rfl) ?_
            refine lv_goto (tgt := 73) hx hb dX8_number_57 (by decide) ?_
            exact hb73 V5 H locs ls x1 x2 x3 x4 hI (lv_sub hl [0, 1, 2, 3] rfl) hw
  have hgo : ∀ (H : Heap) (locs : List Loc), WI g 13 (cM g ad) ad V s.heap H locs → W p l e (headSpec wsX8_number rm_X8_number).room s m args below meth c H locs 0 0 (MQ below (va_Qi K (WPost 13 (cM g ad) ad g) (AW ad 13 s.heap.size)) args s 0 0 (AW ad 13 s.heap.size)) (F0 m 0 ls []) := by
    intro H locs hI
    refine lv_aload_n hx hb dX8_number_0 rfl (lv_at hl 0 rfl) ?_
    refine mg_10 hx hb hts hin8 hown hK hI hw_0 dX8_number_1 ?_
    refine lv_if_eq (tgt := 9) hx hb dX8_number_4 (by decide) (fun c1 => ?_) (fun c1 => ?_)
    · replace hw := hw.1 c1
      refine lv_aload_n hx hb dX8_number_9 rfl (lv_at hl 0 rfl) ?_
      refine mg_9 hx hb hts hin8 hown hK hI hw_1 dX8_number_10 ?_
      refine lv_istore_n (lv' := [(3, .int (V 0 9)), (0, .ref (ad 0)), (1, .int x1), (2, .int x2)]) hx hb dX8_number_13 rfl hl (by decide) rfl (fun ls hl => ?_)
      refine lv_iconst (v := (0 : Int32)) hx hb dX8_number_14 (by decide) ?_
      refine lv_istore (lv' := [(4, .int (0 : Int32)), (3, .int (V 0 9)), (0, .ref (ad 0)), (1, .int x1), (2, .int x2)]) hx hb dX8_number_15 hl (by decide) rfl (fun ls hl => ?_)
      obtain ⟨n17, hw⟩ := hw
      exact hL17 n17 V H locs ls x1 x2 (V 0 9) (0 : Int32) hI (lv_sub hl [2, 3, 4, 1, 0] rfl) hw
    · replace hw := hw.2 c1
      refine lv_iload_n hx hb dX8_number_7 rfl (lv_at hl 1 rfl) ?_
      exact W.iret (v := x1) hx hb hr (x_reti hI hw) hI.2.2.2.2 dX8_number_8
  exact hgo s.heap [] hI
def rm_X8_groundOf : Room := { frames := 0, cells := 0, slots := 0, locals := 0 }
set_option maxHeartbeats 4000000 in
set_option maxRecDepth 100000 in
theorem c_X8_groundOf (l : Launch) (g : GP) (ad : Nat → Nat) (sz : Nat) (V : VT) (x0 : Int32)  (K : Int32 → VT → Prop) (hw : wp_X8_groundOf V x0 K) : Met l yX8_groundOf wsX8_groundOf rm_X8_groundOf (va_Pc [.int x0] (WPre 13 (cM g ad) ad g V sz)) (va_Qi K (WPost 13 (cM g ad) ad g) (AW ad 13 sz)) 0 0 (AW ad 13 sz) := by
  refine Met.ofW (cc := cX8_groundOf) (maxL := 1) (ret := (some .int)) (by decide) rfl ?_
  intro p e s m args below meth c s₁ B hml hv
  obtain ⟨ha, hv⟩ := hv
  obtain rfl := hv.1
  have hI : WI g 13 (cM g ad) ad V s.heap s.heap [] := WI.start hv
  have hK := hv.2.2.1
  have hE := hv.2.2.2.2
  have hx := B.exec
  have hb := B.bytes
  have hr := B.returns
  have hts := atoms_spec (ws := wsX8_groundOf) B.pre
  have hown : s.vm.findClass RX8 = some m.cls := findClass_of_methodNamed B.named
  have hlocks := B.notSynchronized
  have hl := lv_entry ([.int x0]) (n := 1) (Nat.le_of_ble_eq_true rfl)
  have hent : entryFrame m args 1 = F0 m 0 ((lg_sl ([.int x0]) ++ List.replicate (1 - (lg_sl ([.int x0])).length) Slot.unset).toArray) [] := by rw [ha, lg_entry_eq]
  rw [hent]
  generalize (lg_sl ([.int x0]) ++ List.replicate (1 - (lg_sl ([.int x0])).length) Slot.unset).toArray = ls at hl ⊢
  have hl : lv_has ls 1 [(0, .int x0)] := hl
  obtain ⟨H, hH⟩ : ∃ H : Heap, H = s.heap := ⟨_, rfl⟩
  have hgo : ∀ (H : Heap) (locs : List Loc), WI g 13 (cM g ad) ad V s.heap H locs → W p l e (headSpec wsX8_groundOf rm_X8_groundOf).room s m args below meth c H locs 0 0 (MQ below (va_Qi K (WPost 13 (cM g ad) ad g) (AW ad 13 s.heap.size)) args s 0 0 (AW ad 13 s.heap.size)) (F0 m 0 ls []) := by
    intro H locs hI
    refine lv_iload_n hx hb dX8_groundOf_0 rfl (lv_at hl 0 rfl) ?_
    refine lv_bipush (v := (102 : Int32)) hx hb dX8_groundOf_1 (by decide) ?_
    refine lv_icmp_ne (tgt := 10) hx hb dX8_groundOf_3 (by decide) (fun c1 => ?_) (fun c1 => ?_)
    · replace hw := hw.1 c1
      refine lv_iload_n hx hb dX8_groundOf_10 rfl (lv_at hl 0 rfl) ?_
      refine lv_bipush (v := (100 : Int32)) hx hb dX8_groundOf_11 (by decide) ?_
      refine lv_icmp_ne (tgt := 20) hx hb dX8_groundOf_13 (by decide) (fun c2 => ?_) (fun c2 => ?_)
      · replace hw := hw.1 c2
        refine lv_iload_n hx hb dX8_groundOf_20 rfl (lv_at hl 0 rfl) ?_
        refine lv_bipush (v := (117 : Int32)) hx hb dX8_groundOf_21 (by decide) ?_
        refine lv_icmp_ne (tgt := 30) hx hb dX8_groundOf_23 (by decide) (fun c3 => ?_) (fun c3 => ?_)
        · replace hw := hw.1 c3
          refine lv_iload_n hx hb dX8_groundOf_30 rfl (lv_at hl 0 rfl) ?_
          refine lv_bipush (v := (114 : Int32)) hx hb dX8_groundOf_31 (by decide) ?_
          refine lv_icmp_ne (tgt := 40) hx hb dX8_groundOf_33 (by decide) (fun c4 => ?_) (fun c4 => ?_)
          · replace hw := hw.1 c4
            refine lv_iload_n hx hb dX8_groundOf_40 rfl (lv_at hl 0 rfl) ?_
            refine lv_bipush (v := (115 : Int32)) hx hb dX8_groundOf_41 (by decide) ?_
            refine lv_icmp_ne (tgt := 50) hx hb dX8_groundOf_43 (by decide) (fun c5 => ?_) (fun c5 => ?_)
            · replace hw := hw.1 c5
              refine lv_iload_n hx hb dX8_groundOf_50 rfl (lv_at hl 0 rfl) ?_
              refine lv_bipush (v := (119 : Int32)) hx hb dX8_groundOf_51 (by decide) ?_
              refine lv_icmp_ne (tgt := 60) hx hb dX8_groundOf_53 (by decide) (fun c6 => ?_) (fun c6 => ?_)
              · replace hw := hw.1 c6
                refine lv_iconst (v := (-1 : Int32)) hx hb dX8_groundOf_60 (by decide) ?_
                exact W.iret (v := (-1 : Int32)) hx hb hr (x_reti hI hw) hI.2.2.2.2 dX8_groundOf_61
              · replace hw := hw.2 c6
                refine lv_iconst (v := (5 : Int32)) hx hb dX8_groundOf_56 (by decide) ?_
                refine lv_goto (tgt := 61) hx hb dX8_groundOf_57 (by decide) ?_
                exact W.iret (v := (5 : Int32)) hx hb hr (x_reti hI hw) hI.2.2.2.2 dX8_groundOf_61
            · replace hw := hw.2 c5
              refine lv_iconst (v := (4 : Int32)) hx hb dX8_groundOf_46 (by decide) ?_
              refine lv_goto (tgt := 61) hx hb dX8_groundOf_47 (by decide) ?_
              exact W.iret (v := (4 : Int32)) hx hb hr (x_reti hI hw) hI.2.2.2.2 dX8_groundOf_61
          · replace hw := hw.2 c4
            refine lv_iconst (v := (3 : Int32)) hx hb dX8_groundOf_36 (by decide) ?_
            refine lv_goto (tgt := 61) hx hb dX8_groundOf_37 (by decide) ?_
            exact W.iret (v := (3 : Int32)) hx hb hr (x_reti hI hw) hI.2.2.2.2 dX8_groundOf_61
        · replace hw := hw.2 c3
          refine lv_iconst (v := (2 : Int32)) hx hb dX8_groundOf_26 (by decide) ?_
          refine lv_goto (tgt := 61) hx hb dX8_groundOf_27 (by decide) ?_
          exact W.iret (v := (2 : Int32)) hx hb hr (x_reti hI hw) hI.2.2.2.2 dX8_groundOf_61
      · replace hw := hw.2 c2
        refine lv_iconst (v := (1 : Int32)) hx hb dX8_groundOf_16 (by decide) ?_
        refine lv_goto (tgt := 61) hx hb dX8_groundOf_17 (by decide) ?_
        exact W.iret (v := (1 : Int32)) hx hb hr (x_reti hI hw) hI.2.2.2.2 dX8_groundOf_61
    · replace hw := hw.2 c1
      refine lv_iconst (v := (0 : Int32)) hx hb dX8_groundOf_6 (by decide) ?_
      refine lv_goto (tgt := 61) hx hb dX8_groundOf_7 (by decide) ?_
      exact W.iret (v := (0 : Int32)) hx hb hr (x_reti hI hw) hI.2.2.2.2 dX8_groundOf_61
  exact hgo s.heap [] hI
def rm_X8_kindOf : Room := { frames := 0, cells := 0, slots := 0, locals := 0 }
set_option maxHeartbeats 4000000 in
set_option maxRecDepth 100000 in
theorem c_X8_kindOf (l : Launch) (g : GP) (ad : Nat → Nat) (sz : Nat) (V : VT) (x0 : Int32)  (K : Int32 → VT → Prop) (hw : wp_X8_kindOf V x0 K) : Met l yX8_kindOf wsX8_kindOf rm_X8_kindOf (va_Pc [.int x0] (WPre 13 (cM g ad) ad g V sz)) (va_Qi K (WPost 13 (cM g ad) ad g) (AW ad 13 sz)) 0 0 (AW ad 13 sz) := by
  refine Met.ofW (cc := cX8_kindOf) (maxL := 1) (ret := (some .int)) (by decide) rfl ?_
  intro p e s m args below meth c s₁ B hml hv
  obtain ⟨ha, hv⟩ := hv
  obtain rfl := hv.1
  have hI : WI g 13 (cM g ad) ad V s.heap s.heap [] := WI.start hv
  have hK := hv.2.2.1
  have hE := hv.2.2.2.2
  have hx := B.exec
  have hb := B.bytes
  have hr := B.returns
  have hts := atoms_spec (ws := wsX8_kindOf) B.pre
  have hown : s.vm.findClass RX8 = some m.cls := findClass_of_methodNamed B.named
  have hlocks := B.notSynchronized
  have hl := lv_entry ([.int x0]) (n := 1) (Nat.le_of_ble_eq_true rfl)
  have hent : entryFrame m args 1 = F0 m 0 ((lg_sl ([.int x0]) ++ List.replicate (1 - (lg_sl ([.int x0])).length) Slot.unset).toArray) [] := by rw [ha, lg_entry_eq]
  rw [hent]
  generalize (lg_sl ([.int x0]) ++ List.replicate (1 - (lg_sl ([.int x0])).length) Slot.unset).toArray = ls at hl ⊢
  have hl : lv_has ls 1 [(0, .int x0)] := hl
  obtain ⟨H, hH⟩ : ∃ H : Heap, H = s.heap := ⟨_, rfl⟩
  have hgo : ∀ (H : Heap) (locs : List Loc), WI g 13 (cM g ad) ad V s.heap H locs → W p l e (headSpec wsX8_kindOf rm_X8_kindOf).room s m args below meth c H locs 0 0 (MQ below (va_Qi K (WPost 13 (cM g ad) ad g) (AW ad 13 s.heap.size)) args s 0 0 (AW ad 13 s.heap.size)) (F0 m 0 ls []) := by
    intro H locs hI
    refine lv_iload_n hx hb dX8_kindOf_0 rfl (lv_at hl 0 rfl) ?_
    refine lv_bipush (v := (118 : Int32)) hx hb dX8_kindOf_1 (by decide) ?_
    refine lv_icmp_ne (tgt := 10) hx hb dX8_kindOf_3 (by decide) (fun c1 => ?_) (fun c1 => ?_)
    · replace hw := hw.1 c1
      refine lv_iload_n hx hb dX8_kindOf_10 rfl (lv_at hl 0 rfl) ?_
      refine lv_bipush (v := (105 : Int32)) hx hb dX8_kindOf_11 (by decide) ?_
      refine lv_icmp_ne (tgt := 20) hx hb dX8_kindOf_13 (by decide) (fun c2 => ?_) (fun c2 => ?_)
      · replace hw := hw.1 c2
        refine lv_iload_n hx hb dX8_kindOf_20 rfl (lv_at hl 0 rfl) ?_
        refine lv_bipush (v := (111 : Int32)) hx hb dX8_kindOf_21 (by decide) ?_
        refine lv_icmp_ne (tgt := 30) hx hb dX8_kindOf_23 (by decide) (fun c3 => ?_) (fun c3 => ?_)
        · replace hw := hw.1 c3
          refine lv_iload_n hx hb dX8_kindOf_30 rfl (lv_at hl 0 rfl) ?_
          refine lv_bipush (v := (98 : Int32)) hx hb dX8_kindOf_31 (by decide) ?_
          refine lv_icmp_ne (tgt := 40) hx hb dX8_kindOf_33 (by decide) (fun c4 => ?_) (fun c4 => ?_)
          · replace hw := hw.1 c4
            refine lv_iload_n hx hb dX8_kindOf_40 rfl (lv_at hl 0 rfl) ?_
            refine lv_bipush (v := (116 : Int32)) hx hb dX8_kindOf_41 (by decide) ?_
            refine lv_icmp_ne (tgt := 50) hx hb dX8_kindOf_43 (by decide) (fun c5 => ?_) (fun c5 => ?_)
            · replace hw := hw.1 c5
              refine lv_iconst (v := (-1 : Int32)) hx hb dX8_kindOf_50 (by decide) ?_
              exact W.iret (v := (-1 : Int32)) hx hb hr (x_reti hI hw) hI.2.2.2.2 dX8_kindOf_51
            · replace hw := hw.2 c5
              refine lv_iconst (v := (5 : Int32)) hx hb dX8_kindOf_46 (by decide) ?_
              refine lv_goto (tgt := 51) hx hb dX8_kindOf_47 (by decide) ?_
              exact W.iret (v := (5 : Int32)) hx hb hr (x_reti hI hw) hI.2.2.2.2 dX8_kindOf_51
          · replace hw := hw.2 c4
            refine lv_iconst (v := (4 : Int32)) hx hb dX8_kindOf_36 (by decide) ?_
            refine lv_goto (tgt := 51) hx hb dX8_kindOf_37 (by decide) ?_
            exact W.iret (v := (4 : Int32)) hx hb hr (x_reti hI hw) hI.2.2.2.2 dX8_kindOf_51
        · replace hw := hw.2 c3
          refine lv_iconst (v := (3 : Int32)) hx hb dX8_kindOf_26 (by decide) ?_
          refine lv_goto (tgt := 51) hx hb dX8_kindOf_27 (by decide) ?_
          exact W.iret (v := (3 : Int32)) hx hb hr (x_reti hI hw) hI.2.2.2.2 dX8_kindOf_51
      · replace hw := hw.2 c2
        refine lv_iconst (v := (2 : Int32)) hx hb dX8_kindOf_16 (by decide) ?_
        refine lv_goto (tgt := 51) hx hb dX8_kindOf_17 (by decide) ?_
        exact W.iret (v := (2 : Int32)) hx hb hr (x_reti hI hw) hI.2.2.2.2 dX8_kindOf_51
    · replace hw := hw.2 c1
      refine lv_iconst (v := (1 : Int32)) hx hb dX8_kindOf_6 (by decide) ?_
      refine lv_goto (tgt := 51) hx hb dX8_kindOf_7 (by decide) ?_
      exact W.iret (v := (1 : Int32)) hx hb hr (x_reti hI hw) hI.2.2.2.2 dX8_kindOf_51
  exact hgo s.heap [] hI
def rm_X8_readLaw : Room := { frames := 2, cells := 0, slots := 0, locals := 49 }
set_option maxHeartbeats 4000000 in
set_option maxRecDepth 100000 in
theorem c_X8_readLaw (l : Launch) (g : GP) (ad : Nat → Nat) (sz : Nat) (V : VT)   (K : VT → Prop) (hw : wp_X8_readLaw V  K) : Met l yX8_readLaw wsX8_readLaw rm_X8_readLaw (va_Pc [.ref (ad 0)] (WPre 13 (cM g ad) ad g V sz)) (va_Qv K (WPost 13 (cM g ad) ad g) (AW ad 13 sz)) 0 0 (AW ad 13 sz) := by
  refine Met.ofW (cc := cX8_readLaw) (maxL := 1) (ret := none) (by decide) rfl ?_
  intro p e s m args below meth c s₁ B hml hv
  obtain ⟨ha, hv⟩ := hv
  obtain rfl := hv.1
  have hI : WI g 13 (cM g ad) ad V s.heap s.heap [] := WI.start hv
  have hK := hv.2.2.1
  have hE := hv.2.2.2.2
  have hx := B.exec
  have hb := B.bytes
  have hr := B.returns
  have hts := atoms_spec (ws := wsX8_readLaw) B.pre
  have hown : s.vm.findClass RX8 = some m.cls := findClass_of_methodNamed B.named
  have hlocks := B.notSynchronized
  have hw_0 := hts (.fieldLink RX8 111 "HoopLaneModel" "readPace" "I") (by decide +kernel)
  have hw_1 := hts (.fieldLink RX8 114 "HoopLaneModel" "readLean" "I") (by decide +kernel)
  have hw_2 := hts (.fieldLink RX8 25 "HoopLaneModel" "read" "[I") (by decide +kernel)
  have hin8 : ∀ w ∈ wsX80, w ∈ wsX8_readLaw := by decide +kernel
  have hl := lv_entry ([.ref (ad 0)]) (n := 1) (Nat.le_of_ble_eq_true rfl)
  have hent : entryFrame m args 1 = F0 m 0 ((lg_sl ([.ref (ad 0)]) ++ List.replicate (1 - (lg_sl ([.ref (ad 0)])).length) Slot.unset).toArray) [] := by rw [ha, lg_entry_eq]
  rw [hent]
  generalize (lg_sl ([.ref (ad 0)]) ++ List.replicate (1 - (lg_sl ([.ref (ad 0)])).length) Slot.unset).toArray = ls at hl ⊢
  have hl : lv_has ls 1 [(0, .ref (ad 0))] := hl
  obtain ⟨H, hH⟩ : ∃ H : Heap, H = s.heap := ⟨_, rfl⟩
  have hgo : ∀ (H : Heap) (locs : List Loc), WI g 13 (cM g ad) ad V s.heap H locs → W p l e (headSpec wsX8_readLaw rm_X8_readLaw).room s m args below meth c H locs 0 0 (MQ below (va_Qv K (WPost 13 (cM g ad) ad g) (AW ad 13 s.heap.size)) args s 0 0 (AW ad 13 s.heap.size)) (F0 m 0 ls []) := by
    intro H locs hI
    refine lv_aload_n hx hb dX8_readLaw_0 rfl (lv_at hl 0 rfl) ?_
    refine lv_bipush (v := (104 : Int32)) hx hb dX8_readLaw_1 (by decide) ?_
    refine x_aftv (va_runV (As := [.int (104 : Int32)]) (rest := []) ⟨hx, hb, hml, hown, hts⟩ (c_X8_must l g ad H.size V (104 : Int32) _ hw) (cwV 1 hts gX8_readLaw_X8_must rfl rfl rfl (by decide +kernel) ⟨Nat.le_of_ble_eq_true rfl, Nat.le_of_ble_eq_true rfl⟩) (x_preV (k := 0) hK hE hI (by decide) rfl rfl) rfl rfl hl.1 rfl (lv_room (Nat.le_of_ble_eq_true rfl)) dX8_readLaw_3 ⟨Nat.zero_le _, Nat.zero_le _⟩) hI (fun V1 H locs hw hI => ?_)
    refine lv_aload_n hx hb dX8_readLaw_6 rfl (lv_at hl 0 rfl) ?_
    refine lv_aload_n hx hb dX8_readLaw_7 rfl (lv_at hl 0 rfl) ?_
    refine lv_iconst (v := (1 : Int32)) hx hb dX8_readLaw_8 (by decide) ?_
    refine lv_bipush (v := (9 : Int32)) hx hb dX8_readLaw_9 (by decide) ?_
    refine x_afti (va_runV (As := [.int (1 : Int32), .int (9 : Int32)]) (rest := [.ref (ad 0)]) ⟨hx, hb, hml, hown, hts⟩ (c_X8_number l g ad H.size V1 (1 : Int32) (9 : Int32) _ hw) (cwV 2 hts gX8_readLaw_X8_number rfl rfl rfl (by decide +kernel) ⟨Nat.le_of_ble_eq_true rfl, Nat.le_of_ble_eq_true rfl⟩) (x_preV (k := 0) hK hE hI (by decide) rfl rfl) rfl rfl hl.1 rfl (lv_room (Nat.le_of_ble_eq_true rfl)) dX8_readLaw_11 ⟨Nat.zero_le _, Nat.zero_le _⟩) hI (fun r3 V2 H locs hw hI => ?_)
    refine mp_13 hx hb hts hin8 hown hK hI hw_0 dX8_readLaw_14 (fun V4 H locs eV4 hI => ?_)
    replace hw := hw V4 eV4
    refine lv_aload_n hx hb dX8_readLaw_17 rfl (lv_at hl 0 rfl) ?_
    refine lv_bipush (v := (44 : Int32)) hx hb dX8_readLaw_18 (by decide) ?_
    refine x_aftv (va_runV (As := [.int (44 : Int32)]) (rest := []) ⟨hx, hb, hml, hown, hts⟩ (c_X8_must l g ad H.size V4 (44 : Int32) _ hw) (cwV 1 hts gX8_readLaw_X8_must rfl rfl rfl (by decide +kernel) ⟨Nat.le_of_ble_eq_true rfl, Nat.le_of_ble_eq_true rfl⟩) (x_preV (k := 0) hK hE hI (by decide) rfl rfl) rfl rfl hl.1 rfl (lv_room (Nat.le_of_ble_eq_true rfl)) dX8_readLaw_20 ⟨Nat.zero_le _, Nat.zero_le _⟩) hI (fun V5 H locs hw hI => ?_)
    refine lv_aload_n hx hb dX8_readLaw_23 rfl (lv_at hl 0 rfl) ?_
    refine lv_aload_n hx hb dX8_readLaw_24 rfl (lv_at hl 0 rfl) ?_
    refine lv_iconst (v := (0 : Int32)) hx hb dX8_readLaw_25 (by decide) ?_
    refine lv_iconst (v := (4 : Int32)) hx hb dX8_readLaw_26 (by decide) ?_
    refine x_afti (va_runV (As := [.int (0 : Int32), .int (4 : Int32)]) (rest := [.ref (ad 0)]) ⟨hx, hb, hml, hown, hts⟩ (c_X8_number l g ad H.size V5 (0 : Int32) (4 : Int32) _ hw) (cwV 2 hts gX8_readLaw_X8_number rfl rfl rfl (by decide +kernel) ⟨Nat.le_of_ble_eq_true rfl, Nat.le_of_ble_eq_true rfl⟩) (x_preV (k := 0) hK hE hI (by decide) rfl rfl) rfl rfl hl.1 rfl (lv_room (Nat.le_of_ble_eq_true rfl)) dX8_readLaw_27 ⟨Nat.zero_le _, Nat.zero_le _⟩) hI (fun r7 V6 H locs hw hI => ?_)
    refine lv_iconst (v := (2 : Int32)) hx hb dX8_readLaw_30 (by decide) ?_
    refine lv_isub hx hb dX8_readLaw_31 ?_
    refine mp_14 hx hb hts hin8 hown hK hI hw_1 dX8_readLaw_32 (fun V8 H locs eV8 hI => ?_)
    replace hw := hw V8 eV8
    refine lv_aload_n hx hb dX8_readLaw_35 rfl (lv_at hl 0 rfl) ?_
    refine lv_bipush (v := (44 : Int32)) hx hb dX8_readLaw_36 (by decide) ?_
    refine x_aftv (va_runV (As := [.int (44 : Int32)]) (rest := []) ⟨hx, hb, hml, hown, hts⟩ (c_X8_must l g ad H.size V8 (44 : Int32) _ hw) (cwV 1 hts gX8_readLaw_X8_must rfl rfl rfl (by decide +kernel) ⟨Nat.le_of_ble_eq_true rfl, Nat.le_of_ble_eq_true rfl⟩) (x_preV (k := 0) hK hE hI (by decide) rfl rfl) rfl rfl hl.1 rfl (lv_room (Nat.le_of_ble_eq_true rfl)) dX8_readLaw_38 ⟨Nat.zero_le _, Nat.zero_le _⟩) hI (fun V9 H locs hw hI => ?_)
    refine lv_aload_n hx hb dX8_readLaw_41 rfl (lv_at hl 0 rfl) ?_
    refine mg_6 hx hb hts hin8 hown hK hI hw_2 dX8_readLaw_42 ?_
    refine lv_iconst (v := (2 : Int32)) hx hb dX8_readLaw_45 (by decide) ?_
    refine lv_aload_n hx hb dX8_readLaw_46 rfl (lv_at hl 0 rfl) ?_
    refine lv_iconst (v := (1 : Int32)) hx hb dX8_readLaw_47 (by decide) ?_
    refine lv_iconst (v := (5 : Int32)) hx hb dX8_readLaw_48 (by decide) ?_
    refine x_afti (va_runV (As := [.int (1 : Int32), .int (5 : Int32)]) (rest := [.int (2 : Int32), .ref (ad 6)]) ⟨hx, hb, hml, hown, hts⟩ (c_X8_number l g ad H.size V9 (1 : Int32) (5 : Int32) _ hw) (cwV 2 hts gX8_readLaw_X8_number rfl rfl rfl (by decide +kernel) ⟨Nat.le_of_ble_eq_true rfl, Nat.le_of_ble_eq_true rfl⟩) (x_preV (k := 0) hK hE hI (by decide) rfl rfl) rfl rfl hl.1 rfl (lv_room (Nat.le_of_ble_eq_true rfl)) dX8_readLaw_49 ⟨Nat.zero_le _, Nat.zero_le _⟩) hI (fun r11 V10 H locs hw hI => ?_)
    obtain ⟨h12, hw⟩ := hw
    refine x_iastV (k := 6) hx hb hK hI (cM_loc g ad) (by decide) (fun _ => rfl) h12 dX8_readLaw_52 (fun V13 H locs eV13 hI => ?_)
    replace hw := hw V13 eV13
    refine lv_aload_n hx hb dX8_readLaw_53 rfl (lv_at hl 0 rfl) ?_
    refine lv_bipush (v := (44 : Int32)) hx hb dX8_readLaw_54 (by decide) ?_
    refine x_aftv (va_runV (As := [.int (44 : Int32)]) (rest := []) ⟨hx, hb, hml, hown, hts⟩ (c_X8_must l g ad H.size V13 (44 : Int32) _ hw) (cwV 1 hts gX8_readLaw_X8_must rfl rfl rfl (by decide +kernel) ⟨Nat.le_of_ble_eq_true rfl, Nat.le_of_ble_eq_true rfl⟩) (x_preV (k := 0) hK hE hI (by decide) rfl rfl) rfl rfl hl.1 rfl (lv_room (Nat.le_of_ble_eq_true rfl)) dX8_readLaw_56 ⟨Nat.zero_le _, Nat.zero_le _⟩) hI (fun V14 H locs hw hI => ?_)
    refine lv_aload_n hx hb dX8_readLaw_59 rfl (lv_at hl 0 rfl) ?_
    refine mg_6 hx hb hts hin8 hown hK hI hw_2 dX8_readLaw_60 ?_
    refine lv_iconst (v := (3 : Int32)) hx hb dX8_readLaw_63 (by decide) ?_
    refine lv_aload_n hx hb dX8_readLaw_64 rfl (lv_at hl 0 rfl) ?_
    refine lv_iconst (v := (0 : Int32)) hx hb dX8_readLaw_65 (by decide) ?_
    refine lv_iconst (v := (3 : Int32)) hx hb dX8_readLaw_66 (by decide) ?_
    refine x_afti (va_runV (As := [.int (0 : Int32), .int (3 : Int32)]) (rest := [.int (3 : Int32), .ref (ad 6)]) ⟨hx, hb, hml, hown, hts⟩ (c_X8_number l g ad H.size V14 (0 : Int32) (3 : Int32) _ hw) (cwV 2 hts gX8_readLaw_X8_number rfl rfl rfl (by decide +kernel) ⟨Nat.le_of_ble_eq_true rfl, Nat.le_of_ble_eq_true rfl⟩) (x_preV (k := 0) hK hE hI (by decide) rfl rfl) rfl rfl hl.1 rfl (lv_room (Nat.le_of_ble_eq_true rfl)) dX8_readLaw_67 ⟨Nat.zero_le _, Nat.zero_le _⟩) hI (fun r16 V15 H locs hw hI => ?_)
    obtain ⟨h17, hw⟩ := hw
    refine x_iastV (k := 6) hx hb hK hI (cM_loc g ad) (by decide) (fun _ => rfl) h17 dX8_readLaw_70 (fun V18 H locs eV18 hI => ?_)
    replace hw := hw V18 eV18
    refine lv_aload_n hx hb dX8_readLaw_71 rfl (lv_at hl 0 rfl) ?_
    refine lv_bipush (v := (59 : Int32)) hx hb dX8_readLaw_72 (by decide) ?_
    refine x_aftv (va_runV (As := [.int (59 : Int32)]) (rest := []) ⟨hx, hb, hml, hown, hts⟩ (c_X8_must l g ad H.size V18 (59 : Int32) _ hw) (cwV 1 hts gX8_readLaw_X8_must rfl rfl rfl (by decide +kernel) ⟨Nat.le_of_ble_eq_true rfl, Nat.le_of_ble_eq_true rfl⟩) (x_preV (k := 0) hK hE hI (by decide) rfl rfl) rfl rfl hl.1 rfl (lv_room (Nat.le_of_ble_eq_true rfl)) dX8_readLaw_74 ⟨Nat.zero_le _, Nat.zero_le _⟩) hI (fun V19 H locs hw hI => ?_)
    exact W.vret hx hb hr (x_retv hI hw) hI.2.2.2.2 dX8_readLaw_77
  exact hgo s.heap [] hI
def rm_X8_readGrounds : Room := { frames := 2, cells := 0, slots := 0, locals := 43 }
set_option maxHeartbeats 4000000 in
set_option maxRecDepth 100000 in
theorem c_X8_readGrounds (l : Launch) (g : GP) (ad : Nat → Nat) (sz : Nat) (V : VT)   (K : VT → Prop) (hw : wp_X8_readGrounds V  K) : Met l yX8_readGrounds wsX8_readGrounds rm_X8_readGrounds (va_Pc [.ref (ad 0)] (WPre 13 (cM g ad) ad g V sz)) (va_Qv K (WPost 13 (cM g ad) ad g) (AW ad 13 sz)) 0 0 (AW ad 13 sz) := by
  refine Met.ofW (cc := cX8_readGrounds) (maxL := 1) (ret := none) (by decide) rfl ?_
  intro p e s m args below meth c s₁ B hml hv
  obtain ⟨ha, hv⟩ := hv
  obtain rfl := hv.1
  have hI : WI g 13 (cM g ad) ad V s.heap s.heap [] := WI.start hv
  have hK := hv.2.2.1
  have hE := hv.2.2.2.2
  have hx := B.exec
  have hb := B.bytes
  have hr := B.returns
  have hts := atoms_spec (ws := wsX8_readGrounds) B.pre
  have hown : s.vm.findClass RX8 = some m.cls := findClass_of_methodNamed B.named
  have hlocks := B.notSynchronized
  have hw_0 := hts (.fieldLink RX8 25 "HoopLaneModel" "read" "[I") (by decide +kernel)
  have hw_1 := hts (.fieldLink RX8 85 "HoopLaneModel" "fault" "I") (by decide +kernel)
  have hw_2 := hts (.fieldLink RX8 82 "HoopLaneModel" "at" "I") (by decide +kernel)
  have hw_3 := hts (.fieldLink RX8 78 "HoopLaneModel" "taped" "I") (by decide +kernel)
  have hin8 : ∀ w ∈ wsX80, w ∈ wsX8_readGrounds := by decide +kernel
  have hl := lv_entry ([.ref (ad 0)]) (n := 1) (Nat.le_of_ble_eq_true rfl)
  have hent : entryFrame m args 1 = F0 m 0 ((lg_sl ([.ref (ad 0)]) ++ List.replicate (1 - (lg_sl ([.ref (ad 0)])).length) Slot.unset).toArray) [] := by rw [ha, lg_entry_eq]
  rw [hent]
  generalize (lg_sl ([.ref (ad 0)]) ++ List.replicate (1 - (lg_sl ([.ref (ad 0)])).length) Slot.unset).toArray = ls at hl ⊢
  have hl : lv_has ls 1 [(0, .ref (ad 0))] := hl
  obtain ⟨H, hH⟩ : ∃ H : Heap, H = s.heap := ⟨_, rfl⟩
  have hb120 : ∀ (V : VT) (H : Heap) (locs : List Loc) (ls : Array Slot) , WI g 13 (cM g ad) ad V s.heap H locs → lv_has ls 1 [(0, .ref (ad 0))] → wp_X8_readGrounds_b120 K  V  → W p l e (headSpec wsX8_readGrounds rm_X8_readGrounds).room s m args below meth c H locs 0 0 (MQ below (va_Qv K (WPost 13 (cM g ad) ad g) (AW ad 13 s.heap.size)) args s 0 0 (AW ad 13 s.heap.size)) (F0 m 120 ls []) := by
    intro V H locs ls   hI hl hw
    refine lv_aload_n hx hb dX8_readGrounds_120 rfl (lv_at hl 0 rfl) ?_
    refine lv_bipush (v := (59 : Int32)) hx hb dX8_readGrounds_121 (by decide) ?_
    refine x_aftv (va_runV (As := [.int (59 : Int32)]) (rest := []) ⟨hx, hb, hml, hown, hts⟩ (c_X8_must l g ad H.size V (59 : Int32) _ hw) (cwV 1 hts gX8_readGrounds_X8_must rfl rfl rfl (by decide +kernel) ⟨Nat.le_of_ble_eq_true rfl, Nat.le_of_ble_eq_true rfl⟩) (x_preV (k := 0) hK hE hI (by decide) rfl rfl) rfl rfl hl.1 rfl (lv_room (Nat.le_of_ble_eq_true rfl)) dX8_readGrounds_123 ⟨Nat.zero_le _, Nat.zero_le _⟩) hI (fun V28 H locs hw hI => ?_)
    exact W.vret hx hb hr (x_retv hI hw) hI.2.2.2.2 dX8_readGrounds_126
  have hb95 : ∀ (V : VT) (H : Heap) (locs : List Loc) (ls : Array Slot) , WI g 13 (cM g ad) ad V s.heap H locs → lv_has ls 1 [(0, .ref (ad 0))] → wp_X8_readGrounds_b95 K  V  → W p l e (headSpec wsX8_readGrounds rm_X8_readGrounds).room s m args below meth c H locs 0 0 (MQ below (va_Qv K (WPost 13 (cM g ad) ad g) (AW ad 13 s.heap.size)) args s 0 0 (AW ad 13 s.heap.size)) (F0 m 95 ls []) := by
    intro V H locs ls   hI hl hw
    refine lv_aload_n hx hb dX8_readGrounds_95 rfl (lv_at hl 0 rfl) ?_
    refine mg_10 hx hb hts hin8 hown hK hI hw_1 dX8_readGrounds_96 ?_
    refine lv_if_ne (tgt := 120) hx hb dX8_readGrounds_99 (by decide) (fun c24 => ?_) (fun c24 => ?_)
    · replace hw := hw.1 c24
      exact hb120 V H locs ls  hI (lv_sub hl [0] rfl) hw
    · replace hw := hw.2 c24
      refine lv_aload_n hx hb dX8_readGrounds_102 rfl (lv_at hl 0 rfl) ?_
      refine mg_6 hx hb hts hin8 hown hK hI hw_0 dX8_readGrounds_103 ?_
      refine lv_iconst (v := (0 : Int32)) hx hb dX8_readGrounds_106 (by decide) ?_
      obtain ⟨h25, hw⟩ := hw
      refine x_iald (k := 6) hx hb hK hI (by decide) rfl h25 dX8_readGrounds_107 ?_
      refine lv_if_ne (tgt := 120) hx hb dX8_readGrounds_108 (by decide) (fun c26 => ?_) (fun c26 => ?_)
      · replace hw := hw.1 c26
        exact hb120 V H locs ls  hI (lv_sub hl [0] rfl) hw
      · replace hw := hw.2 c26
        refine lv_aload_n hx hb dX8_readGrounds_111 rfl (lv_at hl 0 rfl) ?_
        refine lv_iconst (v := (1 : Int32)) hx hb dX8_readGrounds_112 (by decide) ?_
        refine lv_aload_n hx hb dX8_readGrounds_113 rfl (lv_at hl 0 rfl) ?_
        refine mg_9 hx hb hts hin8 hown hK hI hw_2 dX8_readGrounds_114 ?_
        refine x_aftv (va_runV (As := [.int (1 : Int32), .int (V 0 9)]) (rest := []) ⟨hx, hb, hml, hown, hts⟩ (c_X8_wrong l g ad H.size V (1 : Int32) (V 0 9) _ hw) (cwV 2 hts gX8_readGrounds_X8_wrong rfl rfl rfl (by decide +kernel) ⟨Nat.le_of_ble_eq_true rfl, Nat.le_of_ble_eq_true rfl⟩) (x_preV (k := 0) hK hE hI (by decide) rfl rfl) rfl rfl hl.1 rfl (lv_room (Nat.le_of_ble_eq_true rfl)) dX8_readGrounds_117 ⟨Nat.zero_le _, Nat.zero_le _⟩) hI (fun V27 H locs hw hI => ?_)
        exact hb120 V27 H locs ls  hI (lv_sub hl [0] rfl) hw
  have hL13 : ∀ (n13 : Nat) (V : VT) (H : Heap) (locs : List Loc) (ls : Array Slot) , WI g 13 (cM g ad) ad V s.heap H locs → lv_has ls 1 [(0, .ref (ad 0))] → wp_X8_readGrounds_L13 K  n13 V  → W p l e (headSpec wsX8_readGrounds rm_X8_readGrounds).room s m args below meth c H locs 0 0 (MQ below (va_Qv K (WPost 13 (cM g ad) ad g) (AW ad 13 s.heap.size)) args s 0 0 (AW ad 13 s.heap.size)) (F0 m 13 ls []) := by
    intro n13
    induction n13 with
    | zero => intro V H locs ls   hI hl hw; exact False.elim hw
    | succ n13 ihL13 =>
      intro V H locs ls   hI hl hw
      refine lv_aload_n hx hb dX8_readGrounds_13 rfl (lv_at hl 0 rfl) ?_
      refine mg_10 hx hb hts hin8 hown hK hI hw_1 dX8_readGrounds_14 ?_
      refine lv_if_ne (tgt := 95) hx hb dX8_readGrounds_17 (by decide) (fun c4 => ?_) (fun c4 => ?_)
      · replace hw := hw.1 c4
        exact hb95 V H locs ls  hI (lv_sub hl [0] rfl) hw
      · replace hw := hw.2 c4
        refine lv_aload_n hx hb dX8_readGrounds_20 rfl (lv_at hl 0 rfl) ?_
        refine mg_6 hx hb hts hin8 hown hK hI hw_0 dX8_readGrounds_21 ?_
        refine lv_iconst (v := (0 : Int32)) hx hb dX8_readGrounds_24 (by decide) ?_
        obtain ⟨h5, hw⟩ := hw
        refine x_iald (k := 6) hx hb hK hI (by decide) rfl h5 dX8_readGrounds_25 ?_
        refine lv_bipush (v := (24 : Int32)) hx hb dX8_readGrounds_26 (by decide) ?_
        refine lv_icmp_ge (tgt := 95) hx hb dX8_readGrounds_28 (by decide) (fun c6 => ?_) (fun c6 => ?_)
        · replace hw := hw.1 c6
          exact hb95 V H locs ls  hI (lv_sub hl [0] rfl) hw
        · replace hw := hw.2 c6
          refine lv_aload_n hx hb dX8_readGrounds_31 rfl (lv_at hl 0 rfl) ?_
          refine mg_9 hx hb hts hin8 hown hK hI hw_2 dX8_readGrounds_32 ?_
          refine lv_aload_n hx hb dX8_readGrounds_35 rfl (lv_at hl 0 rfl) ?_
          refine mg_8 hx hb hts hin8 hown hK hI hw_3 dX8_readGrounds_36 ?_
          refine lv_icmp_ge (tgt := 95) hx hb dX8_readGrounds_39 (by decide) (fun c7 => ?_) (fun c7 => ?_)
          · replace hw := hw.1 c7
            exact hb95 V H locs ls  hI (lv_sub hl [0] rfl) hw
          · replace hw := hw.2 c7
            refine lv_aload_n hx hb dX8_readGrounds_42 rfl (lv_at hl 0 rfl) ?_
            refine x_afti (va_runV (As := []) (rest := []) ⟨hx, hb, hml, hown, hts⟩ (c_X8_here l g ad H.size V  _ hw) (cwV 0 hts gX8_readGrounds_X8_here rfl rfl rfl (by decide +kernel) ⟨Nat.le_of_ble_eq_true rfl, Nat.le_of_ble_eq_true rfl⟩) (x_preV (k := 0) hK hE hI (by decide) rfl rfl) rfl rfl hl.1 rfl (lv_room (Nat.le_of_ble_eq_true rfl)) dX8_readGrounds_43 ⟨Nat.zero_le _, Nat.zero_le _⟩) hI (fun r9 V8 H locs hw hI => ?_)
            refine x_afti (va_runS (As := [.int r9]) (rest := []) ⟨hx, hb, hml, hown, hts⟩ (c_X8_groundOf l g ad H.size V8 r9 _ hw) (cwS 1 hts gX8_readGrounds_X8_groundOf rfl rfl rfl (by decide +kernel) ⟨Nat.le_of_ble_eq_true rfl, Nat.le_of_ble_eq_true rfl⟩) (x_preS hK hE hI) rfl rfl hl.1 rfl (lv_room (Nat.le_of_ble_eq_true rfl)) dX8_readGrounds_46 ⟨Nat.zero_le _, Nat.zero_le _⟩) hI (fun r11 V10 H locs hw hI => ?_)
            refine lv_if_lt (tgt := 95) hx hb dX8_readGrounds_49 (by decide) (fun c12 => ?_) (fun c12 => ?_)
            · replace hw := hw.1 c12
              exact hb95 V10 H locs ls  hI (lv_sub hl [0] rfl) hw
            · replace hw := hw.2 c12
              refine lv_aload_n hx hb dX8_readGrounds_52 rfl (lv_at hl 0 rfl) ?_
              refine mg_6 hx hb hts hin8 hown hK hI hw_0 dX8_readGrounds_53 ?_
              refine lv_iconst (v := (4 : Int32)) hx hb dX8_readGrounds_56 (by decide) ?_
              refine lv_aload_n hx hb dX8_readGrounds_57 rfl (lv_at hl 0 rfl) ?_
              refine mg_6 hx hb hts hin8 hown hK hI hw_0 dX8_readGrounds_58 ?_
              refine lv_iconst (v := (0 : Int32)) hx hb dX8_readGrounds_61 (by decide) ?_
              obtain ⟨h13, hw⟩ := hw
              refine x_iald (k := 6) hx hb hK hI (by decide) rfl h13 dX8_readGrounds_62 ?_
              refine lv_iadd hx hb dX8_readGrounds_63 ?_
              refine lv_aload_n hx hb dX8_readGrounds_64 rfl (lv_at hl 0 rfl) ?_
              refine x_afti (va_runV (As := []) (rest := [.int ((4 : Int32) + (V10 6 ((0 : Int32)).toNatClampNeg)), .ref (ad 6)]) ⟨hx, hb, hml, hown, hts⟩ (c_X8_here l g ad H.size V10  _ hw) (cwV 0 hts gX8_readGrounds_X8_here rfl rfl rfl (by decide +kernel) ⟨Nat.le_of_ble_eq_true rfl, Nat.le_of_ble_eq_true rfl⟩) (x_preV (k := 0) hK hE hI (by decide) rfl rfl) rfl rfl hl.1 rfl (lv_room (Nat.le_of_ble_eq_true rfl)) dX8_readGrounds_65 ⟨Nat.zero_le _, Nat.zero_le _⟩) hI (fun r15 V14 H locs hw hI => ?_)
              refine x_afti (va_runS (As := [.int r15]) (rest := [.int ((4 : Int32) + (V10 6 ((0 : Int32)).toNatClampNeg)), .ref (ad 6)]) ⟨hx, hb, hml, hown, hts⟩ (c_X8_groundOf l g ad H.size V14 r15 _ hw) (cwS 1 hts gX8_readGrounds_X8_groundOf rfl rfl rfl (by decide +kernel) ⟨Nat.le_of_ble_eq_true rfl, Nat.le_of_ble_eq_true rfl⟩) (x_preS hK hE hI) rfl rfl hl.1 rfl (lv_room (Nat.le_of_ble_eq_true rfl)) dX8_readGrounds_68 ⟨Nat.zero_le _, Nat.zero_le _⟩) hI (fun r17 V16 H locs hw hI => ?_)
              obtain ⟨h18, hw⟩ := hw
              refine x_iastV (k := 6) hx hb hK hI (cM_loc g ad) (by decide) (fun _ => rfl) h18 dX8_readGrounds_71 (fun V19 H locs eV19 hI => ?_)
              replace hw := hw V19 eV19
              refine lv_aload_n hx hb dX8_readGrounds_72 rfl (lv_at hl 0 rfl) ?_
              refine mg_6 hx hb hts hin8 hown hK hI hw_0 dX8_readGrounds_73 ?_
              refine lv_iconst (v := (0 : Int32)) hx hb dX8_readGrounds_76 (by decide) ?_
              refine lv_dup2_11 hx hb dX8_readGrounds_77 rfl rfl ?_
              obtain ⟨h20, hw⟩ := hw
              refine x_iald (k := 6) hx hb hK hI (by decide) rfl h20 dX8_readGrounds_78 ?_
              refine lv_iconst (v := (1 : Int32)) hx hb dX8_readGrounds_79 (by decide) ?_
              refine lv_iadd hx hb dX8_readGrounds_80 ?_
              obtain ⟨h21, hw⟩ := hw
              refine x_iastV (k := 6) hx hb hK hI (cM_loc g ad) (by decide) (fun _ => rfl) h21 dX8_readGrounds_81 (fun V22 H locs eV22 hI => ?_)
              replace hw := hw V22 eV22
              refine lv_aload_n hx hb dX8_readGrounds_82 rfl (lv_at hl 0 rfl) ?_
              refine lv_dup hx hb dX8_readGrounds_83 rfl ?_
              refine mg_9 hx hb hts hin8 hown hK hI hw_2 dX8_readGrounds_84 ?_
              refine lv_iconst (v := (1 : Int32)) hx hb dX8_readGrounds_87 (by decide) ?_
              refine lv_iadd hx hb dX8_readGrounds_88 ?_
              refine mp_9 hx hb hts hin8 hown hK hI hw_2 dX8_readGrounds_89 (fun V23 H locs eV23 hI => ?_)
              replace hw := hw V23 eV23
              refine lv_goto (tgt := 13) hx hb dX8_readGrounds_92 (by decide) ?_
              exact ihL13 V23 H locs ls  hI (lv_sub hl [0] rfl) hw
  have hgo : ∀ (H : Heap) (locs : List Loc), WI g 13 (cM g ad) ad V s.heap H locs → W p l e (headSpec wsX8_readGrounds rm_X8_readGrounds).room s m args below meth c H locs 0 0 (MQ below (va_Qv K (WPost 13 (cM g ad) ad g) (AW ad 13 s.heap.size)) args s 0 0 (AW ad 13 s.heap.size)) (F0 m 0 ls []) := by
    intro H locs hI
    refine lv_aload_n hx hb dX8_readGrounds_0 rfl (lv_at hl 0 rfl) ?_
    refine lv_bipush (v := (103 : Int32)) hx hb dX8_readGrounds_1 (by decide) ?_
    refine x_aftv (va_runV (As := [.int (103 : Int32)]) (rest := []) ⟨hx, hb, hml, hown, hts⟩ (c_X8_must l g ad H.size V (103 : Int32) _ hw) (cwV 1 hts gX8_readGrounds_X8_must rfl rfl rfl (by decide +kernel) ⟨Nat.le_of_ble_eq_true rfl, Nat.le_of_ble_eq_true rfl⟩) (x_preV (k := 0) hK hE hI (by decide) rfl rfl) rfl rfl hl.1 rfl (lv_room (Nat.le_of_ble_eq_true rfl)) dX8_readGrounds_3 ⟨Nat.zero_le _, Nat.zero_le _⟩) hI (fun V1 H locs hw hI => ?_)
    refine lv_aload_n hx hb dX8_readGrounds_6 rfl (lv_at hl 0 rfl) ?_
    refine mg_6 hx hb hts hin8 hown hK hI hw_0 dX8_readGrounds_7 ?_
    refine lv_iconst (v := (0 : Int32)) hx hb dX8_readGrounds_10 (by decide) ?_
    refine lv_iconst (v := (0 : Int32)) hx hb dX8_readGrounds_11 (by decide) ?_
    obtain ⟨h2, hw⟩ := hw
    refine x_iastV (k := 6) hx hb hK hI (cM_loc g ad) (by decide) (fun _ => rfl) h2 dX8_readGrounds_12 (fun V3 H locs eV3 hI => ?_)
    replace hw := hw V3 eV3
    obtain ⟨n13, hw⟩ := hw
    exact hL13 n13 V3 H locs ls  hI (lv_sub hl [0] rfl) hw
  exact hgo s.heap [] hI
