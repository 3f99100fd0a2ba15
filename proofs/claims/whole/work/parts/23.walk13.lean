def rm_X8_hoop : Room := { frames := 1, cells := 0, slots := 0, locals := 25 }
set_option maxHeartbeats 4000000 in
set_option maxRecDepth 100000 in
theorem c_X8_hoop (l : Launch) (g : GP) (ad : Nat → Nat) (sz : Nat) (V : VT) (x1 : Int32)  (K : Int32 → VT → Prop) (hw : wp_X8_hoop V x1 K) : Met l yX8_hoop wsX8_hoop rm_X8_hoop (va_Pc [.ref (ad 0), .int x1] (WPre 13 (cM g ad) ad g V sz)) (va_Qi K (WPost 13 (cM g ad) ad g) (AW ad 13 sz)) 0 0 (AW ad 13 sz) := by
  refine Met.ofW (cc := cX8_hoop) (maxL := 2) (ret := (some .int)) (by decide) rfl ?_
  intro p e s m args below meth c s₁ B hml hv
  obtain ⟨ha, hv⟩ := hv
  obtain rfl := hv.1
  have hI : WI g 13 (cM g ad) ad V s.heap s.heap [] := WI.start hv
  have hK := hv.2.2.1
  have hE := hv.2.2.2.2
  have hx := B.exec
  have hb := B.bytes
  have hr := B.returns
  have hts := atoms_spec (ws := wsX8_hoop) B.pre
  have hown : s.vm.findClass RX8 = some m.cls := findClass_of_methodNamed B.named
  have hlocks := B.notSynchronized
  have hw_0 := hts (.fieldLink RX8 136 "HoopLaneModel" "isLane" "Z") (by decide +kernel)
  have hw_1 := hts (.constantLong RX8 200 (4)) (by decide +kernel)
  have hw_2 := hts (.constant RX8 64 (-1000001)) (by decide +kernel)
  have hw_3 := hts (.constant RX8 184 (-1000002)) (by decide +kernel)
  have hin8 : ∀ w ∈ wsX80, w ∈ wsX8_hoop := by decide +kernel
  have hl := lv_entry ([.ref (ad 0), .int x1]) (n := 2) (Nat.le_of_ble_eq_true rfl)
  have hent : entryFrame m args 2 = F0 m 0 ((lg_sl ([.ref (ad 0), .int x1]) ++ List.replicate (2 - (lg_sl ([.ref (ad 0), .int x1])).length) Slot.unset).toArray) [] := by rw [ha, lg_entry_eq]
  rw [hent]
  generalize (lg_sl ([.ref (ad 0), .int x1]) ++ List.replicate (2 - (lg_sl ([.ref (ad 0), .int x1])).length) Slot.unset).toArray = ls at hl ⊢
  have hl : lv_has ls 2 [(0, .ref (ad 0)), (1, .int x1)] := hl
  obtain ⟨H, hH⟩ : ∃ H : Heap, H = s.heap := ⟨_, rfl⟩
  have hgo : ∀ (H : Heap) (locs : List Loc), WI g 13 (cM g ad) ad V s.heap H locs → W p l e (headSpec wsX8_hoop rm_X8_hoop).room s m args below meth c H locs 0 0 (MQ below (va_Qi K (WPost 13 (cM g ad) ad g) (AW ad 13 s.heap.size)) args s 0 0 (AW ad 13 s.heap.size)) (F0 m 0 ls []) := by
    intro H locs hI
    refine lv_aload_n hx hb dX8_hoop_0 rfl (lv_at hl 0 rfl) ?_
    refine mg_15 hx hb hts hin8 hown hK hI hw_0 dX8_hoop_1 ?_
    refine lv_if_ne (tgt := 12) hx hb dX8_hoop_4 (by decide) (fun c1 => ?_) (fun c1 => ?_)
    · replace hw := hw.1 c1
      refine lv_iload_n hx hb dX8_hoop_12 rfl (lv_at hl 1 rfl) ?_
      refine lv_i2l (v := (x1).toInt64) hx hb dX8_hoop_13 rfl ?_
      refine lv_lconst (v := (0 : Int64)) hx hb dX8_hoop_14 (by decide) ?_
      refine lv_ldc2 (v := (4 : Int64)) hx hb hown hw_1 dX8_hoop_15 ?_
      refine x_afti (va_runS (As := [.long ((x1).toInt64), .long (0 : Int64), .long (4 : Int64)]) (rest := []) ⟨hx, hb, hml, hown, hts⟩ (c_X8_in l g ad H.size V ((x1).toInt64) (0 : Int64) (4 : Int64) _ hw) (cwS 3 hts gX8_hoop_X8_in rfl rfl rfl (by decide +kernel) ⟨Nat.le_of_ble_eq_true rfl, Nat.le_of_ble_eq_true rfl⟩) (x_preS hK hE hI) rfl rfl hl.1 rfl (lv_room (Nat.le_of_ble_eq_true rfl)) dX8_hoop_18 ⟨Nat.zero_le _, Nat.zero_le _⟩) hI (fun r3 V2 H locs hw hI => ?_)
      refine lv_if_eq (tgt := 32) hx hb dX8_hoop_21 (by decide) (fun c4 => ?_) (fun c4 => ?_)
      · replace hw := hw.1 c4
        refine lv_ldc (v := (-1000001 : Int32)) hx hb hown hw_2 dX8_hoop_32 ?_
        exact W.iret (v := (-1000001 : Int32)) hx hb hr (x_reti hI hw) hI.2.2.2.2 dX8_hoop_34
      · replace hw := hw.2 c4
        refine lv_aload_n hx hb dX8_hoop_24 rfl (lv_at hl 0 rfl) ?_
        refine lv_iload_n hx hb dX8_hoop_25 rfl (lv_at hl 1 rfl) ?_
        refine x_afti (va_runV (As := [.int x1]) (rest := []) ⟨hx, hb, hml, hown, hts⟩ (c_X8_hoopOf l g ad H.size V2 x1 _ hw) (cwV 1 hts gX8_hoop_X8_hoopOf rfl rfl rfl (by decide +kernel) ⟨Nat.le_of_ble_eq_true rfl, Nat.le_of_ble_eq_true rfl⟩) (x_preV (k := 0) hK hE hI (by decide) rfl rfl) rfl rfl hl.1 rfl (lv_room (Nat.le_of_ble_eq_true rfl)) dX8_hoop_26 ⟨Nat.zero_le _, Nat.zero_le _⟩) hI (fun r6 V5 H locs hw hI => ?_)
        refine lv_goto (tgt := 34) hx hb dX8_hoop_29 (by decide) ?_
        exact W.iret (v := r6) hx hb hr (x_reti hI hw) hI.2.2.2.2 dX8_hoop_34
    · replace hw := hw.2 c1
      refine lv_ldc (v := (-1000002 : Int32)) hx hb hown hw_3 dX8_hoop_7 ?_
      refine lv_goto (tgt := 34) hx hb dX8_hoop_9 (by decide) ?_
      exact W.iret (v := (-1000002 : Int32)) hx hb hr (x_reti hI hw) hI.2.2.2.2 dX8_hoop_34
  exact hgo s.heap [] hI
def rm_X8_ground : Room := { frames := 1, cells := 0, slots := 0, locals := 25 }
set_option maxHeartbeats 4000000 in
set_option maxRecDepth 100000 in
theorem c_X8_ground (l : Launch) (g : GP) (ad : Nat → Nat) (sz : Nat) (V : VT) (x1 : Int32)  (K : Int32 → VT → Prop) (hw : wp_X8_ground V x1 K) : Met l yX8_ground wsX8_ground rm_X8_ground (va_Pc [.ref (ad 0), .int x1] (WPre 13 (cM g ad) ad g V sz)) (va_Qi K (WPost 13 (cM g ad) ad g) (AW ad 13 sz)) 0 0 (AW ad 13 sz) := by
  refine Met.ofW (cc := cX8_ground) (maxL := 2) (ret := (some .int)) (by decide) rfl ?_
  intro p e s m args below meth c s₁ B hml hv
  obtain ⟨ha, hv⟩ := hv
  obtain rfl := hv.1
  have hI : WI g 13 (cM g ad) ad V s.heap s.heap [] := WI.start hv
  have hK := hv.2.2.1
  have hE := hv.2.2.2.2
  have hx := B.exec
  have hb := B.bytes
  have hr := B.returns
  have hts := atoms_spec (ws := wsX8_ground) B.pre
  have hown : s.vm.findClass RX8 = some m.cls := findClass_of_methodNamed B.named
  have hlocks := B.notSynchronized
  have hw_0 := hts (.fieldLink RX8 22 "HoopLaneModel" "lane" "[I") (by decide +kernel)
  have hw_1 := hts (.constant RX8 64 (-1000001)) (by decide +kernel)
  have hin8 : ∀ w ∈ wsX80, w ∈ wsX8_ground := by decide +kernel
  have hl := lv_entry ([.ref (ad 0), .int x1]) (n := 2) (Nat.le_of_ble_eq_true rfl)
  have hent : entryFrame m args 2 = F0 m 0 ((lg_sl ([.ref (ad 0), .int x1]) ++ List.replicate (2 - (lg_sl ([.ref (ad 0), .int x1])).length) Slot.unset).toArray) [] := by rw [ha, lg_entry_eq]
  rw [hent]
  generalize (lg_sl ([.ref (ad 0), .int x1]) ++ List.replicate (2 - (lg_sl ([.ref (ad 0), .int x1])).length) Slot.unset).toArray = ls at hl ⊢
  have hl : lv_has ls 2 [(0, .ref (ad 0)), (1, .int x1)] := hl
  obtain ⟨H, hH⟩ : ∃ H : Heap, H = s.heap := ⟨_, rfl⟩
  have hgo : ∀ (H : Heap) (locs : List Loc), WI g 13 (cM g ad) ad V s.heap H locs → W p l e (headSpec wsX8_ground rm_X8_ground).room s m args below meth c H locs 0 0 (MQ below (va_Qi K (WPost 13 (cM g ad) ad g) (AW ad 13 s.heap.size)) args s 0 0 (AW ad 13 s.heap.size)) (F0 m 0 ls []) := by
    intro H locs hI
    refine lv_iload_n hx hb dX8_ground_0 rfl (lv_at hl 1 rfl) ?_
    refine lv_i2l (v := (x1).toInt64) hx hb dX8_ground_1 rfl ?_
    refine lv_lconst (v := (0 : Int64)) hx hb dX8_ground_2 (by decide) ?_
    refine lv_aload_n hx hb dX8_ground_3 rfl (lv_at hl 0 rfl) ?_
    refine mg_5 hx hb hts hin8 hown hK hI hw_0 dX8_ground_4 ?_
    refine lv_iconst (v := (0 : Int32)) hx hb dX8_ground_7 (by decide) ?_
    obtain ⟨h1, hw⟩ := hw
    refine x_iald (k := 5) hx hb hK hI (by decide) rfl h1 dX8_ground_8 ?_
    refine lv_iconst (v := (1 : Int32)) hx hb dX8_ground_9 (by decide) ?_
    refine lv_isub hx hb dX8_ground_10 ?_
    refine lv_i2l (v := (((V 5 ((0 : Int32)).toNatClampNeg) - (1 : Int32))).toInt64) hx hb dX8_ground_11 rfl ?_
    refine x_afti (va_runS (As := [.long ((x1).toInt64), .long (0 : Int64), .long ((((V 5 ((0 : Int32)).toNatClampNeg) - (1 : Int32))).toInt64)]) (rest := []) ⟨hx, hb, hml, hown, hts⟩ (c_X8_in l g ad H.size V ((x1).toInt64) (0 : Int64) ((((V 5 ((0 : Int32)).toNatClampNeg) - (1 : Int32))).toInt64) _ hw) (cwS 3 hts gX8_ground_X8_in rfl rfl rfl (by decide +kernel) ⟨Nat.le_of_ble_eq_true rfl, Nat.le_of_ble_eq_true rfl⟩) (x_preS hK hE hI) rfl rfl hl.1 rfl (lv_room (Nat.le_of_ble_eq_true rfl)) dX8_ground_12 ⟨Nat.zero_le _, Nat.zero_le _⟩) hI (fun r3 V2 H locs hw hI => ?_)
    refine lv_if_eq (tgt := 29) hx hb dX8_ground_15 (by decide) (fun c4 => ?_) (fun c4 => ?_)
    · replace hw := hw.1 c4
      refine lv_ldc (v := (-1000001 : Int32)) hx hb hown hw_1 dX8_ground_29 ?_
      exact W.iret (v := (-1000001 : Int32)) hx hb hr (x_reti hI hw) hI.2.2.2.2 dX8_ground_31
    · replace hw := hw.2 c4
      refine lv_aload_n hx hb dX8_ground_18 rfl (lv_at hl 0 rfl) ?_
      refine mg_5 hx hb hts hin8 hown hK hI hw_0 dX8_ground_19 ?_
      refine lv_iconst (v := (4 : Int32)) hx hb dX8_ground_22 (by decide) ?_
      refine lv_iload_n hx hb dX8_ground_23 rfl (lv_at hl 1 rfl) ?_
      refine lv_iadd hx hb dX8_ground_24 ?_
      obtain ⟨h5, hw⟩ := hw
      refine x_iald (k := 5) hx hb hK hI (by decide) rfl h5 dX8_ground_25 ?_
      refine lv_goto (tgt := 31) hx hb dX8_ground_26 (by decide) ?_
      exact W.iret (v := (V2 5 (((4 : Int32) + x1)).toNatClampNeg)) hx hb hr (x_reti hI hw) hI.2.2.2.2 dX8_ground_31
  exact hgo s.heap [] hI
def rm_X8_force : Room := { frames := 2, cells := 0, slots := 0, locals := 46 }
set_option maxHeartbeats 4000000 in
set_option maxRecDepth 100000 in
theorem c_X8_force (l : Launch) (g : GP) (ad : Nat → Nat) (sz : Nat) (V : VT) (x1 : Int32)  (K : Int32 → VT → Prop) (hw : wp_X8_force V x1 K) : Met l yX8_force wsX8_force rm_X8_force (va_Pc [.ref (ad 0), .int x1] (WPre 13 (cM g ad) ad g V sz)) (va_Qi K (WPost 13 (cM g ad) ad g) (AW ad 13 sz)) 0 0 (AW ad 13 sz) := by
  refine Met.ofW (cc := cX8_force) (maxL := 2) (ret := (some .int)) (by decide) rfl ?_
  intro p e s m args below meth c s₁ B hml hv
  obtain ⟨ha, hv⟩ := hv
  obtain rfl := hv.1
  have hI : WI g 13 (cM g ad) ad V s.heap s.heap [] := WI.start hv
  have hK := hv.2.2.1
  have hE := hv.2.2.2.2
  have hx := B.exec
  have hb := B.bytes
  have hr := B.returns
  have hts := atoms_spec (ws := wsX8_force) B.pre
  have hown : s.vm.findClass RX8 = some m.cls := findClass_of_methodNamed B.named
  have hlocks := B.notSynchronized
  have hw_0 := hts (.constant RX8 64 (-1000001)) (by decide +kernel)
  have hl := lv_entry ([.ref (ad 0), .int x1]) (n := 2) (Nat.le_of_ble_eq_true rfl)
  have hent : entryFrame m args 2 = F0 m 0 ((lg_sl ([.ref (ad 0), .int x1]) ++ List.replicate (2 - (lg_sl ([.ref (ad 0), .int x1])).length) Slot.unset).toArray) [] := by rw [ha, lg_entry_eq]
  rw [hent]
  generalize (lg_sl ([.ref (ad 0), .int x1]) ++ List.replicate (2 - (lg_sl ([.ref (ad 0), .int x1])).length) Slot.unset).toArray = ls at hl ⊢
  have hl : lv_has ls 2 [(0, .ref (ad 0)), (1, .int x1)] := hl
  obtain ⟨H, hH⟩ : ∃ H : Heap, H = s.heap := ⟨_, rfl⟩
  have hgo : ∀ (H : Heap) (locs : List Loc), WI g 13 (cM g ad) ad V s.heap H locs → W p l e (headSpec wsX8_force rm_X8_force).room s m args below meth c H locs 0 0 (MQ below (va_Qi K (WPost 13 (cM g ad) ad g) (AW ad 13 s.heap.size)) args s 0 0 (AW ad 13 s.heap.size)) (F0 m 0 ls []) := by
    intro H locs hI
    refine lv_aload_n hx hb dX8_force_0 rfl (lv_at hl 0 rfl) ?_
    refine lv_iload_n hx hb dX8_force_1 rfl (lv_at hl 1 rfl) ?_
    refine x_afti (va_runV (As := [.int x1]) (rest := []) ⟨hx, hb, hml, hown, hts⟩ (c_X8_isTap l g ad H.size V x1 _ hw) (cwV 1 hts gX8_force_X8_isTap rfl rfl rfl (by decide +kernel) ⟨Nat.le_of_ble_eq_true rfl, Nat.le_of_ble_eq_true rfl⟩) (x_preV (k := 0) hK hE hI (by decide) rfl rfl) rfl rfl hl.1 rfl (lv_room (Nat.le_of_ble_eq_true rfl)) dX8_force_2 ⟨Nat.zero_le _, Nat.zero_le _⟩) hI (fun r2 V1 H locs hw hI => ?_)
    refine lv_if_eq (tgt := 16) hx hb dX8_force_5 (by decide) (fun c3 => ?_) (fun c3 => ?_)
    · replace hw := hw.1 c3
      refine lv_ldc (v := (-1000001 : Int32)) hx hb hown hw_0 dX8_force_16 ?_
      exact W.iret (v := (-1000001 : Int32)) hx hb hr (x_reti hI hw) hI.2.2.2.2 dX8_force_18
    · replace hw := hw.2 c3
      refine lv_aload_n hx hb dX8_force_8 rfl (lv_at hl 0 rfl) ?_
      refine lv_iload_n hx hb dX8_force_9 rfl (lv_at hl 1 rfl) ?_
      refine x_afti (va_runV (As := [.int x1]) (rest := []) ⟨hx, hb, hml, hown, hts⟩ (c_X8_forceAt l g ad H.size V1 x1 _ hw) (cwV 1 hts gX8_force_X8_forceAt rfl rfl rfl (by decide +kernel) ⟨Nat.le_of_ble_eq_true rfl, Nat.le_of_ble_eq_true rfl⟩) (x_preV (k := 0) hK hE hI (by decide) rfl rfl) rfl rfl hl.1 rfl (lv_room (Nat.le_of_ble_eq_true rfl)) dX8_force_10 ⟨Nat.zero_le _, Nat.zero_le _⟩) hI (fun r5 V4 H locs hw hI => ?_)
      refine lv_goto (tgt := 18) hx hb dX8_force_13 (by decide) ?_
      exact W.iret (v := r5) hx hb hr (x_reti hI hw) hI.2.2.2.2 dX8_force_18
  exact hgo s.heap [] hI
def rm_X8_asides : Room := { frames := 0, cells := 0, slots := 0, locals := 0 }
set_option maxHeartbeats 4000000 in
set_option maxRecDepth 100000 in
theorem c_X8_asides (l : Launch) (g : GP) (ad : Nat → Nat) (sz : Nat) (V : VT)   (K : VT → Prop) (hw : wp_X8_asides V  K) : Met l yX8_asides wsX8_asides rm_X8_asides (va_Pc [.ref (ad 0)] (WPre 13 (cM g ad) ad g V sz)) (va_Qv K (WPost 13 (cM g ad) ad g) (AW ad 13 sz)) 0 0 (AW ad 13 sz) := by
  refine Met.ofW (cc := cX8_asides) (maxL := 1) (ret := none) (by decide) rfl ?_
  intro p e s m args below meth c s₁ B hml hv
  obtain ⟨ha, hv⟩ := hv
  obtain rfl := hv.1
  have hI : WI g 13 (cM g ad) ad V s.heap s.heap [] := WI.start hv
  have hK := hv.2.2.1
  have hE := hv.2.2.2.2
  have hx := B.exec
  have hb := B.bytes
  have hr := B.returns
  have hts := atoms_spec (ws := wsX8_asides) B.pre
  have hown : s.vm.findClass RX8 = some m.cls := findClass_of_methodNamed B.named
  have hlocks := B.notSynchronized
  have hw_0 := hts (.fieldLink RX8 150 "HoopLaneModel" "yard" "I") (by decide +kernel)
  have hw_1 := hts (.fieldLink RX8 205 "HoopLaneModel" "asideYard" "I") (by decide +kernel)
  have hw_2 := hts (.fieldLink RX8 153 "HoopLaneModel" "pace" "I") (by decide +kernel)
  have hw_3 := hts (.fieldLink RX8 208 "HoopLaneModel" "asidePace" "I") (by decide +kernel)
  have hw_4 := hts (.fieldLink RX8 156 "HoopLaneModel" "lean" "I") (by decide +kernel)
  have hw_5 := hts (.fieldLink RX8 211 "HoopLaneModel" "asideLean" "I") (by decide +kernel)
  have hw_6 := hts (.fieldLink RX8 159 "HoopLaneModel" "end" "I") (by decide +kernel)
  have hw_7 := hts (.fieldLink RX8 214 "HoopLaneModel" "asideEnd" "I") (by decide +kernel)
  have hw_8 := hts (.fieldLink RX8 144 "HoopLaneModel" "moment" "I") (by decide +kernel)
  have hw_9 := hts (.fieldLink RX8 217 "HoopLaneModel" "asideMoment" "I") (by decide +kernel)
  have hin8 : ∀ w ∈ wsX80, w ∈ wsX8_asides := by decide +kernel
  have hl := lv_entry ([.ref (ad 0)]) (n := 1) (Nat.le_of_ble_eq_true rfl)
  have hent : entryFrame m args 1 = F0 m 0 ((lg_sl ([.ref (ad 0)]) ++ List.replicate (1 - (lg_sl ([.ref (ad 0)])).length) Slot.unset).toArray) [] := by rw [ha, lg_entry_eq]
  rw [hent]
  generalize (lg_sl ([.ref (ad 0)]) ++ List.replicate (1 - (lg_sl ([.ref (ad 0)])).length) Slot.unset).toArray = ls at hl ⊢
  have hl : lv_has ls 1 [(0, .ref (ad 0))] := hl
  obtain ⟨H, hH⟩ : ∃ H : Heap, H = s.heap := ⟨_, rfl⟩
  have hgo : ∀ (H : Heap) (locs : List Loc), WI g 13 (cM g ad) ad V s.heap H locs → W p l e (headSpec wsX8_asides rm_X8_asides).room s m args below meth c H locs 0 0 (MQ below (va_Qv K (WPost 13 (cM g ad) ad g) (AW ad 13 s.heap.size)) args s 0 0 (AW ad 13 s.heap.size)) (F0 m 0 ls []) := by
    intro H locs hI
    refine lv_aload_n hx hb dX8_asides_0 rfl (lv_at hl 0 rfl) ?_
    refine lv_aload_n hx hb dX8_asides_1 rfl (lv_at hl 0 rfl) ?_
    refine mg_16 hx hb hts hin8 hown hK hI hw_0 dX8_asides_2 ?_
    refine mp_23 hx hb hts hin8 hown hK hI hw_1 dX8_asides_5 (fun V1 H locs eV1 hI => ?_)
    replace hw := hw V1 eV1
    refine lv_aload_n hx hb dX8_asides_8 rfl (lv_at hl 0 rfl) ?_
    refine lv_aload_n hx hb dX8_asides_9 rfl (lv_at hl 0 rfl) ?_
    refine mg_17 hx hb hts hin8 hown hK hI hw_2 dX8_asides_10 ?_
    refine mp_24 hx hb hts hin8 hown hK hI hw_3 dX8_asides_13 (fun V2 H locs eV2 hI => ?_)
    replace hw := hw V2 eV2
    refine lv_aload_n hx hb dX8_asides_16 rfl (lv_at hl 0 rfl) ?_
    refine lv_aload_n hx hb dX8_asides_17 rfl (lv_at hl 0 rfl) ?_
    refine mg_18 hx hb hts hin8 hown hK hI hw_4 dX8_asides_18 ?_
    refine mp_25 hx hb hts hin8 hown hK hI hw_5 dX8_asides_21 (fun V3 H locs eV3 hI => ?_)
    replace hw := hw V3 eV3
    refine lv_aload_n hx hb dX8_asides_24 rfl (lv_at hl 0 rfl) ?_
    refine lv_aload_n hx hb dX8_asides_25 rfl (lv_at hl 0 rfl) ?_
    refine mg_19 hx hb hts hin8 hown hK hI hw_6 dX8_asides_26 ?_
    refine mp_26 hx hb hts hin8 hown hK hI hw_7 dX8_asides_29 (fun V4 H locs eV4 hI => ?_)
    replace hw := hw V4 eV4
    refine lv_aload_n hx hb dX8_asides_32 rfl (lv_at hl 0 rfl) ?_
    refine lv_aload_n hx hb dX8_asides_33 rfl (lv_at hl 0 rfl) ?_
    refine mg_20 hx hb hts hin8 hown hK hI hw_8 dX8_asides_34 ?_
    refine mp_27 hx hb hts hin8 hown hK hI hw_9 dX8_asides_37 (fun V5 H locs eV5 hI => ?_)
    replace hw := hw V5 eV5
    exact W.vret hx hb hr (x_retv hI hw) hI.2.2.2.2 dX8_asides_40
  exact hgo s.heap [] hI
def rm_X8_backs : Room := { frames := 1, cells := 0, slots := 0, locals := 24 }
set_option maxHeartbeats 4000000 in
set_option maxRecDepth 100000 in
theorem c_X8_backs (l : Launch) (g : GP) (ad : Nat → Nat) (sz : Nat) (V : VT)   (K : VT → Prop) (hw : wp_X8_backs V  K) : Met l yX8_backs wsX8_backs rm_X8_backs (va_Pc [.ref (ad 0)] (WPre 13 (cM g ad) ad g V sz)) (va_Qv K (WPost 13 (cM g ad) ad g) (AW ad 13 sz)) 0 0 (AW ad 13 sz) := by
  refine Met.ofW (cc := cX8_backs) (maxL := 1) (ret := none) (by decide) rfl ?_
  intro p e s m args below meth c s₁ B hml hv
  obtain ⟨ha, hv⟩ := hv
  obtain rfl := hv.1
  have hI : WI g 13 (cM g ad) ad V s.heap s.heap [] := WI.start hv
  have hK := hv.2.2.1
  have hE := hv.2.2.2.2
  have hx := B.exec
  have hb := B.bytes
  have hr := B.returns
  have hts := atoms_spec (ws := wsX8_backs) B.pre
  have hown : s.vm.findClass RX8 = some m.cls := findClass_of_methodNamed B.named
  have hlocks := B.notSynchronized
  have hw_0 := hts (.fieldLink RX8 205 "HoopLaneModel" "asideYard" "I") (by decide +kernel)
  have hw_1 := hts (.fieldLink RX8 208 "HoopLaneModel" "asidePace" "I") (by decide +kernel)
  have hw_2 := hts (.fieldLink RX8 211 "HoopLaneModel" "asideLean" "I") (by decide +kernel)
  have hw_3 := hts (.fieldLink RX8 214 "HoopLaneModel" "asideEnd" "I") (by decide +kernel)
  have hw_4 := hts (.fieldLink RX8 217 "HoopLaneModel" "asideMoment" "I") (by decide +kernel)
  have hw_5 := hts (.fieldLink RX8 144 "HoopLaneModel" "moment" "I") (by decide +kernel)
  have hin8 : ∀ w ∈ wsX80, w ∈ wsX8_backs := by decide +kernel
  have hl := lv_entry ([.ref (ad 0)]) (n := 1) (Nat.le_of_ble_eq_true rfl)
  have hent : entryFrame m args 1 = F0 m 0 ((lg_sl ([.ref (ad 0)]) ++ List.replicate (1 - (lg_sl ([.ref (ad 0)])).length) Slot.unset).toArray) [] := by rw [ha, lg_entry_eq]
  rw [hent]
  generalize (lg_sl ([.ref (ad 0)]) ++ List.replicate (1 - (lg_sl ([.ref (ad 0)])).length) Slot.unset).toArray = ls at hl ⊢
  have hl : lv_has ls 1 [(0, .ref (ad 0))] := hl
  obtain ⟨H, hH⟩ : ∃ H : Heap, H = s.heap := ⟨_, rfl⟩
  have hgo : ∀ (H : Heap) (locs : List Loc), WI g 13 (cM g ad) ad V s.heap H locs → W p l e (headSpec wsX8_backs rm_X8_backs).room s m args below meth c H locs 0 0 (MQ below (va_Qv K (WPost 13 (cM g ad) ad g) (AW ad 13 s.heap.size)) args s 0 0 (AW ad 13 s.heap.size)) (F0 m 0 ls []) := by
    intro H locs hI
    refine lv_aload_n hx hb dX8_backs_0 rfl (lv_at hl 0 rfl) ?_
    refine lv_aload_n hx hb dX8_backs_1 rfl (lv_at hl 0 rfl) ?_
    refine mg_23 hx hb hts hin8 hown hK hI hw_0 dX8_backs_2 ?_
    refine lv_aload_n hx hb dX8_backs_5 rfl (lv_at hl 0 rfl) ?_
    refine mg_24 hx hb hts hin8 hown hK hI hw_1 dX8_backs_6 ?_
    refine lv_aload_n hx hb dX8_backs_9 rfl (lv_at hl 0 rfl) ?_
    refine mg_25 hx hb hts hin8 hown hK hI hw_2 dX8_backs_10 ?_
    refine lv_aload_n hx hb dX8_backs_13 rfl (lv_at hl 0 rfl) ?_
    refine mg_26 hx hb hts hin8 hown hK hI hw_3 dX8_backs_14 ?_
    refine x_aftv (va_runV (As := [.int (V 0 23), .int (V 0 24), .int (V 0 25), .int (V 0 26)]) (rest := []) ⟨hx, hb, hml, hown, hts⟩ (c_X8_puts l g ad H.size V (V 0 23) (V 0 24) (V 0 25) (V 0 26) _ hw) (cwV 4 hts gX8_backs_X8_puts rfl rfl rfl (by decide +kernel) ⟨Nat.le_of_ble_eq_true rfl, Nat.le_of_ble_eq_true rfl⟩) (x_preV (k := 0) hK hE hI (by decide) rfl rfl) rfl rfl hl.1 rfl (lv_room (Nat.le_of_ble_eq_true rfl)) dX8_backs_17 ⟨Nat.zero_le _, Nat.zero_le _⟩) hI (fun V1 H locs hw hI => ?_)
    refine lv_aload_n hx hb dX8_backs_20 rfl (lv_at hl 0 rfl) ?_
    refine lv_aload_n hx hb dX8_backs_21 rfl (lv_at hl 0 rfl) ?_
    refine mg_27 hx hb hts hin8 hown hK hI hw_4 dX8_backs_22 ?_
    refine mp_20 hx hb hts hin8 hown hK hI hw_5 dX8_backs_25 (fun V2 H locs eV2 hI => ?_)
    replace hw := hw V2 eV2
    exact W.vret hx hb hr (x_retv hI hw) hI.2.2.2.2 dX8_backs_28
  exact hgo s.heap [] hI
def rm_X8_ahead : Room := { frames := 3, cells := 0, slots := 0, locals := 66 }
set_option maxHeartbeats 4000000 in
set_option maxRecDepth 100000 in
theorem c_X8_ahead (l : Launch) (g : GP) (ad : Nat → Nat) (sz : Nat) (V : VT) (x1 : Int32) (x2 : Int32)  (K : Int32 → VT → Prop) (hw : wp_X8_ahead V x1 x2 K) : Met l yX8_ahead wsX8_ahead rm_X8_ahead (va_Pc [.ref (ad 0), .int x1, .int x2] (WPre 13 (cM g ad) ad g V sz)) (va_Qi K (WPost 13 (cM g ad) ad g) (AW ad 13 sz)) 0 0 (AW ad 13 sz) := by
  refine Met.ofW (cc := cX8_ahead) (maxL := 4) (ret := (some .int)) (by decide) rfl ?_
  intro p e s m args below meth c s₁ B hml hv
  obtain ⟨ha, hv⟩ := hv
  obtain rfl := hv.1
  have hI : WI g 13 (cM g ad) ad V s.heap s.heap [] := WI.start hv
  have hK := hv.2.2.1
  have hE := hv.2.2.2.2
  have hx := B.exec
  have hb := B.bytes
  have hr := B.returns
  have hts := atoms_spec (ws := wsX8_ahead) B.pre
  have hown : s.vm.findClass RX8 = some m.cls := findClass_of_methodNamed B.named
  have hlocks := B.notSynchronized
  have hw_0 := hts (.fieldLink RX8 136 "HoopLaneModel" "isLane" "Z") (by decide +kernel)
  have hw_1 := hts (.constantLong RX8 220 (40)) (by decide +kernel)
  have hw_2 := hts (.constant RX8 64 (-1000001)) (by decide +kernel)
  have hw_3 := hts (.constantLong RX8 222 (3)) (by decide +kernel)
  have hw_4 := hts (.constant RX8 184 (-1000002)) (by decide +kernel)
  have hw_5 := hts (.fieldLink RX8 159 "HoopLaneModel" "end" "I") (by decide +kernel)
  have hin8 : ∀ w ∈ wsX80, w ∈ wsX8_ahead := by decide +kernel
  have hl := lv_entry ([.ref (ad 0), .int x1, .int x2]) (n := 4) (Nat.le_of_ble_eq_true rfl)
  have hent : entryFrame m args 4 = F0 m 0 ((lg_sl ([.ref (ad 0), .int x1, .int x2]) ++ List.replicate (4 - (lg_sl ([.ref (ad 0), .int x1, .int x2])).length) Slot.unset).toArray) [] := by rw [ha, lg_entry_eq]
  rw [hent]
  generalize (lg_sl ([.ref (ad 0), .int x1, .int x2]) ++ List.replicate (4 - (lg_sl ([.ref (ad 0), .int x1, .int x2])).length) Slot.unset).toArray = ls at hl ⊢
  have hl : lv_has ls 4 [(0, .ref (ad 0)), (1, .int x1), (2, .int x2)] := hl
  obtain ⟨H, hH⟩ : ∃ H : Heap, H = s.heap := ⟨_, rfl⟩
  have hb67 : ∀ (V : VT) (H : Heap) (locs : List Loc) (ls : Array Slot) (x2 : Int32), WI g 13 (cM g ad) ad V s.heap H locs → lv_has ls 4 [(0, .ref (ad 0)), (2, .int x2)] → wp_X8_ahead_b67 K  V x2 → W p l e (headSpec wsX8_ahead rm_X8_ahead).room s m args below meth c H locs 0 0 (MQ below (va_Qi K (WPost 13 (cM g ad) ad g) (AW ad 13 s.heap.size)) args s 0 0 (AW ad 13 s.heap.size)) (F0 m 67 ls []) := by
    intro V H locs ls x2  hI hl hw
    refine lv_aload_n hx hb dX8_ahead_67 rfl (lv_at hl 0 rfl) ?_
    refine lv_iload_n hx hb dX8_ahead_68 rfl (lv_at hl 1 rfl) ?_
    refine x_afti (va_runV (As := [.int x2]) (rest := []) ⟨hx, hb, hml, hown, hts⟩ (c_X8_hoopOf l g ad H.size V x2 _ hw) (cwV 1 hts gX8_ahead_X8_hoopOf rfl rfl rfl (by decide +kernel) ⟨Nat.le_of_ble_eq_true rfl, Nat.le_of_ble_eq_true rfl⟩) (x_preV (k := 0) hK hE hI (by decide) rfl rfl) rfl rfl hl.1 rfl (lv_room (Nat.le_of_ble_eq_true rfl)) dX8_ahead_69 ⟨Nat.zero_le _, Nat.zero_le _⟩) hI (fun r13 V12 H locs hw hI => ?_)
    refine lv_istore_n (lv' := [(3, .int r13), (0, .ref (ad 0)), (2, .int x2)]) hx hb dX8_ahead_72 rfl hl (by decide) rfl (fun ls hl => ?_)
    refine lv_aload_n hx hb dX8_ahead_73 rfl (lv_at hl 1 rfl) ?_
    refine x_aftv (va_runV (As := []) (rest := []) ⟨hx, hb, hml, hown, hts⟩ (c_X8_backs l g ad H.size V12  _ hw) (cwV 0 hts gX8_ahead_X8_backs rfl rfl rfl (by decide +kernel) ⟨Nat.le_of_ble_eq_true rfl, Nat.le_of_ble_eq_true rfl⟩) (x_preV (k := 0) hK hE hI (by decide) rfl rfl) rfl rfl hl.1 rfl (lv_room (Nat.le_of_ble_eq_true rfl)) dX8_ahead_74 ⟨Nat.zero_le _, Nat.zero_le _⟩) hI (fun V14 H locs hw hI => ?_)
    refine lv_iload_n hx hb dX8_ahead_77 rfl (lv_at hl 0 rfl) ?_
    exact W.iret (v := r13) hx hb hr (x_reti hI hw) hI.2.2.2.2 dX8_ahead_78
  have hL43 : ∀ (n43 : Nat) (V : VT) (H : Heap) (locs : List Loc) (ls : Array Slot) (x1 : Int32) (x2 : Int32) (x3 : Int32), WI g 13 (cM g ad) ad V s.heap H locs → lv_has ls 4 [(0, .ref (ad 0)), (1, .int x1), (2, .int x2), (3, .int x3)] → wp_X8_ahead_L43 K  n43 V x1 x2 x3 → W p l e (headSpec wsX8_ahead rm_X8_ahead).room s m args below meth c H locs 0 0 (MQ below (va_Qi K (WPost 13 (cM g ad) ad g) (AW ad 13 s.heap.size)) args s 0 0 (AW ad 13 s.heap.size)) (F0 m 43 ls []) := by
    intro n43
    induction n43 with
    | zero => intro V H locs ls x1 x2 x3  hI hl hw; exact False.elim hw
    | succ n43 ihL43 =>
      intro V H locs ls x1 x2 x3  hI hl hw
      refine lv_iload_n hx hb dX8_ahead_43 rfl (lv_at hl 3 rfl) ?_
      refine lv_iload_n hx hb dX8_ahead_44 rfl (lv_at hl 1 rfl) ?_
      refine lv_icmp_ge (tgt := 67) hx hb dX8_ahead_45 (by decide) (fun c9 => ?_) (fun c9 => ?_)
      · replace hw := hw.1 c9
        exact hb67 V H locs ls x2 hI (lv_sub hl [0, 2] rfl) hw
      · replace hw := hw.2 c9
        refine lv_aload_n hx hb dX8_ahead_48 rfl (lv_at hl 0 rfl) ?_
        refine mg_19 hx hb hts hin8 hown hK hI hw_5 dX8_ahead_49 ?_
        refine lv_if_ne (tgt := 67) hx hb dX8_ahead_52 (by decide) (fun c10 => ?_) (fun c10 => ?_)
        · replace hw := hw.1 c10
          exact hb67 V H locs ls x2 hI (lv_sub hl [0, 2] rfl) hw
        · replace hw := hw.2 c10
          refine lv_aload_n hx hb dX8_ahead_55 rfl (lv_at hl 0 rfl) ?_
          refine lv_iconst (v := (0 : Int32)) hx hb dX8_ahead_56 (by decide) ?_
          refine lv_iconst (v := (0 : Int32)) hx hb dX8_ahead_57 (by decide) ?_
          refine x_aftv (va_runV (As := [.int (0 : Int32), .int (0 : Int32)]) (rest := []) ⟨hx, hb, hml, hown, hts⟩ (c_X8_goes l g ad H.size V (0 : Int32) (0 : Int32) _ hw) (cwV 2 hts gX8_ahead_X8_goes rfl rfl rfl (by decide +kernel) ⟨Nat.le_of_ble_eq_true rfl, Nat.le_of_ble_eq_true rfl⟩) (x_preV (k := 0) hK hE hI (by decide) rfl rfl) rfl rfl hl.1 rfl (lv_room (Nat.le_of_ble_eq_true rfl)) dX8_ahead_58 ⟨Nat.zero_le _, Nat.zero_le _⟩) hI (fun V11 H locs hw hI => ?_)
          refine lv_iinc (v := (x3 + (1 : Int32))) (lv' := [(3, .int (x3 + (1 : Int32))), (0, .ref (ad 0)), (1, .int x1), (2, .int x2)]) hx hb dX8_ahead_61 hl (k := 3) rfl rfl (by decide) rfl (fun ls hl => ?_)
          refine lv_goto (tgt := 43) hx hb dX8_ahead_64 (by decide) ?_
          exact ihL43 V11 H locs ls x1 x2 (x3 + (1 : Int32)) hI (lv_sub hl [1, 2, 3, 0] rfl) hw
  have hgo : ∀ (H : Heap) (locs : List Loc), WI g 13 (cM g ad) ad V s.heap H locs → W p l e (headSpec wsX8_ahead rm_X8_ahead).room s m args below meth c H locs 0 0 (MQ below (va_Qi K (WPost 13 (cM g ad) ad g) (AW ad 13 s.heap.size)) args s 0 0 (AW ad 13 s.heap.size)) (F0 m 0 ls []) := by
    intro H locs hI
    refine lv_aload_n hx hb dX8_ahead_0 rfl (lv_at hl 0 rfl) ?_
    refine mg_15 hx hb hts hin8 hown hK hI hw_0 dX8_ahead_1 ?_
    refine lv_if_ne (tgt := 10) hx hb dX8_ahead_4 (by decide) (fun c1 => ?_) (fun c1 => ?_)
    · replace hw := hw.1 c1
      refine lv_iload_n hx hb dX8_ahead_10 rfl (lv_at hl 1 rfl) ?_
      refine lv_i2l (v := (x1).toInt64) hx hb dX8_ahead_11 rfl ?_
      refine lv_lconst (v := (0 : Int64)) hx hb dX8_ahead_12 (by decide) ?_
      refine lv_ldc2 (v := (40 : Int64)) hx hb hown hw_1 dX8_ahead_13 ?_
      refine x_afti (va_runS (As := [.long ((x1).toInt64), .long (0 : Int64), .long (40 : Int64)]) (rest := []) ⟨hx, hb, hml, hown, hts⟩ (c_X8_in l g ad H.size V ((x1).toInt64) (0 : Int64) (40 : Int64) _ hw) (cwS 3 hts gX8_ahead_X8_in rfl rfl rfl (by decide +kernel) ⟨Nat.le_of_ble_eq_true rfl, Nat.le_of_ble_eq_true rfl⟩) (x_preS hK hE hI) rfl rfl hl.1 rfl (lv_room (Nat.le_of_ble_eq_true rfl)) dX8_ahead_16 ⟨Nat.zero_le _, Nat.zero_le _⟩) hI (fun r3 V2 H locs hw hI => ?_)
      refine lv_if_eq (tgt := 34) hx hb dX8_ahead_19 (by decide) (fun c4 => ?_) (fun c4 => ?_)
      · replace hw := hw.1 c4
        refine lv_ldc (v := (-1000001 : Int32)) hx hb hown hw_2 dX8_ahead_34 ?_
        exact W.iret (v := (-1000001 : Int32)) hx hb hr (x_reti hI hw) hI.2.2.2.2 dX8_ahead_36
      · replace hw := hw.2 c4
        refine lv_iload_n hx hb dX8_ahead_22 rfl (lv_at hl 2 rfl) ?_
        refine lv_i2l (v := (x2).toInt64) hx hb dX8_ahead_23 rfl ?_
        refine lv_lconst (v := (0 : Int64)) hx hb dX8_ahead_24 (by decide) ?_
        refine lv_ldc2 (v := (3 : Int64)) hx hb hown hw_3 dX8_ahead_25 ?_
        refine x_afti (va_runS (As := [.long ((x2).toInt64), .long (0 : Int64), .long (3 : Int64)]) (rest := []) ⟨hx, hb, hml, hown, hts⟩ (c_X8_in l g ad H.size V2 ((x2).toInt64) (0 : Int64) (3 : Int64) _ hw) (cwS 3 hts gX8_ahead_X8_in rfl rfl rfl (by decide +kernel) ⟨Nat.le_of_ble_eq_true rfl, Nat.le_of_ble_eq_true rfl⟩) (x_preS hK hE hI) rfl rfl hl.1 rfl (lv_room (Nat.le_of_ble_eq_true rfl)) dX8_ahead_28 ⟨Nat.zero_le _, Nat.zero_le _⟩) hI (fun r6 V5 H locs hw hI => ?_)
        refine lv_if_ne (tgt := 37) hx hb dX8_ahead_31 (by decide) (fun c7 => ?_) (fun c7 => ?_)
        · replace hw := hw.1 c7
          refine lv_aload_n hx hb dX8_ahead_37 rfl (lv_at hl 0 rfl) ?_
          refine x_aftv (va_runV (As := []) (rest := []) ⟨hx, hb, hml, hown, hts⟩ (c_X8_asides l g ad H.size V5  _ hw) (cwV 0 hts gX8_ahead_X8_asides rfl rfl rfl (by decide +kernel) ⟨Nat.le_of_ble_eq_true rfl, Nat.le_of_ble_eq_true rfl⟩) (x_preV (k := 0) hK hE hI (by decide) rfl rfl) rfl rfl hl.1 rfl (lv_room (Nat.le_of_ble_eq_true rfl)) dX8_ahead_38 ⟨Nat.zero_le _, Nat.zero_le _⟩) hI (fun V8 H locs hw hI => ?_)
          refine lv_iconst (v := (0 : Int32)) hx hb dX8_ahead_41 (by decide) ?_
          refine lv_istore_n (lv' := [(3, .int (0 : Int32)), (0, .ref (ad 0)), (1, .int x1), (2, .int x2)]) hx hb dX8_ahead_42 rfl hl (by decide) rfl (fun ls hl => ?_)
          obtain ⟨n43, hw⟩ := hw
          exact hL43 n43 V8 H locs ls x1 x2 (0 : Int32) hI (lv_sub hl [1, 2, 3, 0] rfl) hw
        · replace hw := hw.2 c7
          refine lv_ldc (v := (-1000001 : Int32)) hx hb hown hw_2 dX8_ahead_34 ?_
          exact W.iret (v := (-1000001 : Int32)) hx hb hr (x_reti hI hw) hI.2.2.2.2 dX8_ahead_36
    · replace hw := hw.2 c1
      refine lv_ldc (v := (-1000002 : Int32)) hx hb hown hw_4 dX8_ahead_7 ?_
      exact W.iret (v := (-1000002 : Int32)) hx hb hr (x_reti hI hw) hI.2.2.2.2 dX8_ahead_9
  exact hgo s.heap [] hI
def rm_X8_place : Room := { frames := 0, cells := 0, slots := 0, locals := 0 }
set_option maxHeartbeats 4000000 in
set_option maxRecDepth 100000 in
theorem c_X8_place (l : Launch) (g : GP) (ad : Nat → Nat) (sz : Nat) (V : VT) (x0 : Int32) (x1 : Int32) (x2 : Int32)  (K : Int32 → VT → Prop) (hw : wp_X8_place V x0 x1 x2 K) : Met l yX8_place wsX8_place rm_X8_place (va_Pc [.int x0, .int x1, .int x2] (WPre 13 (cM g ad) ad g V sz)) (va_Qi K (WPost 13 (cM g ad) ad g) (AW ad 13 sz)) 0 0 (AW ad 13 sz) := by
  refine Met.ofW (cc := cX8_place) (maxL := 3) (ret := (some .int)) (by decide) rfl ?_
  intro p e s m args below meth c s₁ B hml hv
  obtain ⟨ha, hv⟩ := hv
  obtain rfl := hv.1
  have hI : WI g 13 (cM g ad) ad V s.heap s.heap [] := WI.start hv
  have hK := hv.2.2.1
  have hE := hv.2.2.2.2
  have hx := B.exec
  have hb := B.bytes
  have hr := B.returns
  have hts := atoms_spec (ws := wsX8_place) B.pre
  have hown : s.vm.findClass RX8 = some m.cls := findClass_of_methodNamed B.named
  have hlocks := B.notSynchronized
  have hl := lv_entry ([.int x0, .int x1, .int x2]) (n := 3) (Nat.le_of_ble_eq_true rfl)
  have hent : entryFrame m args 3 = F0 m 0 ((lg_sl ([.int x0, .int x1, .int x2]) ++ List.replicate (3 - (lg_sl ([.int x0, .int x1, .int x2])).length) Slot.unset).toArray) [] := by rw [ha, lg_entry_eq]
  rw [hent]
  generalize (lg_sl ([.int x0, .int x1, .int x2]) ++ List.replicate (3 - (lg_sl ([.int x0, .int x1, .int x2])).length) Slot.unset).toArray = ls at hl ⊢
  have hl : lv_has ls 3 [(0, .int x0), (1, .int x1), (2, .int x2)] := hl
  obtain ⟨H, hH⟩ : ∃ H : Heap, H = s.heap := ⟨_, rfl⟩
  have hgo : ∀ (H : Heap) (locs : List Loc), WI g 13 (cM g ad) ad V s.heap H locs → W p l e (headSpec wsX8_place rm_X8_place).room s m args below meth c H locs 0 0 (MQ below (va_Qi K (WPost 13 (cM g ad) ad g) (AW ad 13 s.heap.size)) args s 0 0 (AW ad 13 s.heap.size)) (F0 m 0 ls []) := by
    intro H locs hI
    refine lv_bipush (v := (110 : Int32)) hx hb dX8_place_0 (by decide) ?_
    refine lv_iload_n hx hb dX8_place_2 rfl (lv_at hl 0 rfl) ?_
    refine lv_imul hx hb dX8_place_3 ?_
    refine lv_bipush (v := (11 : Int32)) hx hb dX8_place_4 (by decide) ?_
    refine lv_iload_n hx hb dX8_place_6 rfl (lv_at hl 1 rfl) ?_
    refine lv_imul hx hb dX8_place_7 ?_
    refine lv_iadd hx hb dX8_place_8 ?_
    refine lv_iload_n hx hb dX8_place_9 rfl (lv_at hl 2 rfl) ?_
    refine lv_iadd hx hb dX8_place_10 ?_
    refine lv_iconst (v := (5 : Int32)) hx hb dX8_place_11 (by decide) ?_
    refine lv_iadd hx hb dX8_place_12 ?_
    exact W.iret (v := (((((110 : Int32) * x0) + ((11 : Int32) * x1)) + x2) + (5 : Int32))) hx hb hr (x_reti hI hw) hI.2.2.2.2 dX8_place_13
  exact hgo s.heap [] hI
def rm_X8_costs : Room := { frames := 4, cells := 0, slots := 0, locals := 87 }
set_option maxHeartbeats 4000000 in
set_option maxRecDepth 100000 in
theorem c_X8_costs (l : Launch) (g : GP) (ad : Nat → Nat) (sz : Nat) (V : VT) (x1 : Int32) (x2 : Int32) (x3 : Int32)  (K : Int32 → VT → Prop) (hw : wp_X8_costs V x1 x2 x3 K) : Met l yX8_costs wsX8_costs rm_X8_costs (va_Pc [.ref (ad 0), .int x1, .int x2, .int x3] (WPre 13 (cM g ad) ad g V sz)) (va_Qi K (WPost 13 (cM g ad) ad g) (AW ad 13 sz)) 0 0 (AW ad 13 sz) := by
  refine Met.ofW (cc := cX8_costs) (maxL := 5) (ret := (some .int)) (by decide) rfl ?_
  intro p e s m args below meth c s₁ B hml hv
  obtain ⟨ha, hv⟩ := hv
  obtain rfl := hv.1
  have hI : WI g 13 (cM g ad) ad V s.heap s.heap [] := WI.start hv
  have hK := hv.2.2.1
  have hE := hv.2.2.2.2
  have hx := B.exec
  have hb := B.bytes
  have hr := B.returns
  have hts := atoms_spec (ws := wsX8_costs) B.pre
  have hown : s.vm.findClass RX8 = some m.cls := findClass_of_methodNamed B.named
  have hlocks := B.notSynchronized
  have hw_0 := hts (.fieldLink RX8 159 "HoopLaneModel" "end" "I") (by decide +kernel)
  have hw_1 := hts (.fieldLink RX8 34 "HoopLaneModel" "least" "[I") (by decide +kernel)
  have hw_2 := hts (.fieldLink RX8 150 "HoopLaneModel" "yard" "I") (by decide +kernel)
  have hw_3 := hts (.fieldLink RX8 153 "HoopLaneModel" "pace" "I") (by decide +kernel)
  have hw_4 := hts (.fieldLink RX8 156 "HoopLaneModel" "lean" "I") (by decide +kernel)
  have hin8 : ∀ w ∈ wsX80, w ∈ wsX8_costs := by decide +kernel
  have hl := lv_entry ([.ref (ad 0), .int x1, .int x2, .int x3]) (n := 5) (Nat.le_of_ble_eq_true rfl)
  have hent : entryFrame m args 5 = F0 m 0 ((lg_sl ([.ref (ad 0), .int x1, .int x2, .int x3]) ++ List.replicate (5 - (lg_sl ([.ref (ad 0), .int x1, .int x2, .int x3])).length) Slot.unset).toArray) [] := by rw [ha, lg_entry_eq]
  rw [hent]
  generalize (lg_sl ([.ref (ad 0), .int x1, .int x2, .int x3]) ++ List.replicate (5 - (lg_sl ([.ref (ad 0), .int x1, .int x2, .int x3])).length) Slot.unset).toArray = ls at hl ⊢
  have hl : lv_has ls 5 [(0, .ref (ad 0)), (1, .int x1), (2, .int x2), (3, .int x3)] := hl
  obtain ⟨H, hH⟩ : ∃ H : Heap, H = s.heap := ⟨_, rfl⟩
  have hb40 : ∀ (V : VT) (H : Heap) (locs : List Loc) (ls : Array Slot) (s0 : Int32), WI g 13 (cM g ad) ad V s.heap H locs → lv_has ls 5 [(0, .ref (ad 0))] → wp_X8_costs_b40 K  V s0 → W p l e (headSpec wsX8_costs rm_X8_costs).room s m args below meth c H locs 0 0 (MQ below (va_Qi K (WPost 13 (cM g ad) ad g) (AW ad 13 s.heap.size)) args s 0 0 (AW ad 13 s.heap.size)) (F0 m 40 ls [.int s0]) := by
    intro V H locs ls s0  hI hl hw
    refine lv_istore (lv' := [(4, .int s0), (0, .ref (ad 0))]) hx hb dX8_costs_40 hl (by decide) rfl (fun ls hl => ?_)
    refine lv_aload_n hx hb dX8_costs_42 rfl (lv_at hl 1 rfl) ?_
    refine mg_19 hx hb hts hin8 hown hK hI hw_0 dX8_costs_43 ?_
    refine lv_iconst (v := (2 : Int32)) hx hb dX8_costs_46 (by decide) ?_
    refine lv_icmp_ne (tgt := 55) hx hb dX8_costs_47 (by decide) (fun c5 => ?_) (fun c5 => ?_)
    · replace hw := hw.1 c5
      refine lv_aload_n hx hb dX8_costs_55 rfl (lv_at hl 1 rfl) ?_
      refine mg_19 hx hb hts hin8 hown hK hI hw_0 dX8_costs_56 ?_
      refine lv_iconst (v := (1 : Int32)) hx hb dX8_costs_59 (by decide) ?_
      refine lv_icmp_ne (tgt := 69) hx hb dX8_costs_60 (by decide) (fun c6 => ?_) (fun c6 => ?_)
      · replace hw := hw.1 c6
        refine lv_iload hx hb dX8_costs_69 (lv_at hl 0 rfl) ?_
        refine lv_aload_n hx hb dX8_costs_71 rfl (lv_at hl 1 rfl) ?_
        refine mg_28 hx hb hts hin8 hown hK hI hw_1 dX8_costs_72 ?_
        refine lv_aload_n hx hb dX8_costs_75 rfl (lv_at hl 1 rfl) ?_
        refine mg_16 hx hb hts hin8 hown hK hI hw_2 dX8_costs_76 ?_
        refine lv_aload_n hx hb dX8_costs_79 rfl (lv_at hl 1 rfl) ?_
        refine mg_17 hx hb hts hin8 hown hK hI hw_3 dX8_costs_80 ?_
        refine lv_aload_n hx hb dX8_costs_83 rfl (lv_at hl 1 rfl) ?_
        refine mg_18 hx hb hts hin8 hown hK hI hw_4 dX8_costs_84 ?_
        refine x_afti (va_runS (As := [.int (V 0 16), .int (V 0 17), .int (V 0 18)]) (rest := [.ref (ad 9), .int s0]) ⟨hx, hb, hml, hown, hts⟩ (c_X8_place l g ad H.size V (V 0 16) (V 0 17) (V 0 18) _ hw) (cwS 3 hts gX8_costs_X8_place rfl rfl rfl (by decide +kernel) ⟨Nat.le_of_ble_eq_true rfl, Nat.le_of_ble_eq_true rfl⟩) (x_preS hK hE hI) rfl rfl hl.1 rfl (lv_room (Nat.le_of_ble_eq_true rfl)) dX8_costs_87 ⟨Nat.zero_le _, Nat.zero_le _⟩) hI (fun r8 V7 H locs hw hI => ?_)
        obtain ⟨h9, hw⟩ := hw
        refine x_iald (k := 9) hx hb hK hI (by decide) rfl h9 dX8_costs_90 ?_
        refine lv_iadd hx hb dX8_costs_91 ?_
        exact W.iret (v := (s0 + (V7 9 (r8).toNatClampNeg))) hx hb hr (x_reti hI hw) hI.2.2.2.2 dX8_costs_92
      · replace hw := hw.2 c6
        refine lv_sipush (v := (9999 : Int32)) hx hb dX8_costs_63 (by decide) ?_
        refine lv_goto (tgt := 92) hx hb dX8_costs_66 (by decide) ?_
        exact W.iret (v := (9999 : Int32)) hx hb hr (x_reti hI hw) hI.2.2.2.2 dX8_costs_92
    · replace hw := hw.2 c5
      refine lv_iload hx hb dX8_costs_50 (lv_at hl 0 rfl) ?_
      refine lv_goto (tgt := 92) hx hb dX8_costs_52 (by decide) ?_
      exact W.iret (v := s0) hx hb hr (x_reti hI hw) hI.2.2.2.2 dX8_costs_92
  have hb39 : ∀ (V : VT) (H : Heap) (locs : List Loc) (ls : Array Slot) , WI g 13 (cM g ad) ad V s.heap H locs → lv_has ls 5 [(0, .ref (ad 0))] → wp_X8_costs_b39 K  V  → W p l e (headSpec wsX8_costs rm_X8_costs).room s m args below meth c H locs 0 0 (MQ below (va_Qi K (WPost 13 (cM g ad) ad g) (AW ad 13 s.heap.size)) args s 0 0 (AW ad 13 s.heap.size)) (F0 m 39 ls []) := by
    intro V H locs ls   hI hl hw
    refine lv_iconst (v := (1 : Int32)) hx hb dX8_costs_39 (by decide) ?_
    exact hb40 V H locs ls (1 : Int32) hI (lv_sub hl [0] rfl) hw
  have hgo : ∀ (H : Heap) (locs : List Loc), WI g 13 (cM g ad) ad V s.heap H locs → W p l e (headSpec wsX8_costs rm_X8_costs).room s m args below meth c H locs 0 0 (MQ below (va_Qi K (WPost 13 (cM g ad) ad g) (AW ad 13 s.heap.size)) args s 0 0 (AW ad 13 s.heap.size)) (F0 m 0 ls []) := by
    intro H locs hI
    refine lv_aload_n hx hb dX8_costs_0 rfl (lv_at hl 0 rfl) ?_
    refine lv_iload_n hx hb dX8_costs_1 rfl (lv_at hl 1 rfl) ?_
    refine lv_bipush (v := (110 : Int32)) hx hb dX8_costs_2 (by decide) ?_
    refine lv_idiv hx hb dX8_costs_4 (by decide) ?_
    refine lv_iload_n hx hb dX8_costs_5 rfl (lv_at hl 1 rfl) ?_
    refine lv_bipush (v := (11 : Int32)) hx hb dX8_costs_6 (by decide) ?_
    refine lv_idiv hx hb dX8_costs_8 (by decide) ?_
    refine lv_bipush (v := (10 : Int32)) hx hb dX8_costs_9 (by decide) ?_
    refine lv_irem hx hb dX8_costs_11 (by decide) ?_
    refine lv_iload_n hx hb dX8_costs_12 rfl (lv_at hl 1 rfl) ?_
    refine lv_bipush (v := (11 : Int32)) hx hb dX8_costs_13 (by decide) ?_
    refine lv_irem hx hb dX8_costs_15 (by decide) ?_
    refine lv_iconst (v := (5 : Int32)) hx hb dX8_costs_16 (by decide) ?_
    refine lv_isub hx hb dX8_costs_17 ?_
    refine lv_iconst (v := (0 : Int32)) hx hb dX8_costs_18 (by decide) ?_
    refine x_aftv (va_runV (As := [.int (x1 / (110 : Int32)), .int ((x1 / (11 : Int32)) - (x1 / (11 : Int32)) / (10 : Int32) * (10 : Int32)), .int ((x1 - x1 / (11 : Int32) * (11 : Int32)) - (5 : Int32)), .int (0 : Int32)]) (rest := []) ⟨hx, hb, hml, hown, hts⟩ (c_X8_puts l g ad H.size V (x1 / (110 : Int32)) ((x1 / (11 : Int32)) - (x1 / (11 : Int32)) / (10 : Int32) * (10 : Int32)) ((x1 - x1 / (11 : Int32) * (11 : Int32)) - (5 : Int32)) (0 : Int32) _ hw) (cwV 4 hts gX8_costs_X8_puts rfl rfl rfl (by decide +kernel) ⟨Nat.le_of_ble_eq_true rfl, Nat.le_of_ble_eq_true rfl⟩) (x_preV (k := 0) hK hE hI (by decide) rfl rfl) rfl rfl hl.1 rfl (lv_room (Nat.le_of_ble_eq_true rfl)) dX8_costs_19 ⟨Nat.zero_le _, Nat.zero_le _⟩) hI (fun V1 H locs hw hI => ?_)
    refine lv_aload_n hx hb dX8_costs_22 rfl (lv_at hl 0 rfl) ?_
    refine lv_iload_n hx hb dX8_costs_23 rfl (lv_at hl 2 rfl) ?_
    refine x_aftv (va_runV (As := [.int x2]) (rest := []) ⟨hx, hb, hml, hown, hts⟩ (c_X8_goesWith l g ad H.size V1 x2 _ hw) (cwV 1 hts gX8_costs_X8_goesWith rfl rfl rfl (by decide +kernel) ⟨Nat.le_of_ble_eq_true rfl, Nat.le_of_ble_eq_true rfl⟩) (x_preV (k := 0) hK hE hI (by decide) rfl rfl) rfl rfl hl.1 rfl (lv_room (Nat.le_of_ble_eq_true rfl)) dX8_costs_24 ⟨Nat.zero_le _, Nat.zero_le _⟩) hI (fun V2 H locs hw hI => ?_)
    refine lv_iload_n hx hb dX8_costs_27 rfl (lv_at hl 3 rfl) ?_
    refine lv_if_eq (tgt := 39) hx hb dX8_costs_28 (by decide) (fun c3 => ?_) (fun c3 => ?_)
    · replace hw := hw.1 c3
      exact hb39 V2 H locs ls  hI (lv_sub hl [0] rfl) hw
    · replace hw := hw.2 c3
      refine lv_iload_n hx hb dX8_costs_31 rfl (lv_at hl 2 rfl) ?_
      refine lv_if_ge (tgt := 39) hx hb dX8_costs_32 (by decide) (fun c4 => ?_) (fun c4 => ?_)
      · replace hw := hw.1 c4
        exact hb39 V2 H locs ls  hI (lv_sub hl [0] rfl) hw
      · replace hw := hw.2 c4
        refine lv_iconst (v := (0 : Int32)) hx hb dX8_costs_35 (by decide) ?_
        refine lv_goto (tgt := 40) hx hb dX8_costs_36 (by decide) ?_
        exact hb40 V2 H locs ls (0 : Int32) hI (lv_sub hl [0] rfl) hw
  exact hgo s.heap [] hI
def rm_X8_works : Room := { frames := 5, cells := 0, slots := 0, locals := 111 }
set_option maxHeartbeats 4000000 in
set_option maxRecDepth 100000 in
theorem c_X8_works (l : Launch) (g : GP) (ad : Nat → Nat) (sz : Nat) (V : VT) (x1 : Int32)  (K : VT → Prop) (hw : wp_X8_works V x1 K) : Met l yX8_works wsX8_works rm_X8_works (va_Pc [.ref (ad 0), .int x1] (WPre 13 (cM g ad) ad g V sz)) (va_Qv K (WPost 13 (cM g ad) ad g) (AW ad 13 sz)) 0 0 (AW ad 13 sz) := by
  refine Met.ofW (cc := cX8_works) (maxL := 6) (ret := none) (by decide) rfl ?_
  intro p e s m args below meth c s₁ B hml hv
  obtain ⟨ha, hv⟩ := hv
  obtain rfl := hv.1
  have hI : WI g 13 (cM g ad) ad V s.heap s.heap [] := WI.start hv
  have hK := hv.2.2.1
  have hE := hv.2.2.2.2
  have hx := B.exec
  have hb := B.bytes
  have hr := B.returns
  have hts := atoms_spec (ws := wsX8_works) B.pre
  have hown : s.vm.findClass RX8 = some m.cls := findClass_of_methodNamed B.named
  have hlocks := B.notSynchronized
  have hw_0 := hts (.fieldLink RX8 22 "HoopLaneModel" "lane" "[I") (by decide +kernel)
  have hw_1 := hts (.fieldLink RX8 34 "HoopLaneModel" "least" "[I") (by decide +kernel)
  have hin8 : ∀ w ∈ wsX80, w ∈ wsX8_works := by decide +kernel
  have hl := lv_entry ([.ref (ad 0), .int x1]) (n := 6) (Nat.le_of_ble_eq_true rfl)
  have hent : entryFrame m args 6 = F0 m 0 ((lg_sl ([.ref (ad 0), .int x1]) ++ List.replicate (6 - (lg_sl ([.ref (ad 0), .int x1])).length) Slot.unset).toArray) [] := by rw [ha, lg_entry_eq]
  rw [hent]
  generalize (lg_sl ([.ref (ad 0), .int x1]) ++ List.replicate (6 - (lg_sl ([.ref (ad 0), .int x1])).length) Slot.unset).toArray = ls at hl ⊢
  have hl : lv_has ls 6 [(0, .ref (ad 0)), (1, .int x1)] := hl
  obtain ⟨H, hH⟩ : ∃ H : Heap, H = s.heap := ⟨_, rfl⟩
  have hL16 : ∀ (n16 : Nat) (V : VT) (H : Heap) (locs : List Loc) (ls : Array Slot) (x1 : Int32) (x2 : Int32), WI g 13 (cM g ad) ad V s.heap H locs → lv_has ls 6 [(0, .ref (ad 0)), (1, .int x1), (2, .int x2)] → wp_X8_works_L16 K  n16 V x1 x2 → W p l e (headSpec wsX8_works rm_X8_works).room s m args below meth c H locs 0 0 (MQ below (va_Qv K (WPost 13 (cM g ad) ad g) (AW ad 13 s.heap.size)) args s 0 0 (AW ad 13 s.heap.size)) (F0 m 16 ls []) := by
    intro n16
    induction n16 with
    | zero => intro V H locs ls x1 x2  hI hl hw; exact False.elim hw
    | succ n16 ihL16 =>
      have hL27 : ∀ (n27 : Nat) (V : VT) (H : Heap) (locs : List Loc) (ls : Array Slot) (x1 : Int32) (x2 : Int32) (x3 : Int32) (x4 : Int32), WI g 13 (cM g ad) ad V s.heap H locs → lv_has ls 6 [(0, .ref (ad 0)), (1, .int x1), (2, .int x2), (3, .int x3), (4, .int x4)] → wp_X8_works_L27 K (wp_X8_works_L16 K  n16) n27 V x1 x2 x3 x4 → W p l e (headSpec wsX8_works rm_X8_works).room s m args below meth c H locs 0 0 (MQ below (va_Qv K (WPost 13 (cM g ad) ad g) (AW ad 13 s.heap.size)) args s 0 0 (AW ad 13 s.heap.size)) (F0 m 27 ls []) := by
        intro n27
        induction n27 with
        | zero => intro V H locs ls x1 x2 x3 x4  hI hl hw; exact False.elim hw
        | succ n27 ihL27 =>
          have hb60 : ∀ (V : VT) (H : Heap) (locs : List Loc) (ls : Array Slot) (x1 : Int32) (x2 : Int32) (x4 : Int32) (s0 : Int32), WI g 13 (cM g ad) ad V s.heap H locs → lv_has ls 6 [(0, .ref (ad 0)), (1, .int x1), (2, .int x2), (4, .int x4)] → wp_X8_works_b60 K (wp_X8_works_L27 K (wp_X8_works_L16 K  n16) n27) (wp_X8_works_L16 K  n16) V x1 x2 x4 s0 → W p l e (headSpec wsX8_works rm_X8_works).room s m args below meth c H locs 0 0 (MQ below (va_Qv K (WPost 13 (cM g ad) ad g) (AW ad 13 s.heap.size)) args s 0 0 (AW ad 13 s.heap.size)) (F0 m 60 ls [.int s0]) := by
            intro V H locs ls x1 x2 x4 s0  hI hl hw
            refine lv_istore_n (lv' := [(3, .int s0), (0, .ref (ad 0)), (1, .int x1), (2, .int x2), (4, .int x4)]) hx hb dX8_works_60 rfl hl (by decide) rfl (fun ls hl => ?_)
            refine lv_iinc (v := (x4 + (1 : Int32))) (lv' := [(4, .int (x4 + (1 : Int32))), (3, .int s0), (0, .ref (ad 0)), (1, .int x1), (2, .int x2)]) hx hb dX8_works_61 hl (k := 4) rfl rfl (by decide) rfl (fun ls hl => ?_)
            refine lv_goto (tgt := 27) hx hb dX8_works_64 (by decide) ?_
            exact ihL27 V H locs ls x1 x2 s0 (x4 + (1 : Int32)) hI (lv_sub hl [2, 3, 4, 1, 0] rfl) hw
          intro V H locs ls x1 x2 x3 x4  hI hl hw
          refine lv_iload hx hb dX8_works_27 (lv_at hl 4 rfl) ?_
          refine lv_aload_n hx hb dX8_works_29 rfl (lv_at hl 0 rfl) ?_
          refine mg_5 hx hb hts hin8 hown hK hI hw_0 dX8_works_30 ?_
          refine lv_iconst (v := (1 : Int32)) hx hb dX8_works_33 (by decide) ?_
          obtain ⟨h5, hw⟩ := hw
          refine x_iald (k := 5) hx hb hK hI (by decide) rfl h5 dX8_works_34 ?_
          refine lv_icmp_ge (tgt := 67) hx hb dX8_works_35 (by decide) (fun c6 => ?_) (fun c6 => ?_)
          · replace hw := hw.1 c6
            refine lv_aload_n hx hb dX8_works_67 rfl (lv_at hl 0 rfl) ?_
            refine mg_28 hx hb hts hin8 hown hK hI hw_1 dX8_works_68 ?_
            refine lv_iload_n hx hb dX8_works_71 rfl (lv_at hl 2 rfl) ?_
            refine lv_iload_n hx hb dX8_works_72 rfl (lv_at hl 3 rfl) ?_
            obtain ⟨h7, hw⟩ := hw
            refine x_iastV (k := 9) hx hb hK hI (cM_loc g ad) (by decide) (fun _ => rfl) h7 dX8_works_73 (fun V8 H locs eV8 hI => ?_)
            replace hw := hw V8 eV8
            refine lv_iinc (v := (x2 + (-1 : Int32))) (lv' := [(2, .int (x2 + (-1 : Int32))), (0, .ref (ad 0)), (1, .int x1), (3, .int x3), (4, .int x4)]) hx hb dX8_works_74 hl (k := 2) rfl rfl (by decide) rfl (fun ls hl => ?_)
            refine lv_goto (tgt := 16) hx hb dX8_works_77 (by decide) ?_
            exact ihL16 V8 H locs ls x1 (x2 + (-1 : Int32)) hI (lv_sub hl [1, 2, 0] rfl) hw
          · replace hw := hw.2 c6
            refine lv_aload_n hx hb dX8_works_38 rfl (lv_at hl 0 rfl) ?_
            refine lv_iload_n hx hb dX8_works_39 rfl (lv_at hl 2 rfl) ?_
            refine lv_iload hx hb dX8_works_40 (lv_at hl 4 rfl) ?_
            refine lv_iload_n hx hb dX8_works_42 rfl (lv_at hl 1 rfl) ?_
            refine x_afti (va_runV (As := [.int x2, .int x4, .int x1]) (rest := []) ⟨hx, hb, hml, hown, hts⟩ (c_X8_costs l g ad H.size V x2 x4 x1 _ hw) (cwV 3 hts gX8_works_X8_costs rfl rfl rfl (by decide +kernel) ⟨Nat.le_of_ble_eq_true rfl, Nat.le_of_ble_eq_true rfl⟩) (x_preV (k := 0) hK hE hI (by decide) rfl rfl) rfl rfl hl.1 rfl (lv_room (Nat.le_of_ble_eq_true rfl)) dX8_works_43 ⟨Nat.zero_le _, Nat.zero_le _⟩) hI (fun r10 V9 H locs hw hI => ?_)
            refine lv_istore (lv' := [(5, .int r10), (0, .ref (ad 0)), (1, .int x1), (2, .int x2), (3, .int x3), (4, .int x4)]) hx hb dX8_works_46 hl (by decide) rfl (fun ls hl => ?_)
            refine lv_iload hx hb dX8_works_48 (lv_at hl 0 rfl) ?_
            refine lv_iload_n hx hb dX8_works_50 rfl (lv_at hl 4 rfl) ?_
            refine lv_icmp_ge (tgt := 59) hx hb dX8_works_51 (by decide) (fun c11 => ?_) (fun c11 => ?_)
            · replace hw := hw.1 c11
              refine lv_iload_n hx hb dX8_works_59 rfl (lv_at hl 4 rfl) ?_
              exact hb60 V9 H locs ls x1 x2 x4 x3 hI (lv_sub hl [1, 2, 3, 5] rfl) hw
            · replace hw := hw.2 c11
              refine lv_iload hx hb dX8_works_54 (lv_at hl 0 rfl) ?_
              refine lv_goto (tgt := 60) hx hb dX8_works_56 (by decide) ?_
              exact hb60 V9 H locs ls x1 x2 x4 r10 hI (lv_sub hl [1, 2, 3, 5] rfl) hw
      intro V H locs ls x1 x2  hI hl hw
      refine lv_iload_n hx hb dX8_works_16 rfl (lv_at hl 2 rfl) ?_
      refine lv_if_lt (tgt := 80) hx hb dX8_works_17 (by decide) (fun c3 => ?_) (fun c3 => ?_)
      · replace hw := hw.1 c3
        refine lv_aload_n hx hb dX8_works_80 rfl (lv_at hl 0 rfl) ?_
        refine x_aftv (va_runV (As := []) (rest := []) ⟨hx, hb, hml, hown, hts⟩ (c_X8_backs l g ad H.size V  _ hw) (cwV 0 hts gX8_works_X8_backs rfl rfl rfl (by decide +kernel) ⟨Nat.le_of_ble_eq_true rfl, Nat.le_of_ble_eq_true rfl⟩) (x_preV (k := 0) hK hE hI (by decide) rfl rfl) rfl rfl hl.1 rfl (lv_room (Nat.le_of_ble_eq_true rfl)) dX8_works_81 ⟨Nat.zero_le _, Nat.zero_le _⟩) hI (fun V4 H locs hw hI => ?_)
        exact W.vret hx hb hr (x_retv hI hw) hI.2.2.2.2 dX8_works_84
      · replace hw := hw.2 c3
        refine lv_sipush (v := (9999 : Int32)) hx hb dX8_works_20 (by decide) ?_
        refine lv_istore_n (lv' := [(3, .int (9999 : Int32)), (0, .ref (ad 0)), (1, .int x1), (2, .int x2)]) hx hb dX8_works_23 rfl hl (by decide) rfl (fun ls hl => ?_)
        refine lv_iconst (v := (-1 : Int32)) hx hb dX8_works_24 (by decide) ?_
        refine lv_istore (lv' := [(4, .int (-1 : Int32)), (3, .int (9999 : Int32)), (0, .ref (ad 0)), (1, .int x1), (2, .int x2)]) hx hb dX8_works_25 hl (by decide) rfl (fun ls hl => ?_)
        obtain ⟨n27, hw⟩ := hw
        exact hL27 n27 V H locs ls x1 x2 (9999 : Int32) (-1 : Int32) hI (lv_sub hl [2, 3, 4, 1, 0] rfl) hw
  have hgo : ∀ (H : Heap) (locs : List Loc), WI g 13 (cM g ad) ad V s.heap H locs → W p l e (headSpec wsX8_works rm_X8_works).room s m args below meth c H locs 0 0 (MQ below (va_Qv K (WPost 13 (cM g ad) ad g) (AW ad 13 s.heap.size)) args s 0 0 (AW ad 13 s.heap.size)) (F0 m 0 ls []) := by
    intro H locs hI
    refine lv_aload_n hx hb dX8_works_0 rfl (lv_at hl 0 rfl) ?_
    refine x_aftv (va_runV (As := []) (rest := []) ⟨hx, hb, hml, hown, hts⟩ (c_X8_asides l g ad H.size V  _ hw) (cwV 0 hts gX8_works_X8_asides rfl rfl rfl (by decide +kernel) ⟨Nat.le_of_ble_eq_true rfl, Nat.le_of_ble_eq_true rfl⟩) (x_preV (k := 0) hK hE hI (by decide) rfl rfl) rfl rfl hl.1 rfl (lv_room (Nat.le_of_ble_eq_true rfl)) dX8_works_1 ⟨Nat.zero_le _, Nat.zero_le _⟩) hI (fun V1 H locs hw hI => ?_)
    refine lv_bipush (v := (110 : Int32)) hx hb dX8_works_4 (by decide) ?_
    refine lv_aload_n hx hb dX8_works_6 rfl (lv_at hl 0 rfl) ?_
    refine mg_5 hx hb hts hin8 hown hK hI hw_0 dX8_works_7 ?_
    refine lv_iconst (v := (0 : Int32)) hx hb dX8_works_10 (by decide) ?_
    obtain ⟨h2, hw⟩ := hw
    refine x_iald (k := 5) hx hb hK hI (by decide) rfl h2 dX8_works_11 ?_
    refine lv_imul hx hb dX8_works_12 ?_
    refine lv_iconst (v := (1 : Int32)) hx hb dX8_works_13 (by decide) ?_
    refine lv_isub hx hb dX8_works_14 ?_
    refine lv_istore_n (lv' := [(2, .int (((110 : Int32) * (V1 5 ((0 : Int32)).toNatClampNeg)) - (1 : Int32))), (0, .ref (ad 0)), (1, .int x1)]) hx hb dX8_works_15 rfl hl (by decide) rfl (fun ls hl => ?_)
    obtain ⟨n16, hw⟩ := hw
    exact hL16 n16 V1 H locs ls x1 (((110 : Int32) * (V1 5 ((0 : Int32)).toNatClampNeg)) - (1 : Int32)) hI (lv_sub hl [1, 2, 0] rfl) hw
  exact hgo s.heap [] hI
def rm_X8_way : Room := { frames := 6, cells := 0, slots := 0, locals := 136 }
set_option maxHeartbeats 4000000 in
set_option maxRecDepth 100000 in
theorem c_X8_way (l : Launch) (g : GP) (ad : Nat → Nat) (sz : Nat) (V : VT) (x1 : Int32) (x2 : Int32)  (K : Int32 → VT → Prop) (hw : wp_X8_way V x1 x2 K) : Met l yX8_way wsX8_way rm_X8_way (va_Pc [.ref (ad 0), .int x1, .int x2] (WPre 13 (cM g ad) ad g V sz)) (va_Qi K (WPost 13 (cM g ad) ad g) (AW ad 13 sz)) 0 0 (AW ad 13 sz) := by
  refine Met.ofW (cc := cX8_way) (maxL := 5) (ret := (some .int)) (by decide) rfl ?_
  intro p e s m args below meth c s₁ B hml hv
  obtain ⟨ha, hv⟩ := hv
  obtain rfl := hv.1
  have hI : WI g 13 (cM g ad) ad V s.heap s.heap [] := WI.start hv
  have hK := hv.2.2.1
  have hE := hv.2.2.2.2
  have hx := B.exec
  have hb := B.bytes
  have hr := B.returns
  have hts := atoms_spec (ws := wsX8_way) B.pre
  have hown : s.vm.findClass RX8 = some m.cls := findClass_of_methodNamed B.named
  have hlocks := B.notSynchronized
  have hw_0 := hts (.fieldLink RX8 159 "HoopLaneModel" "end" "I") (by decide +kernel)
  have hw_1 := hts (.fieldLink RX8 150 "HoopLaneModel" "yard" "I") (by decide +kernel)
  have hw_2 := hts (.fieldLink RX8 153 "HoopLaneModel" "pace" "I") (by decide +kernel)
  have hw_3 := hts (.fieldLink RX8 156 "HoopLaneModel" "lean" "I") (by decide +kernel)
  have hw_4 := hts (.fieldLink RX8 34 "HoopLaneModel" "least" "[I") (by decide +kernel)
  have hw_5 := hts (.constant RX8 237 (-1000000)) (by decide +kernel)
  have hin8 : ∀ w ∈ wsX80, w ∈ wsX8_way := by decide +kernel
  have hl := lv_entry ([.ref (ad 0), .int x1, .int x2]) (n := 5) (Nat.le_of_ble_eq_true rfl)
  have hent : entryFrame m args 5 = F0 m 0 ((lg_sl ([.ref (ad 0), .int x1, .int x2]) ++ List.replicate (5 - (lg_sl ([.ref (ad 0), .int x1, .int x2])).length) Slot.unset).toArray) [] := by rw [ha, lg_entry_eq]
  rw [hent]
  generalize (lg_sl ([.ref (ad 0), .int x1, .int x2]) ++ List.replicate (5 - (lg_sl ([.ref (ad 0), .int x1, .int x2])).length) Slot.unset).toArray = ls at hl ⊢
  have hl : lv_has ls 5 [(0, .ref (ad 0)), (1, .int x1), (2, .int x2)] := hl
  obtain ⟨H, hH⟩ : ∃ H : Heap, H = s.heap := ⟨_, rfl⟩
  have hL76 : ∀ (n76 : Nat) (V : VT) (H : Heap) (locs : List Loc) (ls : Array Slot) (x1 : Int32) (x3 : Int32) (x4 : Int32), WI g 13 (cM g ad) ad V s.heap H locs → lv_has ls 5 [(0, .ref (ad 0)), (1, .int x1), (3, .int x3), (4, .int x4)] → wp_X8_way_L76 K  n76 V x1 x3 x4 → W p l e (headSpec wsX8_way rm_X8_way).room s m args below meth c H locs 0 0 (MQ below (va_Qi K (WPost 13 (cM g ad) ad g) (AW ad 13 s.heap.size)) args s 0 0 (AW ad 13 s.heap.size)) (F0 m 76 ls []) := by
    intro n76
    induction n76 with
    | zero => intro V H locs ls x1 x3 x4  hI hl hw; exact False.elim hw
    | succ n76 ihL76 =>
      intro V H locs ls x1 x3 x4  hI hl hw
      refine lv_aload_n hx hb dX8_way_76 rfl (lv_at hl 0 rfl) ?_
      refine lv_iload_n hx hb dX8_way_77 rfl (lv_at hl 2 rfl) ?_
      refine lv_iload hx hb dX8_way_78 (lv_at hl 3 rfl) ?_
      refine lv_iload_n hx hb dX8_way_80 rfl (lv_at hl 1 rfl) ?_
      refine x_afti (va_runV (As := [.int x3, .int x4, .int x1]) (rest := []) ⟨hx, hb, hml, hown, hts⟩ (c_X8_costs l g ad H.size V x3 x4 x1 _ hw) (cwV 3 hts gX8_way_X8_costs rfl rfl rfl (by decide +kernel) ⟨Nat.le_of_ble_eq_true rfl, Nat.le_of_ble_eq_true rfl⟩) (x_preV (k := 0) hK hE hI (by decide) rfl rfl) rfl rfl hl.1 rfl (lv_room (Nat.le_of_ble_eq_true rfl)) dX8_way_81 ⟨Nat.zero_le _, Nat.zero_le _⟩) hI (fun r12 V11 H locs hw hI => ?_)
      refine lv_aload_n hx hb dX8_way_84 rfl (lv_at hl 0 rfl) ?_
      refine mg_28 hx hb hts hin8 hown hK hI hw_4 dX8_way_85 ?_
      refine lv_iload_n hx hb dX8_way_88 rfl (lv_at hl 2 rfl) ?_
      obtain ⟨h13, hw⟩ := hw
      refine x_iald (k := 9) hx hb hK hI (by decide) rfl h13 dX8_way_89 ?_
      refine lv_icmp_eq (tgt := 99) hx hb dX8_way_90 (by decide) (fun c14 => ?_) (fun c14 => ?_)
      · replace hw := hw.1 c14
        refine lv_aload_n hx hb dX8_way_99 rfl (lv_at hl 0 rfl) ?_
        refine x_aftv (va_runV (As := []) (rest := []) ⟨hx, hb, hml, hown, hts⟩ (c_X8_backs l g ad H.size V11  _ hw) (cwV 0 hts gX8_way_X8_backs rfl rfl rfl (by decide +kernel) ⟨Nat.le_of_ble_eq_true rfl, Nat.le_of_ble_eq_true rfl⟩) (x_preV (k := 0) hK hE hI (by decide) rfl rfl) rfl rfl hl.1 rfl (lv_room (Nat.le_of_ble_eq_true rfl)) dX8_way_100 ⟨Nat.zero_le _, Nat.zero_le _⟩) hI (fun V15 H locs hw hI => ?_)
        refine lv_iload hx hb dX8_way_103 (lv_at hl 3 rfl) ?_
        refine lv_if_ge (tgt := 113) hx hb dX8_way_105 (by decide) (fun c16 => ?_) (fun c16 => ?_)
        · replace hw := hw.1 c16
          refine lv_iload hx hb dX8_way_113 (lv_at hl 3 rfl) ?_
          exact W.iret (v := x4) hx hb hr (x_reti hI hw) hI.2.2.2.2 dX8_way_115
        · replace hw := hw.2 c16
          refine lv_ldc (v := (-1000000 : Int32)) hx hb hown hw_5 dX8_way_108 ?_
          refine lv_goto (tgt := 115) hx hb dX8_way_110 (by decide) ?_
          exact W.iret (v := (-1000000 : Int32)) hx hb hr (x_reti hI hw) hI.2.2.2.2 dX8_way_115
      · replace hw := hw.2 c14
        refine lv_iinc (v := (x4 + (1 : Int32))) (lv' := [(4, .int (x4 + (1 : Int32))), (0, .ref (ad 0)), (1, .int x1), (3, .int x3)]) hx hb dX8_way_93 hl (k := 3) rfl rfl (by decide) rfl (fun ls hl => ?_)
        refine lv_goto (tgt := 76) hx hb dX8_way_96 (by decide) ?_
        exact ihL76 V11 H locs ls x1 x3 (x4 + (1 : Int32)) hI (lv_sub hl [1, 2, 3, 0] rfl) hw
  have hgo : ∀ (H : Heap) (locs : List Loc), WI g 13 (cM g ad) ad V s.heap H locs → W p l e (headSpec wsX8_way rm_X8_way).room s m args below meth c H locs 0 0 (MQ below (va_Qi K (WPost 13 (cM g ad) ad g) (AW ad 13 s.heap.size)) args s 0 0 (AW ad 13 s.heap.size)) (F0 m 0 ls []) := by
    intro H locs hI
    refine lv_aload_n hx hb dX8_way_0 rfl (lv_at hl 0 rfl) ?_
    refine mg_19 hx hb hts hin8 hown hK hI hw_0 dX8_way_1 ?_
    refine lv_if_eq (tgt := 26) hx hb dX8_way_4 (by decide) (fun c1 => ?_) (fun c1 => ?_)
    · replace hw := hw.1 c1
      refine lv_aload_n hx hb dX8_way_26 rfl (lv_at hl 0 rfl) ?_
      refine lv_iload_n hx hb dX8_way_27 rfl (lv_at hl 1 rfl) ?_
      refine x_aftv (va_runV (As := [.int x1]) (rest := []) ⟨hx, hb, hml, hown, hts⟩ (c_X8_works l g ad H.size V x1 _ hw) (cwV 1 hts gX8_way_X8_works rfl rfl rfl (by decide +kernel) ⟨Nat.le_of_ble_eq_true rfl, Nat.le_of_ble_eq_true rfl⟩) (x_preV (k := 0) hK hE hI (by decide) rfl rfl) rfl rfl hl.1 rfl (lv_room (Nat.le_of_ble_eq_true rfl)) dX8_way_28 ⟨Nat.zero_le _, Nat.zero_le _⟩) hI (fun V2 H locs hw hI => ?_)
      refine lv_aload_n hx hb dX8_way_31 rfl (lv_at hl 0 rfl) ?_
      refine mg_16 hx hb hts hin8 hown hK hI hw_1 dX8_way_32 ?_
      refine lv_aload_n hx hb dX8_way_35 rfl (lv_at hl 0 rfl) ?_
      refine mg_17 hx hb hts hin8 hown hK hI hw_2 dX8_way_36 ?_
      refine lv_aload_n hx hb dX8_way_39 rfl (lv_at hl 0 rfl) ?_
      refine mg_18 hx hb hts hin8 hown hK hI hw_3 dX8_way_40 ?_
      refine x_afti (va_runS (As := [.int (V2 0 16), .int (V2 0 17), .int (V2 0 18)]) (rest := []) ⟨hx, hb, hml, hown, hts⟩ (c_X8_place l g ad H.size V2 (V2 0 16) (V2 0 17) (V2 0 18) _ hw) (cwS 3 hts gX8_way_X8_place rfl rfl rfl (by decide +kernel) ⟨Nat.le_of_ble_eq_true rfl, Nat.le_of_ble_eq_true rfl⟩) (x_preS hK hE hI) rfl rfl hl.1 rfl (lv_room (Nat.le_of_ble_eq_true rfl)) dX8_way_43 ⟨Nat.zero_le _, Nat.zero_le _⟩) hI (fun r4 V3 H locs hw hI => ?_)
      refine lv_istore_n (lv' := [(3, .int r4), (0, .ref (ad 0)), (1, .int x1), (2, .int x2)]) hx hb dX8_way_46 rfl hl (by decide) rfl (fun ls hl => ?_)
      refine lv_aload_n hx hb dX8_way_47 rfl (lv_at hl 1 rfl) ?_
      refine mg_28 hx hb hts hin8 hown hK hI hw_4 dX8_way_48 ?_
      refine lv_iload_n hx hb dX8_way_51 rfl (lv_at hl 0 rfl) ?_
      obtain ⟨h5, hw⟩ := hw
      refine x_iald (k := 9) hx hb hK hI (by decide) rfl h5 dX8_way_52 ?_
      refine lv_sipush (v := (9999 : Int32)) hx hb dX8_way_53 (by decide) ?_
      refine lv_icmp_lt (tgt := 62) hx hb dX8_way_56 (by decide) (fun c6 => ?_) (fun c6 => ?_)
      · replace hw := hw.1 c6
        refine lv_iload_n hx hb dX8_way_62 rfl (lv_at hl 3 rfl) ?_
        refine lv_if_ne (tgt := 73) hx hb dX8_way_63 (by decide) (fun c7 => ?_) (fun c7 => ?_)
        · replace hw := hw.1 c7
          refine lv_iconst (v := (-1 : Int32)) hx hb dX8_way_73 (by decide) ?_
          refine lv_istore (lv' := [(4, .int (-1 : Int32)), (3, .int r4), (0, .ref (ad 0)), (1, .int x1), (2, .int x2)]) hx hb dX8_way_74 hl (by decide) rfl (fun ls hl => ?_)
          obtain ⟨n76, hw⟩ := hw
          exact hL76 n76 V3 H locs ls x1 r4 (-1 : Int32) hI (lv_sub hl [2, 3, 1, 0] rfl) hw
        · replace hw := hw.2 c7
          refine lv_aload_n hx hb dX8_way_66 rfl (lv_at hl 1 rfl) ?_
          refine mg_28 hx hb hts hin8 hown hK hI hw_4 dX8_way_67 ?_
          refine lv_iload_n hx hb dX8_way_70 rfl (lv_at hl 0 rfl) ?_
          obtain ⟨h8, hw⟩ := hw
          refine x_iald (k := 9) hx hb hK hI (by decide) rfl h8 dX8_way_71 ?_
          exact W.iret (v := (V3 9 (r4).toNatClampNeg)) hx hb hr (x_reti hI hw) hI.2.2.2.2 dX8_way_72
      · replace hw := hw.2 c6
        refine lv_ldc (v := (-1000000 : Int32)) hx hb hown hw_5 dX8_way_59 ?_
        exact W.iret (v := (-1000000 : Int32)) hx hb hr (x_reti hI hw) hI.2.2.2.2 dX8_way_61
    · replace hw := hw.2 c1
      refine lv_aload_n hx hb dX8_way_7 rfl (lv_at hl 0 rfl) ?_
      refine mg_19 hx hb hts hin8 hown hK hI hw_0 dX8_way_8 ?_
      refine lv_iconst (v := (2 : Int32)) hx hb dX8_way_11 (by decide) ?_
      refine lv_icmp_ne (tgt := 23) hx hb dX8_way_12 (by decide) (fun c9 => ?_) (fun c9 => ?_)
      · replace hw := hw.1 c9
        refine lv_ldc (v := (-1000000 : Int32)) hx hb hown hw_5 dX8_way_23 ?_
        exact W.iret (v := (-1000000 : Int32)) hx hb hr (x_reti hI hw) hI.2.2.2.2 dX8_way_25
      · replace hw := hw.2 c9
        refine lv_iload_n hx hb dX8_way_15 rfl (lv_at hl 2 rfl) ?_
        refine lv_if_ne (tgt := 23) hx hb dX8_way_16 (by decide) (fun c10 => ?_) (fun c10 => ?_)
        · replace hw := hw.1 c10
          refine lv_ldc (v := (-1000000 : Int32)) hx hb hown hw_5 dX8_way_23 ?_
          exact W.iret (v := (-1000000 : Int32)) hx hb hr (x_reti hI hw) hI.2.2.2.2 dX8_way_25
        · replace hw := hw.2 c10
          refine lv_iconst (v := (0 : Int32)) hx hb dX8_way_19 (by decide) ?_
          refine lv_goto (tgt := 25) hx hb dX8_way_20 (by decide) ?_
          exact W.iret (v := (0 : Int32)) hx hb hr (x_reti hI hw) hI.2.2.2.2 dX8_way_25
  exact hgo s.heap [] hI
def rm_X8_fewest : Room := { frames := 7, cells := 0, slots := 0, locals := 160 }
set_option maxHeartbeats 4000000 in
set_option maxRecDepth 100000 in
theorem c_X8_fewest (l : Launch) (g : GP) (ad : Nat → Nat) (sz : Nat) (V : VT) (x1 : Int32)  (K : Int32 → VT → Prop) (hw : wp_X8_fewest V x1 K) : Met l yX8_fewest wsX8_fewest rm_X8_fewest (va_Pc [.ref (ad 0), .int x1] (WPre 13 (cM g ad) ad g V sz)) (va_Qi K (WPost 13 (cM g ad) ad g) (AW ad 13 sz)) 0 0 (AW ad 13 sz) := by
  refine Met.ofW (cc := cX8_fewest) (maxL := 2) (ret := (some .int)) (by decide) rfl ?_
  intro p e s m args below meth c s₁ B hml hv
  obtain ⟨ha, hv⟩ := hv
  obtain rfl := hv.1
  have hI : WI g 13 (cM g ad) ad V s.heap s.heap [] := WI.start hv
  have hK := hv.2.2.1
  have hE := hv.2.2.2.2
  have hx := B.exec
  have hb := B.bytes
  have hr := B.returns
  have hts := atoms_spec (ws := wsX8_fewest) B.pre
  have hown : s.vm.findClass RX8 = some m.cls := findClass_of_methodNamed B.named
  have hlocks := B.notSynchronized
  have hw_0 := hts (.fieldLink RX8 136 "HoopLaneModel" "isLane" "Z") (by decide +kernel)
  have hw_1 := hts (.constant RX8 64 (-1000001)) (by decide +kernel)
  have hw_2 := hts (.constant RX8 184 (-1000002)) (by decide +kernel)
  have hin8 : ∀ w ∈ wsX80, w ∈ wsX8_fewest := by decide +kernel
  have hl := lv_entry ([.ref (ad 0), .int x1]) (n := 2) (Nat.le_of_ble_eq_true rfl)
  have hent : entryFrame m args 2 = F0 m 0 ((lg_sl ([.ref (ad 0), .int x1]) ++ List.replicate (2 - (lg_sl ([.ref (ad 0), .int x1])).length) Slot.unset).toArray) [] := by rw [ha, lg_entry_eq]
  rw [hent]
  generalize (lg_sl ([.ref (ad 0), .int x1]) ++ List.replicate (2 - (lg_sl ([.ref (ad 0), .int x1])).length) Slot.unset).toArray = ls at hl ⊢
  have hl : lv_has ls 2 [(0, .ref (ad 0)), (1, .int x1)] := hl
  obtain ⟨H, hH⟩ : ∃ H : Heap, H = s.heap := ⟨_, rfl⟩
  have hgo : ∀ (H : Heap) (locs : List Loc), WI g 13 (cM g ad) ad V s.heap H locs → W p l e (headSpec wsX8_fewest rm_X8_fewest).room s m args below meth c H locs 0 0 (MQ below (va_Qi K (WPost 13 (cM g ad) ad g) (AW ad 13 s.heap.size)) args s 0 0 (AW ad 13 s.heap.size)) (F0 m 0 ls []) := by
    intro H locs hI
    refine lv_aload_n hx hb dX8_fewest_0 rfl (lv_at hl 0 rfl) ?_
    refine mg_15 hx hb hts hin8 hown hK hI hw_0 dX8_fewest_1 ?_
    refine lv_if_ne (tgt := 12) hx hb dX8_fewest_4 (by decide) (fun c1 => ?_) (fun c1 => ?_)
    · replace hw := hw.1 c1
      refine lv_iload_n hx hb dX8_fewest_12 rfl (lv_at hl 1 rfl) ?_
      refine lv_i2l (v := (x1).toInt64) hx hb dX8_fewest_13 rfl ?_
      refine lv_lconst (v := (0 : Int64)) hx hb dX8_fewest_14 (by decide) ?_
      refine lv_lconst (v := (1 : Int64)) hx hb dX8_fewest_15 (by decide) ?_
      refine x_afti (va_runS (As := [.long ((x1).toInt64), .long (0 : Int64), .long (1 : Int64)]) (rest := []) ⟨hx, hb, hml, hown, hts⟩ (c_X8_in l g ad H.size V ((x1).toInt64) (0 : Int64) (1 : Int64) _ hw) (cwS 3 hts gX8_fewest_X8_in rfl rfl rfl (by decide +kernel) ⟨Nat.le_of_ble_eq_true rfl, Nat.le_of_ble_eq_true rfl⟩) (x_preS hK hE hI) rfl rfl hl.1 rfl (lv_room (Nat.le_of_ble_eq_true rfl)) dX8_fewest_16 ⟨Nat.zero_le _, Nat.zero_le _⟩) hI (fun r3 V2 H locs hw hI => ?_)
      refine lv_if_eq (tgt := 31) hx hb dX8_fewest_19 (by decide) (fun c4 => ?_) (fun c4 => ?_)
      · replace hw := hw.1 c4
        refine lv_ldc (v := (-1000001 : Int32)) hx hb hown hw_1 dX8_fewest_31 ?_
        exact W.iret (v := (-1000001 : Int32)) hx hb hr (x_reti hI hw) hI.2.2.2.2 dX8_fewest_33
      · replace hw := hw.2 c4
        refine lv_aload_n hx hb dX8_fewest_22 rfl (lv_at hl 0 rfl) ?_
        refine lv_iconst (v := (1 : Int32)) hx hb dX8_fewest_23 (by decide) ?_
        refine lv_iload_n hx hb dX8_fewest_24 rfl (lv_at hl 1 rfl) ?_
        refine x_afti (va_runV (As := [.int (1 : Int32), .int x1]) (rest := []) ⟨hx, hb, hml, hown, hts⟩ (c_X8_way l g ad H.size V2 (1 : Int32) x1 _ hw) (cwV 2 hts gX8_fewest_X8_way rfl rfl rfl (by decide +kernel) ⟨Nat.le_of_ble_eq_true rfl, Nat.le_of_ble_eq_true rfl⟩) (x_preV (k := 0) hK hE hI (by decide) rfl rfl) rfl rfl hl.1 rfl (lv_room (Nat.le_of_ble_eq_true rfl)) dX8_fewest_25 ⟨Nat.zero_le _, Nat.zero_le _⟩) hI (fun r6 V5 H locs hw hI => ?_)
        refine lv_goto (tgt := 33) hx hb dX8_fewest_28 (by decide) ?_
        exact W.iret (v := r6) hx hb hr (x_reti hI hw) hI.2.2.2.2 dX8_fewest_33
    · replace hw := hw.2 c1
      refine lv_ldc (v := (-1000002 : Int32)) hx hb hown hw_2 dX8_fewest_7 ?_
      refine lv_goto (tgt := 33) hx hb dX8_fewest_9 (by decide) ?_
      exact W.iret (v := (-1000002 : Int32)) hx hb hr (x_reti hI hw) hI.2.2.2.2 dX8_fewest_33
  exact hgo s.heap [] hI
def rm_X8_soonest : Room := { frames := 7, cells := 0, slots := 0, locals := 160 }
set_option maxHeartbeats 4000000 in
set_option maxRecDepth 100000 in
theorem c_X8_soonest (l : Launch) (g : GP) (ad : Nat → Nat) (sz : Nat) (V : VT) (x1 : Int32)  (K : Int32 → VT → Prop) (hw : wp_X8_soonest V x1 K) : Met l yX8_soonest wsX8_soonest rm_X8_soonest (va_Pc [.ref (ad 0), .int x1] (WPre 13 (cM g ad) ad g V sz)) (va_Qi K (WPost 13 (cM g ad) ad g) (AW ad 13 sz)) 0 0 (AW ad 13 sz) := by
  refine Met.ofW (cc := cX8_soonest) (maxL := 2) (ret := (some .int)) (by decide) rfl ?_
  intro p e s m args below meth c s₁ B hml hv
  obtain ⟨ha, hv⟩ := hv
  obtain rfl := hv.1
  have hI : WI g 13 (cM g ad) ad V s.heap s.heap [] := WI.start hv
  have hK := hv.2.2.1
  have hE := hv.2.2.2.2
  have hx := B.exec
  have hb := B.bytes
  have hr := B.returns
  have hts := atoms_spec (ws := wsX8_soonest) B.pre
  have hown : s.vm.findClass RX8 = some m.cls := findClass_of_methodNamed B.named
  have hlocks := B.notSynchronized
  have hw_0 := hts (.fieldLink RX8 136 "HoopLaneModel" "isLane" "Z") (by decide +kernel)
  have hw_1 := hts (.constant RX8 64 (-1000001)) (by decide +kernel)
  have hw_2 := hts (.constant RX8 184 (-1000002)) (by decide +kernel)
  have hin8 : ∀ w ∈ wsX80, w ∈ wsX8_soonest := by decide +kernel
  have hl := lv_entry ([.ref (ad 0), .int x1]) (n := 2) (Nat.le_of_ble_eq_true rfl)
  have hent : entryFrame m args 2 = F0 m 0 ((lg_sl ([.ref (ad 0), .int x1]) ++ List.replicate (2 - (lg_sl ([.ref (ad 0), .int x1])).length) Slot.unset).toArray) [] := by rw [ha, lg_entry_eq]
  rw [hent]
  generalize (lg_sl ([.ref (ad 0), .int x1]) ++ List.replicate (2 - (lg_sl ([.ref (ad 0), .int x1])).length) Slot.unset).toArray = ls at hl ⊢
  have hl : lv_has ls 2 [(0, .ref (ad 0)), (1, .int x1)] := hl
  obtain ⟨H, hH⟩ : ∃ H : Heap, H = s.heap := ⟨_, rfl⟩
  have hgo : ∀ (H : Heap) (locs : List Loc), WI g 13 (cM g ad) ad V s.heap H locs → W p l e (headSpec wsX8_soonest rm_X8_soonest).room s m args below meth c H locs 0 0 (MQ below (va_Qi K (WPost 13 (cM g ad) ad g) (AW ad 13 s.heap.size)) args s 0 0 (AW ad 13 s.heap.size)) (F0 m 0 ls []) := by
    intro H locs hI
    refine lv_aload_n hx hb dX8_soonest_0 rfl (lv_at hl 0 rfl) ?_
    refine mg_15 hx hb hts hin8 hown hK hI hw_0 dX8_soonest_1 ?_
    refine lv_if_ne (tgt := 12) hx hb dX8_soonest_4 (by decide) (fun c1 => ?_) (fun c1 => ?_)
    · replace hw := hw.1 c1
      refine lv_iload_n hx hb dX8_soonest_12 rfl (lv_at hl 1 rfl) ?_
      refine lv_i2l (v := (x1).toInt64) hx hb dX8_soonest_13 rfl ?_
      refine lv_lconst (v := (0 : Int64)) hx hb dX8_soonest_14 (by decide) ?_
      refine lv_lconst (v := (1 : Int64)) hx hb dX8_soonest_15 (by decide) ?_
      refine x_afti (va_runS (As := [.long ((x1).toInt64), .long (0 : Int64), .long (1 : Int64)]) (rest := []) ⟨hx, hb, hml, hown, hts⟩ (c_X8_in l g ad H.size V ((x1).toInt64) (0 : Int64) (1 : Int64) _ hw) (cwS 3 hts gX8_soonest_X8_in rfl rfl rfl (by decide +kernel) ⟨Nat.le_of_ble_eq_true rfl, Nat.le_of_ble_eq_true rfl⟩) (x_preS hK hE hI) rfl rfl hl.1 rfl (lv_room (Nat.le_of_ble_eq_true rfl)) dX8_soonest_16 ⟨Nat.zero_le _, Nat.zero_le _⟩) hI (fun r3 V2 H locs hw hI => ?_)
      refine lv_if_eq (tgt := 31) hx hb dX8_soonest_19 (by decide) (fun c4 => ?_) (fun c4 => ?_)
      · replace hw := hw.1 c4
        refine lv_ldc (v := (-1000001 : Int32)) hx hb hown hw_1 dX8_soonest_31 ?_
        exact W.iret (v := (-1000001 : Int32)) hx hb hr (x_reti hI hw) hI.2.2.2.2 dX8_soonest_33
      · replace hw := hw.2 c4
        refine lv_aload_n hx hb dX8_soonest_22 rfl (lv_at hl 0 rfl) ?_
        refine lv_iconst (v := (0 : Int32)) hx hb dX8_soonest_23 (by decide) ?_
        refine lv_iload_n hx hb dX8_soonest_24 rfl (lv_at hl 1 rfl) ?_
        refine x_afti (va_runV (As := [.int (0 : Int32), .int x1]) (rest := []) ⟨hx, hb, hml, hown, hts⟩ (c_X8_way l g ad H.size V2 (0 : Int32) x1 _ hw) (cwV 2 hts gX8_soonest_X8_way rfl rfl rfl (by decide +kernel) ⟨Nat.le_of_ble_eq_true rfl, Nat.le_of_ble_eq_true rfl⟩) (x_preV (k := 0) hK hE hI (by decide) rfl rfl) rfl rfl hl.1 rfl (lv_room (Nat.le_of_ble_eq_true rfl)) dX8_soonest_25 ⟨Nat.zero_le _, Nat.zero_le _⟩) hI (fun r6 V5 H locs hw hI => ?_)
        refine lv_goto (tgt := 33) hx hb dX8_soonest_28 (by decide) ?_
        exact W.iret (v := r6) hx hb hr (x_reti hI hw) hI.2.2.2.2 dX8_soonest_33
    · replace hw := hw.2 c1
      refine lv_ldc (v := (-1000002 : Int32)) hx hb hown hw_2 dX8_soonest_7 ?_
      refine lv_goto (tgt := 33) hx hb dX8_soonest_9 (by decide) ?_
      exact W.iret (v := (-1000002 : Int32)) hx hb hr (x_reti hI hw) hI.2.2.2.2 dX8_soonest_33
  exact hgo s.heap [] hI
