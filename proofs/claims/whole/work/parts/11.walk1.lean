def rm_X0_clear : Room := { frames := 0, cells := 0, slots := 0, locals := 0 }
set_option maxHeartbeats 4000000 in
set_option maxRecDepth 100000 in
theorem c_X0_clear (l : Launch) (g : GP) (ad : Nat → Nat) (sz : Nat) (V : VT)   (K : VT → Prop) (hw : wp_X0_clear V  K) : Met l yX0_clear wsX0_clear rm_X0_clear (va_Pc [.ref (ad 5)] (WPre 76 (cX g ad) ad g V sz)) (va_Qv K (WPost 76 (cX g ad) ad g) (AW ad 76 sz)) 0 0 (AW ad 76 sz) := by
  refine Met.ofW (cc := cX0_clear) (maxL := 1) (ret := none) (by decide) rfl ?_
  intro p e s m args below meth c s₁ B hml hv
  obtain ⟨ha, hv⟩ := hv
  obtain rfl := hv.1
  have hI : WI g 76 (cX g ad) ad V s.heap s.heap [] := WI.start hv
  have hK := hv.2.2.1
  have hE := hv.2.2.2.2
  have hx := B.exec
  have hb := B.bytes
  have hr := B.returns
  have hts := atoms_spec (ws := wsX0_clear) B.pre
  have hown : s.vm.findClass RX0 = some m.cls := findClass_of_methodNamed B.named
  have hlocks := B.notSynchronized
  have hw_0 := hts (.fieldLink RX0 31 "HoopLane$Acts" "count" "I") (by decide +kernel)
  have hin0 : ∀ w ∈ wsX00, w ∈ wsX0_clear := by decide +kernel
  have hl := lv_entry ([.ref (ad 5)]) (n := 1) (Nat.le_of_ble_eq_true rfl)
  have hent : entryFrame m args 1 = F0 m 0 ((lg_sl ([.ref (ad 5)]) ++ List.replicate (1 - (lg_sl ([.ref (ad 5)])).length) Slot.unset).toArray) [] := by rw [ha, lg_entry_eq]
  rw [hent]
  generalize (lg_sl ([.ref (ad 5)]) ++ List.replicate (1 - (lg_sl ([.ref (ad 5)])).length) Slot.unset).toArray = ls at hl ⊢
  have hl : lv_has ls 1 [(0, .ref (ad 5))] := hl
  obtain ⟨H, hH⟩ : ∃ H : Heap, H = s.heap := ⟨_, rfl⟩
  have hgo : ∀ (H : Heap) (locs : List Loc), WI g 76 (cX g ad) ad V s.heap H locs → W p l e (headSpec wsX0_clear rm_X0_clear).room s m args below meth c H locs 0 0 (MQ below (va_Qv K (WPost 76 (cX g ad) ad g) (AW ad 76 s.heap.size)) args s 0 0 (AW ad 76 s.heap.size)) (F0 m 0 ls []) := by
    intro H locs hI
    refine lv_aload_n hx hb dX0_clear_0 rfl (lv_at hl 0 rfl) ?_
    refine lv_iconst (v := (0 : Int32)) hx hb dX0_clear_1 (by decide) ?_
    refine xp0_5 (k := 5) hx hb hts hin0 hown hK hI (by decide) hw_0 dX0_clear_2 (fun V1 H locs eV1 hI => ?_)
    replace hw := hw V1 eV1
    exact W.vret hx hb hr (x_retv hI hw) hI.2.2.2.2 dX0_clear_5
  exact hgo s.heap [] hI
def rm_X2_be : Room := { frames := 0, cells := 0, slots := 0, locals := 0 }
set_option maxHeartbeats 4000000 in
set_option maxRecDepth 100000 in
theorem c_X2_be (l : Launch) (g : GP) (ad : Nat → Nat) (sz : Nat) (V : VT) (k0 : Nat) (k1 : Nat) (hk0 : kX k0 = 2) (hk1 : kX k1 = 2) (K : VT → Prop) (hw : wp_X2_be V k0 k1 K) : Met l yX2_be wsX2_be rm_X2_be (va_Pc [.ref (ad k0), .ref (ad k1)] (WPre 76 (cX g ad) ad g V sz)) (va_Qv K (WPost 76 (cX g ad) ad g) (AW ad 76 sz)) 0 0 (AW ad 76 sz) := by
  refine Met.ofW (cc := cX2_be) (maxL := 2) (ret := none) (by decide) rfl ?_
  intro p e s m args below meth c s₁ B hml hv
  obtain ⟨ha, hv⟩ := hv
  obtain rfl := hv.1
  have hI : WI g 76 (cX g ad) ad V s.heap s.heap [] := WI.start hv
  have hK := hv.2.2.1
  have hE := hv.2.2.2.2
  have hx := B.exec
  have hb := B.bytes
  have hr := B.returns
  have hts := atoms_spec (ws := wsX2_be) B.pre
  have hown : s.vm.findClass RX2 = some m.cls := findClass_of_methodNamed B.named
  have hlocks := B.notSynchronized
  have hw_0 := hts (.fieldLink RX2 9 "HoopLane$Hoop" "yard" "I") (by decide +kernel)
  have hw_1 := hts (.fieldLink RX2 15 "HoopLane$Hoop" "pace" "I") (by decide +kernel)
  have hw_2 := hts (.fieldLink RX2 18 "HoopLane$Hoop" "lean" "I") (by decide +kernel)
  have hw_3 := hts (.fieldLink RX2 21 "HoopLane$Hoop" "end" "I") (by decide +kernel)
  have hin2 : ∀ w ∈ wsX20, w ∈ wsX2_be := by decide +kernel
  have hl := lv_entry ([.ref (ad k0), .ref (ad k1)]) (n := 2) (Nat.le_of_ble_eq_true rfl)
  have hent : entryFrame m args 2 = F0 m 0 ((lg_sl ([.ref (ad k0), .ref (ad k1)]) ++ List.replicate (2 - (lg_sl ([.ref (ad k0), .ref (ad k1)])).length) Slot.unset).toArray) [] := by rw [ha, lg_entry_eq]
  rw [hent]
  generalize (lg_sl ([.ref (ad k0), .ref (ad k1)]) ++ List.replicate (2 - (lg_sl ([.ref (ad k0), .ref (ad k1)])).length) Slot.unset).toArray = ls at hl ⊢
  have hl : lv_has ls 2 [(0, .ref (ad k0)), (1, .ref (ad k1))] := hl
  obtain ⟨H, hH⟩ : ∃ H : Heap, H = s.heap := ⟨_, rfl⟩
  have hgo : ∀ (H : Heap) (locs : List Loc), WI g 76 (cX g ad) ad V s.heap H locs → W p l e (headSpec wsX2_be rm_X2_be).room s m args below meth c H locs 0 0 (MQ below (va_Qv K (WPost 76 (cX g ad) ad g) (AW ad 76 s.heap.size)) args s 0 0 (AW ad 76 s.heap.size)) (F0 m 0 ls []) := by
    intro H locs hI
    refine lv_aload_n hx hb dX2_be_0 rfl (lv_at hl 0 rfl) ?_
    refine lv_aload_n hx hb dX2_be_1 rfl (lv_at hl 1 rfl) ?_
    refine xg2_0 (k := k1) hx hb hts hin2 hown hK hI hk1 hw_0 dX2_be_2 ?_
    refine xp2_0 (k := k0) hx hb hts hin2 hown hK hI hk0 hw_0 dX2_be_5 (fun V1 H locs eV1 hI => ?_)
    replace hw := hw V1 eV1
    refine lv_aload_n hx hb dX2_be_8 rfl (lv_at hl 0 rfl) ?_
    refine lv_aload_n hx hb dX2_be_9 rfl (lv_at hl 1 rfl) ?_
    refine xg2_1 (k := k1) hx hb hts hin2 hown hK hI hk1 hw_1 dX2_be_10 ?_
    refine xp2_1 (k := k0) hx hb hts hin2 hown hK hI hk0 hw_1 dX2_be_13 (fun V2 H locs eV2 hI => ?_)
    replace hw := hw V2 eV2
    refine lv_aload_n hx hb dX2_be_16 rfl (lv_at hl 0 rfl) ?_
    refine lv_aload_n hx hb dX2_be_17 rfl (lv_at hl 1 rfl) ?_
    refine xg2_2 (k := k1) hx hb hts hin2 hown hK hI hk1 hw_2 dX2_be_18 ?_
    refine xp2_2 (k := k0) hx hb hts hin2 hown hK hI hk0 hw_2 dX2_be_21 (fun V3 H locs eV3 hI => ?_)
    replace hw := hw V3 eV3
    refine lv_aload_n hx hb dX2_be_24 rfl (lv_at hl 0 rfl) ?_
    refine lv_aload_n hx hb dX2_be_25 rfl (lv_at hl 1 rfl) ?_
    refine xg2_3 (k := k1) hx hb hts hin2 hown hK hI hk1 hw_3 dX2_be_26 ?_
    refine xp2_3 (k := k0) hx hb hts hin2 hown hK hI hk0 hw_3 dX2_be_29 (fun V4 H locs eV4 hI => ?_)
    replace hw := hw V4 eV4
    exact W.vret hx hb hr (x_retv hI hw) hI.2.2.2.2 dX2_be_32
  exact hgo s.heap [] hI
def rm_X0_keep : Room := { frames := 1, cells := 0, slots := 0, locals := 21 }
set_option maxHeartbeats 4000000 in
set_option maxRecDepth 100000 in
theorem c_X0_keep (l : Launch) (g : GP) (ad : Nat → Nat) (sz : Nat) (V : VT) (k1 : Nat) (x2 : Int32) (hk1 : kX k1 = 3) (K : VT → Prop) (hw : wp_X0_keep V k1 x2 K) : Met l yX0_keep wsX0_keep rm_X0_keep (va_Pc [.ref (ad 5), .ref (ad k1), .int x2] (WPre 76 (cX g ad) ad g V sz)) (va_Qv K (WPost 76 (cX g ad) ad g) (AW ad 76 sz)) 0 0 (AW ad 76 sz) := by
  refine Met.ofW (cc := cX0_keep) (maxL := 3) (ret := none) (by decide) rfl ?_
  intro p e s m args below meth c s₁ B hml hv
  obtain ⟨ha, hv⟩ := hv
  obtain rfl := hv.1
  have hI : WI g 76 (cX g ad) ad V s.heap s.heap [] := WI.start hv
  have hK := hv.2.2.1
  have hE := hv.2.2.2.2
  have hx := B.exec
  have hb := B.bytes
  have hr := B.returns
  have hts := atoms_spec (ws := wsX0_keep) B.pre
  have hown : s.vm.findClass RX0 = some m.cls := findClass_of_methodNamed B.named
  have hlocks := B.notSynchronized
  have hw_0 := hts (.fieldLink RX0 11 "HoopLane$Acts" "hoops" "[LHoopLane$Hoop;") (by decide +kernel)
  have hw_1 := hts (.fieldLink RX0 27 "HoopLane$Acts" "next" "I") (by decide +kernel)
  have hw_2 := hts (.fieldLink RX0 35 "HoopLane$Lane" "hoop" "LHoopLane$Hoop;") (by decide +kernel)
  have hw_3 := hts (.fieldLink RX0 17 "HoopLane$Acts" "moments" "[I") (by decide +kernel)
  have hw_4 := hts (.fieldLink RX0 45 "HoopLane$Lane" "moment" "I") (by decide +kernel)
  have hw_5 := hts (.fieldLink RX0 21 "HoopLane$Acts" "yards" "[I") (by decide +kernel)
  have hw_6 := hts (.fieldLink RX0 24 "HoopLane$Acts" "grounds" "[I") (by decide +kernel)
  have hw_7 := hts (.fieldLink RX0 48 "HoopLane$Lane" "grounds" "[I") (by decide +kernel)
  have hw_8 := hts (.fieldLink RX0 31 "HoopLane$Acts" "count" "I") (by decide +kernel)
  have hw_9 := hts (.methodLink RX0 49 Lib.Math.min.name) (by decide +kernel)
  have hw_10 := hts (.static Lib.Math.min.name) (by decide +kernel)
  have hw_11 := hts (.initialized "java/lang/Math") (by decide +kernel)
  have hw_12 := hts (.code Lib.Math.min.name Lib.Math.min.code 2 (some .int)) (by decide +kernel)
  have hin0 : ∀ w ∈ wsX00, w ∈ wsX0_keep := by decide +kernel
  have hin3 : ∀ w ∈ wsX30, w ∈ wsX0_keep := by decide +kernel
  have hl := lv_entry ([.ref (ad 5), .ref (ad k1), .int x2]) (n := 3) (Nat.le_of_ble_eq_true rfl)
  have hent : entryFrame m args 3 = F0 m 0 ((lg_sl ([.ref (ad 5), .ref (ad k1), .int x2]) ++ List.replicate (3 - (lg_sl ([.ref (ad 5), .ref (ad k1), .int x2])).length) Slot.unset).toArray) [] := by rw [ha, lg_entry_eq]
  rw [hent]
  generalize (lg_sl ([.ref (ad 5), .ref (ad k1), .int x2]) ++ List.replicate (3 - (lg_sl ([.ref (ad 5), .ref (ad k1), .int x2])).length) Slot.unset).toArray = ls at hl ⊢
  have hl : lv_has ls 3 [(0, .ref (ad 5)), (1, .ref (ad k1)), (2, .int x2)] := hl
  obtain ⟨H, hH⟩ : ∃ H : Heap, H = s.heap := ⟨_, rfl⟩
  have hgo : ∀ (H : Heap) (locs : List Loc), WI g 76 (cX g ad) ad V s.heap H locs → W p l e (headSpec wsX0_keep rm_X0_keep).room s m args below meth c H locs 0 0 (MQ below (va_Qv K (WPost 76 (cX g ad) ad g) (AW ad 76 s.heap.size)) args s 0 0 (AW ad 76 s.heap.size)) (F0 m 0 ls []) := by
    intro H locs hI
    refine lv_aload_n hx hb dX0_keep_0 rfl (lv_at hl 0 rfl) ?_
    refine xg0_0 (k := 5) hx hb hts hin0 hown hK hI (by decide) hw_0 dX0_keep_1 ?_
    refine lv_aload_n hx hb dX0_keep_4 rfl (lv_at hl 0 rfl) ?_
    refine xg0_4 (k := 5) hx hb hts hin0 hown hK hI (by decide) hw_1 dX0_keep_5 ?_
    obtain ⟨h1, hw⟩ := hw
    refine x_aald (k := 6) (n := 24) (q := ad (52 + ((V 5 4)).toNatClampNeg)) hx hb hK hI (by decide) 2 rfl rfl h1 rfl dX0_keep_8 ?_
    refine lv_aload_n hx hb dX0_keep_9 rfl (lv_at hl 1 rfl) ?_
    refine xg3_3 (k := k1) hx hb hts hin3 hown hK hI hk1 hw_2 dX0_keep_10 ?_
    refine x_aftv (va_runV (As := [.ref (ad (k1 + 4))]) (rest := []) ⟨hx, hb, hml, hown, hts⟩ (c_X2_be l g ad H.size V (52 + ((V 5 4)).toNatClampNeg) (k1 + 4) (kX_at11 h1) (kX_3s hk1).2.2.2.2.2.2 _ hw) (cwV 1 hts gX0_keep_X2_be rfl rfl rfl (by decide +kernel) ⟨Nat.le_of_ble_eq_true rfl, Nat.le_of_ble_eq_true rfl⟩) (x_preV (k := (52 + ((V 5 4)).toNatClampNeg)) hK hE hI (kX_lt (kX_at11 h1) (by decide)) (cX_2 (kX_at11 h1)) rfl) rfl rfl hl.1 rfl (lv_room (Nat.le_of_ble_eq_true rfl)) dX0_keep_13 ⟨Nat.zero_le _, Nat.zero_le _⟩) hI (fun V2 H locs hw hI => ?_)
    refine lv_aload_n hx hb dX0_keep_16 rfl (lv_at hl 0 rfl) ?_
    refine xg0_1 (k := 5) hx hb hts hin0 hown hK hI (by decide) hw_3 dX0_keep_17 ?_
    refine lv_aload_n hx hb dX0_keep_20 rfl (lv_at hl 0 rfl) ?_
    refine xg0_4 (k := 5) hx hb hts hin0 hown hK hI (by decide) hw_1 dX0_keep_21 ?_
    refine lv_aload_n hx hb dX0_keep_24 rfl (lv_at hl 1 rfl) ?_
    refine xg3_8 (k := k1) hx hb hts hin3 hown hK hI hk1 hw_4 dX0_keep_25 ?_
    obtain ⟨h3, hw⟩ := hw
    refine x_iastV (k := 7) hx hb hK hI (cX_loc g ad) (by decide) (fun _ => cX_9 (by decide) (by decide)) h3 dX0_keep_28 (fun V4 H locs eV4 hI => ?_)
    replace hw := hw V4 eV4
    refine lv_aload_n hx hb dX0_keep_29 rfl (lv_at hl 0 rfl) ?_
    refine xg0_2 (k := 5) hx hb hts hin0 hown hK hI (by decide) hw_5 dX0_keep_30 ?_
    refine lv_aload_n hx hb dX0_keep_33 rfl (lv_at hl 0 rfl) ?_
    refine xg0_4 (k := 5) hx hb hts hin0 hown hK hI (by decide) hw_1 dX0_keep_34 ?_
    refine lv_iload_n hx hb dX0_keep_37 rfl (lv_at hl 2 rfl) ?_
    obtain ⟨h5, hw⟩ := hw
    refine x_iastV (k := 8) hx hb hK hI (cX_loc g ad) (by decide) (fun _ => cX_9 (by decide) (by decide)) h5 dX0_keep_38 (fun V6 H locs eV6 hI => ?_)
    replace hw := hw V6 eV6
    refine lv_aload_n hx hb dX0_keep_39 rfl (lv_at hl 0 rfl) ?_
    refine xg0_3 (k := 5) hx hb hts hin0 hown hK hI (by decide) hw_6 dX0_keep_40 ?_
    refine lv_aload_n hx hb dX0_keep_43 rfl (lv_at hl 0 rfl) ?_
    refine xg0_4 (k := 5) hx hb hts hin0 hown hK hI (by decide) hw_1 dX0_keep_44 ?_
    refine lv_aload_n hx hb dX0_keep_47 rfl (lv_at hl 1 rfl) ?_
    refine xg3_0 (k := k1) hx hb hts hin3 hown hK hI hk1 hw_7 dX0_keep_48 ?_
    refine lv_iload_n hx hb dX0_keep_51 rfl (lv_at hl 2 rfl) ?_
    obtain ⟨h7, hw⟩ := hw
    refine x_iald (k := k1 + 1) hx hb hK hI (kX_lt (kX_3s hk1).1 (by decide)) (cX_9 (kX_3s hk1).1 (kX_3s hk1).2.1) h7 dX0_keep_52 ?_
    obtain ⟨h8, hw⟩ := hw
    refine x_iastV (k := 9) hx hb hK hI (cX_loc g ad) (by decide) (fun _ => cX_9 (by decide) (by decide)) h8 dX0_keep_53 (fun V9 H locs eV9 hI => ?_)
    replace hw := hw V9 eV9
    refine lv_aload_n hx hb dX0_keep_54 rfl (lv_at hl 0 rfl) ?_
    refine lv_aload_n hx hb dX0_keep_55 rfl (lv_at hl 0 rfl) ?_
    refine xg0_4 (k := 5) hx hb hts hin0 hown hK hI (by decide) hw_1 dX0_keep_56 ?_
    refine lv_iconst (v := (1 : Int32)) hx hb dX0_keep_59 (by decide) ?_
    refine lv_iadd hx hb dX0_keep_60 ?_
    refine lv_bipush (v := (24 : Int32)) hx hb dX0_keep_61 (by decide) ?_
    refine lv_irem hx hb dX0_keep_63 (by decide) ?_
    refine xp0_4 (k := 5) hx hb hts hin0 hown hK hI (by decide) hw_1 dX0_keep_64 (fun V10 H locs eV10 hI => ?_)
    replace hw := hw V10 eV10
    refine lv_aload_n hx hb dX0_keep_67 rfl (lv_at hl 0 rfl) ?_
    refine lv_aload_n hx hb dX0_keep_68 rfl (lv_at hl 0 rfl) ?_
    refine xg0_5 (k := 5) hx hb hts hin0 hown hK hI (by decide) hw_8 dX0_keep_69 ?_
    refine lv_iconst (v := (1 : Int32)) hx hb dX0_keep_72 (by decide) ?_
    refine lv_iadd hx hb dX0_keep_73 ?_
    refine lv_bipush (v := (24 : Int32)) hx hb dX0_keep_74 (by decide) ?_
    refine va_mmin hx hb (hml.trans hl.1.symm) hown hw_9 hw_10 hw_11 hw_12 (Nat.le_of_ble_eq_true rfl) (Nat.le_of_ble_eq_true rfl) (Nat.zero_le _) (Nat.zero_le _) dX0_keep_76 ?_
    refine xp0_5 (k := 5) hx hb hts hin0 hown hK hI (by decide) hw_8 dX0_keep_79 (fun V11 H locs eV11 hI => ?_)
    replace hw := hw V11 eV11
    exact W.vret hx hb hr (x_retv hI hw) hI.2.2.2.2 dX0_keep_82
  exact hgo s.heap [] hI
def rm_X0_takeBack : Room := { frames := 1, cells := 0, slots := 0, locals := 21 }
set_option maxHeartbeats 4000000 in
set_option maxRecDepth 100000 in
theorem c_X0_takeBack (l : Launch) (g : GP) (ad : Nat → Nat) (sz : Nat) (V : VT) (k1 : Nat) (hk1 : kX k1 = 3) (K : VT → Prop) (hw : wp_X0_takeBack V k1 K) : Met l yX0_takeBack wsX0_takeBack rm_X0_takeBack (va_Pc [.ref (ad 5), .ref (ad k1)] (WPre 76 (cX g ad) ad g V sz)) (va_Qv K (WPost 76 (cX g ad) ad g) (AW ad 76 sz)) 0 0 (AW ad 76 sz) := by
  refine Met.ofW (cc := cX0_takeBack) (maxL := 2) (ret := none) (by decide) rfl ?_
  intro p e s m args below meth c s₁ B hml hv
  obtain ⟨ha, hv⟩ := hv
  obtain rfl := hv.1
  have hI : WI g 76 (cX g ad) ad V s.heap s.heap [] := WI.start hv
  have hK := hv.2.2.1
  have hE := hv.2.2.2.2
  have hx := B.exec
  have hb := B.bytes
  have hr := B.returns
  have hts := atoms_spec (ws := wsX0_takeBack) B.pre
  have hown : s.vm.findClass RX0 = some m.cls := findClass_of_methodNamed B.named
  have hlocks := B.notSynchronized
  have hw_0 := hts (.fieldLink RX0 27 "HoopLane$Acts" "next" "I") (by decide +kernel)
  have hw_1 := hts (.fieldLink RX0 31 "HoopLane$Acts" "count" "I") (by decide +kernel)
  have hw_2 := hts (.fieldLink RX0 35 "HoopLane$Lane" "hoop" "LHoopLane$Hoop;") (by decide +kernel)
  have hw_3 := hts (.fieldLink RX0 11 "HoopLane$Acts" "hoops" "[LHoopLane$Hoop;") (by decide +kernel)
  have hw_4 := hts (.fieldLink RX0 17 "HoopLane$Acts" "moments" "[I") (by decide +kernel)
  have hw_5 := hts (.fieldLink RX0 45 "HoopLane$Lane" "moment" "I") (by decide +kernel)
  have hw_6 := hts (.fieldLink RX0 48 "HoopLane$Lane" "grounds" "[I") (by decide +kernel)
  have hw_7 := hts (.fieldLink RX0 21 "HoopLane$Acts" "yards" "[I") (by decide +kernel)
  have hw_8 := hts (.fieldLink RX0 24 "HoopLane$Acts" "grounds" "[I") (by decide +kernel)
  have hin0 : ∀ w ∈ wsX00, w ∈ wsX0_takeBack := by decide +kernel
  have hin3 : ∀ w ∈ wsX30, w ∈ wsX0_takeBack := by decide +kernel
  have hl := lv_entry ([.ref (ad 5), .ref (ad k1)]) (n := 2) (Nat.le_of_ble_eq_true rfl)
  have hent : entryFrame m args 2 = F0 m 0 ((lg_sl ([.ref (ad 5), .ref (ad k1)]) ++ List.replicate (2 - (lg_sl ([.ref (ad 5), .ref (ad k1)])).length) Slot.unset).toArray) [] := by rw [ha, lg_entry_eq]
  rw [hent]
  generalize (lg_sl ([.ref (ad 5), .ref (ad k1)]) ++ List.replicate (2 - (lg_sl ([.ref (ad 5), .ref (ad k1)])).length) Slot.unset).toArray = ls at hl ⊢
  have hl : lv_has ls 2 [(0, .ref (ad 5)), (1, .ref (ad k1))] := hl
  obtain ⟨H, hH⟩ : ∃ H : Heap, H = s.heap := ⟨_, rfl⟩
  have hgo : ∀ (H : Heap) (locs : List Loc), WI g 76 (cX g ad) ad V s.heap H locs → W p l e (headSpec wsX0_takeBack rm_X0_takeBack).room s m args below meth c H locs 0 0 (MQ below (va_Qv K (WPost 76 (cX g ad) ad g) (AW ad 76 s.heap.size)) args s 0 0 (AW ad 76 s.heap.size)) (F0 m 0 ls []) := by
    intro H locs hI
    refine lv_aload_n hx hb dX0_takeBack_0 rfl (lv_at hl 0 rfl) ?_
    refine lv_aload_n hx hb dX0_takeBack_1 rfl (lv_at hl 0 rfl) ?_
    refine xg0_4 (k := 5) hx hb hts hin0 hown hK hI (by decide) hw_0 dX0_takeBack_2 ?_
    refine lv_bipush (v := (24 : Int32)) hx hb dX0_takeBack_5 (by decide) ?_
    refine lv_iadd hx hb dX0_takeBack_7 ?_
    refine lv_iconst (v := (1 : Int32)) hx hb dX0_takeBack_8 (by decide) ?_
    refine lv_isub hx hb dX0_takeBack_9 ?_
    refine lv_bipush (v := (24 : Int32)) hx hb dX0_takeBack_10 (by decide) ?_
    refine lv_irem hx hb dX0_takeBack_12 (by decide) ?_
    refine xp0_4 (k := 5) hx hb hts hin0 hown hK hI (by decide) hw_0 dX0_takeBack_13 (fun V1 H locs eV1 hI => ?_)
    replace hw := hw V1 eV1
    refine lv_aload_n hx hb dX0_takeBack_16 rfl (lv_at hl 0 rfl) ?_
    refine lv_dup hx hb dX0_takeBack_17 rfl ?_
    refine xg0_5 (k := 5) hx hb hts hin0 hown hK hI (by decide) hw_1 dX0_takeBack_18 ?_
    refine lv_iconst (v := (1 : Int32)) hx hb dX0_takeBack_21 (by decide) ?_
    refine lv_isub hx hb dX0_takeBack_22 ?_
    refine xp0_5 (k := 5) hx hb hts hin0 hown hK hI (by decide) hw_1 dX0_takeBack_23 (fun V2 H locs eV2 hI => ?_)
    replace hw := hw V2 eV2
    refine lv_aload_n hx hb dX0_takeBack_26 rfl (lv_at hl 1 rfl) ?_
    refine xg3_3 (k := k1) hx hb hts hin3 hown hK hI hk1 hw_2 dX0_takeBack_27 ?_
    refine lv_aload_n hx hb dX0_takeBack_30 rfl (lv_at hl 0 rfl) ?_
    refine xg0_0 (k := 5) hx hb hts hin0 hown hK hI (by decide) hw_3 dX0_takeBack_31 ?_
    refine lv_aload_n hx hb dX0_takeBack_34 rfl (lv_at hl 0 rfl) ?_
    refine xg0_4 (k := 5) hx hb hts hin0 hown hK hI (by decide) hw_0 dX0_takeBack_35 ?_
    obtain ⟨h3, hw⟩ := hw
    refine x_aald (k := 6) (n := 24) (q := ad (52 + ((V2 5 4)).toNatClampNeg)) hx hb hK hI (by decide) 2 rfl rfl h3 rfl dX0_takeBack_38 ?_
    refine x_aftv (va_runV (As := [.ref (ad (52 + ((V2 5 4)).toNatClampNeg))]) (rest := []) ⟨hx, hb, hml, hown, hts⟩ (c_X2_be l g ad H.size V2 (k1 + 4) (52 + ((V2 5 4)).toNatClampNeg) (kX_3s hk1).2.2.2.2.2.2 (kX_at11 h3) _ hw) (cwV 1 hts gX0_takeBack_X2_be rfl rfl rfl (by decide +kernel) ⟨Nat.le_of_ble_eq_true rfl, Nat.le_of_ble_eq_true rfl⟩) (x_preV (k := k1 + 4) hK hE hI (kX_lt (kX_3s hk1).2.2.2.2.2.2 (by decide)) (cX_2 (kX_3s hk1).2.2.2.2.2.2) rfl) rfl rfl hl.1 rfl (lv_room (Nat.le_of_ble_eq_true rfl)) dX0_takeBack_39 ⟨Nat.zero_le _, Nat.zero_le _⟩) hI (fun V4 H locs hw hI => ?_)
    refine lv_aload_n hx hb dX0_takeBack_42 rfl (lv_at hl 1 rfl) ?_
    refine lv_aload_n hx hb dX0_takeBack_43 rfl (lv_at hl 0 rfl) ?_
    refine xg0_1 (k := 5) hx hb hts hin0 hown hK hI (by decide) hw_4 dX0_takeBack_44 ?_
    refine lv_aload_n hx hb dX0_takeBack_47 rfl (lv_at hl 0 rfl) ?_
    refine xg0_4 (k := 5) hx hb hts hin0 hown hK hI (by decide) hw_0 dX0_takeBack_48 ?_
    obtain ⟨h5, hw⟩ := hw
    refine x_iald (k := 7) hx hb hK hI (by decide) (cX_9 (by decide) (by decide)) h5 dX0_takeBack_51 ?_
    refine xp3_8 (k := k1) hx hb hts hin3 hown hK hI hk1 hw_5 dX0_takeBack_52 (fun V6 H locs eV6 hI => ?_)
    replace hw := hw V6 eV6
    refine lv_aload_n hx hb dX0_takeBack_55 rfl (lv_at hl 1 rfl) ?_
    refine xg3_0 (k := k1) hx hb hts hin3 hown hK hI hk1 hw_6 dX0_takeBack_56 ?_
    refine lv_aload_n hx hb dX0_takeBack_59 rfl (lv_at hl 0 rfl) ?_
    refine xg0_2 (k := 5) hx hb hts hin0 hown hK hI (by decide) hw_7 dX0_takeBack_60 ?_
    refine lv_aload_n hx hb dX0_takeBack_63 rfl (lv_at hl 0 rfl) ?_
    refine xg0_4 (k := 5) hx hb hts hin0 hown hK hI (by decide) hw_0 dX0_takeBack_64 ?_
    obtain ⟨h7, hw⟩ := hw
    refine x_iald (k := 8) hx hb hK hI (by decide) (cX_9 (by decide) (by decide)) h7 dX0_takeBack_67 ?_
    refine lv_aload_n hx hb dX0_takeBack_68 rfl (lv_at hl 0 rfl) ?_
    refine xg0_3 (k := 5) hx hb hts hin0 hown hK hI (by decide) hw_8 dX0_takeBack_69 ?_
    refine lv_aload_n hx hb dX0_takeBack_72 rfl (lv_at hl 0 rfl) ?_
    refine xg0_4 (k := 5) hx hb hts hin0 hown hK hI (by decide) hw_0 dX0_takeBack_73 ?_
    obtain ⟨h8, hw⟩ := hw
    refine x_iald (k := 9) hx hb hK hI (by decide) (cX_9 (by decide) (by decide)) h8 dX0_takeBack_76 ?_
    obtain ⟨h9, hw⟩ := hw
    refine x_iastV (k := k1 + 1) hx hb hK hI (cX_loc g ad) (kX_lt (kX_3s hk1).1 (by decide)) (fun _ => cX_9 (kX_3s hk1).1 (kX_3s hk1).2.1) h9 dX0_takeBack_77 (fun V10 H locs eV10 hI => ?_)
    replace hw := hw V10 eV10
    exact W.vret hx hb hr (x_retv hI hw) hI.2.2.2.2 dX0_takeBack_78
  exact hgo s.heap [] hI
def rm_X7_isOut : Room := { frames := 0, cells := 0, slots := 0, locals := 0 }
set_option maxHeartbeats 4000000 in
set_option maxRecDepth 100000 in
theorem c_X7_isOut (l : Launch) (g : GP) (ad : Nat → Nat) (sz : Nat) (V : VT) (x0 : Int32) (x1 : Int32) (x2 : Int32)  (K : Int32 → VT → Prop) (hw : wp_X7_isOut V x0 x1 x2 K) : Met l yX7_isOut wsX7_isOut rm_X7_isOut (va_Pc [.int x0, .int x1, .int x2] (WPre 76 (cX g ad) ad g V sz)) (va_Qi K (WPost 76 (cX g ad) ad g) (AW ad 76 sz)) 0 0 (AW ad 76 sz) := by
  refine Met.ofW (cc := cX7_isOut) (maxL := 3) (ret := (some .boolean)) (by decide) rfl ?_
  intro p e s m args below meth c s₁ B hml hv
  obtain ⟨ha, hv⟩ := hv
  obtain rfl := hv.1
  have hI : WI g 76 (cX g ad) ad V s.heap s.heap [] := WI.start hv
  have hK := hv.2.2.1
  have hE := hv.2.2.2.2
  have hx := B.exec
  have hb := B.bytes
  have hr := B.returns
  have hts := atoms_spec (ws := wsX7_isOut) B.pre
  have hown : s.vm.findClass RX7 = some m.cls := findClass_of_methodNamed B.named
  have hlocks := B.notSynchronized
  have hl := lv_entry ([.int x0, .int x1, .int x2]) (n := 3) (Nat.le_of_ble_eq_true rfl)
  have hent : entryFrame m args 3 = F0 m 0 ((lg_sl ([.int x0, .int x1, .int x2]) ++ List.replicate (3 - (lg_sl ([.int x0, .int x1, .int x2])).length) Slot.unset).toArray) [] := by rw [ha, lg_entry_eq]
  rw [hent]
  generalize (lg_sl ([.int x0, .int x1, .int x2]) ++ List.replicate (3 - (lg_sl ([.int x0, .int x1, .int x2])).length) Slot.unset).toArray = ls at hl ⊢
  have hl : lv_has ls 3 [(0, .int x0), (1, .int x1), (2, .int x2)] := hl
  obtain ⟨H, hH⟩ : ∃ H : Heap, H = s.heap := ⟨_, rfl⟩
  have hb10 : ∀ (V : VT) (H : Heap) (locs : List Loc) (ls : Array Slot) , WI g 76 (cX g ad) ad V s.heap H locs → lv_has ls 3 [] → wp_X7_isOut_b10 K  V  → W p l e (headSpec wsX7_isOut rm_X7_isOut).room s m args below meth c H locs 0 0 (MQ below (va_Qi K (WPost 76 (cX g ad) ad g) (AW ad 76 s.heap.size)) args s 0 0 (AW ad 76 s.heap.size)) (F0 m 10 ls []) := by
    intro V H locs ls   hI hl hw
    refine lv_iconst (v := (1 : Int32)) hx hb dX7_isOut_10 (by decide) ?_
    refine lv_goto (tgt := 15) hx hb dX7_isOut_11 (by decide) ?_
    exact W.zret (v := (1 : Int32)) hx hb hr rfl (x_reti hI hw) hI.2.2.2.2 dX7_isOut_15
  have hgo : ∀ (H : Heap) (locs : List Loc), WI g 76 (cX g ad) ad V s.heap H locs → W p l e (headSpec wsX7_isOut rm_X7_isOut).room s m args below meth c H locs 0 0 (MQ below (va_Qi K (WPost 76 (cX g ad) ad g) (AW ad 76 s.heap.size)) args s 0 0 (AW ad 76 s.heap.size)) (F0 m 0 ls []) := by
    intro H locs hI
    refine lv_iload_n hx hb dX7_isOut_0 rfl (lv_at hl 0 rfl) ?_
    refine lv_iload_n hx hb dX7_isOut_1 rfl (lv_at hl 1 rfl) ?_
    refine lv_icmp_lt (tgt := 10) hx hb dX7_isOut_2 (by decide) (fun c1 => ?_) (fun c1 => ?_)
    · replace hw := hw.1 c1
      exact hb10 V H locs ls  hI (lv_sub hl [] rfl) hw
    · replace hw := hw.2 c1
      refine lv_iload_n hx hb dX7_isOut_5 rfl (lv_at hl 0 rfl) ?_
      refine lv_iload_n hx hb dX7_isOut_6 rfl (lv_at hl 2 rfl) ?_
      refine lv_icmp_le (tgt := 14) hx hb dX7_isOut_7 (by decide) (fun c2 => ?_) (fun c2 => ?_)
      · replace hw := hw.1 c2
        refine lv_iconst (v := (0 : Int32)) hx hb dX7_isOut_14 (by decide) ?_
        exact W.zret (v := (0 : Int32)) hx hb hr rfl (x_reti hI hw) hI.2.2.2.2 dX7_isOut_15
      · replace hw := hw.2 c2
        exact hb10 V H locs ls  hI (lv_sub hl [] rfl) hw
  exact hgo s.heap [] hI
def rm_X3_kindAt : Room := { frames := 1, cells := 0, slots := 0, locals := 22 }
set_option maxHeartbeats 4000000 in
set_option maxRecDepth 100000 in
theorem c_X3_kindAt (l : Launch) (g : GP) (ad : Nat → Nat) (sz : Nat) (V : VT) (k0 : Nat) (x1 : Int32) (hk0 : kX k0 = 3) (K : Int32 → VT → Prop) (hw : wp_X3_kindAt V k0 x1 K) : Met l yX3_kindAt wsX3_kindAt rm_X3_kindAt (va_Pc [.ref (ad k0), .int x1] (WPre 76 (cX g ad) ad g V sz)) (va_Qi K (WPost 76 (cX g ad) ad g) (AW ad 76 sz)) 0 0 (AW ad 76 sz) := by
  refine Met.ofW (cc := cX3_kindAt) (maxL := 2) (ret := (some .int)) (by decide) rfl ?_
  intro p e s m args below meth c s₁ B hml hv
  obtain ⟨ha, hv⟩ := hv
  obtain rfl := hv.1
  have hI : WI g 76 (cX g ad) ad V s.heap s.heap [] := WI.start hv
  have hK := hv.2.2.1
  have hE := hv.2.2.2.2
  have hx := B.exec
  have hb := B.bytes
  have hr := B.returns
  have hts := atoms_spec (ws := wsX3_kindAt) B.pre
  have hown : s.vm.findClass RX3 = some m.cls := findClass_of_methodNamed B.named
  have hlocks := B.notSynchronized
  have hw_0 := hts (.fieldLink RX3 32 "HoopLane$Lane" "taps" "I") (by decide +kernel)
  have hw_1 := hts (.fieldLink RX3 15 "HoopLane$Lane" "kinds" "[I") (by decide +kernel)
  have hw_2 := hts (.initialized RX7) (by decide +kernel)
  have hw_3 := hts (.static yX7_isOut) (by decide +kernel)
  have hin3 : ∀ w ∈ wsX30, w ∈ wsX3_kindAt := by decide +kernel
  have hl := lv_entry ([.ref (ad k0), .int x1]) (n := 2) (Nat.le_of_ble_eq_true rfl)
  have hent : entryFrame m args 2 = F0 m 0 ((lg_sl ([.ref (ad k0), .int x1]) ++ List.replicate (2 - (lg_sl ([.ref (ad k0), .int x1])).length) Slot.unset).toArray) [] := by rw [ha, lg_entry_eq]
  rw [hent]
  generalize (lg_sl ([.ref (ad k0), .int x1]) ++ List.replicate (2 - (lg_sl ([.ref (ad k0), .int x1])).length) Slot.unset).toArray = ls at hl ⊢
  have hl : lv_has ls 2 [(0, .ref (ad k0)), (1, .int x1)] := hl
  obtain ⟨H, hH⟩ : ∃ H : Heap, H = s.heap := ⟨_, rfl⟩
  have hgo : ∀ (H : Heap) (locs : List Loc), WI g 76 (cX g ad) ad V s.heap H locs → W p l e (headSpec wsX3_kindAt rm_X3_kindAt).room s m args below meth c H locs 0 0 (MQ below (va_Qi K (WPost 76 (cX g ad) ad g) (AW ad 76 s.heap.size)) args s 0 0 (AW ad 76 s.heap.size)) (F0 m 0 ls []) := by
    intro H locs hI
    refine lv_iload_n hx hb dX3_kindAt_0 rfl (lv_at hl 1 rfl) ?_
    refine lv_iconst (v := (0 : Int32)) hx hb dX3_kindAt_1 (by decide) ?_
    refine lv_aload_n hx hb dX3_kindAt_2 rfl (lv_at hl 0 rfl) ?_
    refine xg3_5 (k := k0) hx hb hts hin3 hown hK hI hk0 hw_0 dX3_kindAt_3 ?_
    refine lv_iconst (v := (1 : Int32)) hx hb dX3_kindAt_6 (by decide) ?_
    refine lv_isub hx hb dX3_kindAt_7 ?_
    refine x_afti (va_runSN (As := [.int x1, .int (0 : Int32), .int ((V k0 5) - (1 : Int32))]) (rest := []) ⟨hx, hb, hml, hown, hts⟩ (c_X7_isOut l g ad H.size V x1 (0 : Int32) ((V k0 5) - (1 : Int32)) _ hw) ⟨va_cnB 3 hts gX3_kindAt_X7_isOut_n54 rfl rfl rfl (hE.1 _ (List.mem_of_getElem? (i := 2) rfl)) hw_2 (by decide +kernel) ⟨Nat.le_of_ble_eq_true rfl, Nat.le_of_ble_eq_true rfl⟩, hw_3, trivial⟩ (x_preS hK hE hI) rfl rfl hl.1 rfl (lv_room (Nat.le_of_ble_eq_true rfl)) dX3_kindAt_8 ⟨Nat.zero_le _, Nat.zero_le _⟩) hI (fun r2 V1 H locs hw hI => ?_)
    refine lv_if_eq (tgt := 18) hx hb dX3_kindAt_11 (by decide) (fun c3 => ?_) (fun c3 => ?_)
    · replace hw := hw.1 c3
      refine lv_aload_n hx hb dX3_kindAt_18 rfl (lv_at hl 0 rfl) ?_
      refine xg3_1 (k := k0) hx hb hts hin3 hown hK hI hk0 hw_1 dX3_kindAt_19 ?_
      refine lv_iload_n hx hb dX3_kindAt_22 rfl (lv_at hl 1 rfl) ?_
      obtain ⟨h4, hw⟩ := hw
      refine x_iald (k := k0 + 2) hx hb hK hI (kX_lt (kX_3s hk0).2.2.1 (by decide)) (cX_9 (kX_3s hk0).2.2.1 (kX_3s hk0).2.2.2.1) h4 dX3_kindAt_23 ?_
      exact W.iret (v := (V1 (k0 + 2) (x1).toNatClampNeg)) hx hb hr (x_reti hI hw) hI.2.2.2.2 dX3_kindAt_24
    · replace hw := hw.2 c3
      refine lv_iconst (v := (0 : Int32)) hx hb dX3_kindAt_14 (by decide) ?_
      refine lv_goto (tgt := 24) hx hb dX3_kindAt_15 (by decide) ?_
      exact W.iret (v := (0 : Int32)) hx hb hr (x_reti hI hw) hI.2.2.2.2 dX3_kindAt_24
  exact hgo s.heap [] hI
def rm_X3_forceAt : Room := { frames := 1, cells := 0, slots := 0, locals := 22 }
set_option maxHeartbeats 4000000 in
set_option maxRecDepth 100000 in
theorem c_X3_forceAt (l : Launch) (g : GP) (ad : Nat → Nat) (sz : Nat) (V : VT) (k0 : Nat) (x1 : Int32) (hk0 : kX k0 = 3) (K : Int32 → VT → Prop) (hw : wp_X3_forceAt V k0 x1 K) : Met l yX3_forceAt wsX3_forceAt rm_X3_forceAt (va_Pc [.ref (ad k0), .int x1] (WPre 76 (cX g ad) ad g V sz)) (va_Qi K (WPost 76 (cX g ad) ad g) (AW ad 76 sz)) 0 0 (AW ad 76 sz) := by
  refine Met.ofW (cc := cX3_forceAt) (maxL := 2) (ret := (some .int)) (by decide) rfl ?_
  intro p e s m args below meth c s₁ B hml hv
  obtain ⟨ha, hv⟩ := hv
  obtain rfl := hv.1
  have hI : WI g 76 (cX g ad) ad V s.heap s.heap [] := WI.start hv
  have hK := hv.2.2.1
  have hE := hv.2.2.2.2
  have hx := B.exec
  have hb := B.bytes
  have hr := B.returns
  have hts := atoms_spec (ws := wsX3_forceAt) B.pre
  have hown : s.vm.findClass RX3 = some m.cls := findClass_of_methodNamed B.named
  have hlocks := B.notSynchronized
  have hw_0 := hts (.fieldLink RX3 32 "HoopLane$Lane" "taps" "I") (by decide +kernel)
  have hw_1 := hts (.fieldLink RX3 18 "HoopLane$Lane" "forces" "[I") (by decide +kernel)
  have hw_2 := hts (.initialized RX7) (by decide +kernel)
  have hw_3 := hts (.static yX7_isOut) (by decide +kernel)
  have hin3 : ∀ w ∈ wsX30, w ∈ wsX3_forceAt := by decide +kernel
  have hl := lv_entry ([.ref (ad k0), .int x1]) (n := 2) (Nat.le_of_ble_eq_true rfl)
  have hent : entryFrame m args 2 = F0 m 0 ((lg_sl ([.ref (ad k0), .int x1]) ++ List.replicate (2 - (lg_sl ([.ref (ad k0), .int x1])).length) Slot.unset).toArray) [] := by rw [ha, lg_entry_eq]
  rw [hent]
  generalize (lg_sl ([.ref (ad k0), .int x1]) ++ List.replicate (2 - (lg_sl ([.ref (ad k0), .int x1])).length) Slot.unset).toArray = ls at hl ⊢
  have hl : lv_has ls 2 [(0, .ref (ad k0)), (1, .int x1)] := hl
  obtain ⟨H, hH⟩ : ∃ H : Heap, H = s.heap := ⟨_, rfl⟩
  have hgo : ∀ (H : Heap) (locs : List Loc), WI g 76 (cX g ad) ad V s.heap H locs → W p l e (headSpec wsX3_forceAt rm_X3_forceAt).room s m args below meth c H locs 0 0 (MQ below (va_Qi K (WPost 76 (cX g ad) ad g) (AW ad 76 s.heap.size)) args s 0 0 (AW ad 76 s.heap.size)) (F0 m 0 ls []) := by
    intro H locs hI
    refine lv_iload_n hx hb dX3_forceAt_0 rfl (lv_at hl 1 rfl) ?_
    refine lv_iconst (v := (0 : Int32)) hx hb dX3_forceAt_1 (by decide) ?_
    refine lv_aload_n hx hb dX3_forceAt_2 rfl (lv_at hl 0 rfl) ?_
    refine xg3_5 (k := k0) hx hb hts hin3 hown hK hI hk0 hw_0 dX3_forceAt_3 ?_
    refine lv_iconst (v := (1 : Int32)) hx hb dX3_forceAt_6 (by decide) ?_
    refine lv_isub hx hb dX3_forceAt_7 ?_
    refine x_afti (va_runSN (As := [.int x1, .int (0 : Int32), .int ((V k0 5) - (1 : Int32))]) (rest := []) ⟨hx, hb, hml, hown, hts⟩ (c_X7_isOut l g ad H.size V x1 (0 : Int32) ((V k0 5) - (1 : Int32)) _ hw) ⟨va_cnB 3 hts gX3_forceAt_X7_isOut_n54 rfl rfl rfl (hE.1 _ (List.mem_of_getElem? (i := 2) rfl)) hw_2 (by decide +kernel) ⟨Nat.le_of_ble_eq_true rfl, Nat.le_of_ble_eq_true rfl⟩, hw_3, trivial⟩ (x_preS hK hE hI) rfl rfl hl.1 rfl (lv_room (Nat.le_of_ble_eq_true rfl)) dX3_forceAt_8 ⟨Nat.zero_le _, Nat.zero_le _⟩) hI (fun r2 V1 H locs hw hI => ?_)
    refine lv_if_eq (tgt := 18) hx hb dX3_forceAt_11 (by decide) (fun c3 => ?_) (fun c3 => ?_)
    · replace hw := hw.1 c3
      refine lv_aload_n hx hb dX3_forceAt_18 rfl (lv_at hl 0 rfl) ?_
      refine xg3_2 (k := k0) hx hb hts hin3 hown hK hI hk0 hw_1 dX3_forceAt_19 ?_
      refine lv_iload_n hx hb dX3_forceAt_22 rfl (lv_at hl 1 rfl) ?_
      obtain ⟨h4, hw⟩ := hw
      refine x_iald (k := k0 + 3) hx hb hK hI (kX_lt (kX_3s hk0).2.2.2.2.1 (by decide)) (cX_9 (kX_3s hk0).2.2.2.2.1 (kX_3s hk0).2.2.2.2.2.1) h4 dX3_forceAt_23 ?_
      exact W.iret (v := (V1 (k0 + 3) (x1).toNatClampNeg)) hx hb hr (x_reti hI hw) hI.2.2.2.2 dX3_forceAt_24
    · replace hw := hw.2 c3
      refine lv_iconst (v := (0 : Int32)) hx hb dX3_forceAt_14 (by decide) ?_
      refine lv_goto (tgt := 24) hx hb dX3_forceAt_15 (by decide) ?_
      exact W.iret (v := (0 : Int32)) hx hb hr (x_reti hI hw) hI.2.2.2.2 dX3_forceAt_24
  exact hgo s.heap [] hI
def rm_X1_begin : Room := { frames := 2, cells := 0, slots := 0, locals := 43 }
set_option maxHeartbeats 4000000 in
set_option maxRecDepth 100000 in
theorem c_X1_begin (l : Launch) (g : GP) (ad : Nat → Nat) (sz : Nat) (V : VT) (k1 : Nat) (x2 : Int32) (hk1 : kX k1 = 3) (K : VT → Prop) (hw : wp_X1_begin V k1 x2 K) : Met l yX1_begin wsX1_begin rm_X1_begin (va_Pc [.ref (ad 13), .ref (ad k1), .int x2] (WPre 76 (cX g ad) ad g V sz)) (va_Qv K (WPost 76 (cX g ad) ad g) (AW ad 76 sz)) 0 0 (AW ad 76 sz) := by
  refine Met.ofW (cc := cX1_begin) (maxL := 3) (ret := none) (by decide) rfl ?_
  intro p e s m args below meth c s₁ B hml hv
  obtain ⟨ha, hv⟩ := hv
  obtain rfl := hv.1
  have hI : WI g 76 (cX g ad) ad V s.heap s.heap [] := WI.start hv
  have hK := hv.2.2.1
  have hE := hv.2.2.2.2
  have hx := B.exec
  have hb := B.bytes
  have hr := B.returns
  have hts := atoms_spec (ws := wsX1_begin) B.pre
  have hown : s.vm.findClass RX1 = some m.cls := findClass_of_methodNamed B.named
  have hlocks := B.notSynchronized
  have hw_0 := hts (.fieldLink RX1 15 "HoopLane$Asks" "bodies" "I") (by decide +kernel)
  have hw_1 := hts (.fieldLink RX1 19 "HoopLane$Asks" "kind" "I") (by decide +kernel)
  have hw_2 := hts (.fieldLink RX1 22 "HoopLane$Asks" "number" "I") (by decide +kernel)
  have hw_3 := hts (.fieldLink RX1 25 "HoopLane$Asks" "force" "I") (by decide +kernel)
  have hw_4 := hts (.fieldLink RX1 40 "HoopLane$Lane" "hoop" "LHoopLane$Hoop;") (by decide +kernel)
  have hw_5 := hts (.fieldLink RX1 44 "HoopLane$Hoop" "pace" "I") (by decide +kernel)
  have hw_6 := hts (.fieldLink RX1 28 "HoopLane$Asks" "pace" "I") (by decide +kernel)
  have hin1 : ∀ w ∈ wsX10, w ∈ wsX1_begin := by decide +kernel
  have hin3 : ∀ w ∈ wsX30, w ∈ wsX1_begin := by decide +kernel
  have hin2 : ∀ w ∈ wsX20, w ∈ wsX1_begin := by decide +kernel
  have hl := lv_entry ([.ref (ad 13), .ref (ad k1), .int x2]) (n := 3) (Nat.le_of_ble_eq_true rfl)
  have hent : entryFrame m args 3 = F0 m 0 ((lg_sl ([.ref (ad 13), .ref (ad k1), .int x2]) ++ List.replicate (3 - (lg_sl ([.ref (ad 13), .ref (ad k1), .int x2])).length) Slot.unset).toArray) [] := by rw [ha, lg_entry_eq]
  rw [hent]
  generalize (lg_sl ([.ref (ad 13), .ref (ad k1), .int x2]) ++ List.replicate (3 - (lg_sl ([.ref (ad 13), .ref (ad k1), .int x2])).length) Slot.unset).toArray = ls at hl ⊢
  have hl : lv_has ls 3 [(0, .ref (ad 13)), (1, .ref (ad k1)), (2, .int x2)] := hl
  obtain ⟨H, hH⟩ : ∃ H : Heap, H = s.heap := ⟨_, rfl⟩
  have hgo : ∀ (H : Heap) (locs : List Loc), WI g 76 (cX g ad) ad V s.heap H locs → W p l e (headSpec wsX1_begin rm_X1_begin).room s m args below meth c H locs 0 0 (MQ below (va_Qv K (WPost 76 (cX g ad) ad g) (AW ad 76 s.heap.size)) args s 0 0 (AW ad 76 s.heap.size)) (F0 m 0 ls []) := by
    intro H locs hI
    refine lv_aload_n hx hb dX1_begin_0 rfl (lv_at hl 0 rfl) ?_
    refine lv_iconst (v := (0 : Int32)) hx hb dX1_begin_1 (by decide) ?_
    refine xp1_1 (k := 13) hx hb hts hin1 hown hK hI (by decide) hw_0 dX1_begin_2 (fun V1 H locs eV1 hI => ?_)
    replace hw := hw V1 eV1
    refine lv_aload_n hx hb dX1_begin_5 rfl (lv_at hl 0 rfl) ?_
    refine lv_aload_n hx hb dX1_begin_6 rfl (lv_at hl 1 rfl) ?_
    refine lv_iload_n hx hb dX1_begin_7 rfl (lv_at hl 2 rfl) ?_
    refine x_afti (va_runV (As := [.int x2]) (rest := [.ref (ad 13)]) ⟨hx, hb, hml, hown, hts⟩ (c_X3_kindAt l g ad H.size V1 k1 x2 hk1 _ hw) (cwV 1 hts gX1_begin_X3_kindAt rfl rfl rfl (by decide +kernel) ⟨Nat.le_of_ble_eq_true rfl, Nat.le_of_ble_eq_true rfl⟩) (x_preV (k := k1) hK hE hI (kX_lt hk1 (by decide)) (cX_3 hk1) rfl) rfl rfl hl.1 rfl (lv_room (Nat.le_of_ble_eq_true rfl)) dX1_begin_8 ⟨Nat.zero_le _, Nat.zero_le _⟩) hI (fun r3 V2 H locs hw hI => ?_)
    refine xp1_2 (k := 13) hx hb hts hin1 hown hK hI (by decide) hw_1 dX1_begin_11 (fun V4 H locs eV4 hI => ?_)
    replace hw := hw V4 eV4
    refine lv_aload_n hx hb dX1_begin_14 rfl (lv_at hl 0 rfl) ?_
    refine lv_iload_n hx hb dX1_begin_15 rfl (lv_at hl 2 rfl) ?_
    refine xp1_3 (k := 13) hx hb hts hin1 hown hK hI (by decide) hw_2 dX1_begin_16 (fun V5 H locs eV5 hI => ?_)
    replace hw := hw V5 eV5
    refine lv_aload_n hx hb dX1_begin_19 rfl (lv_at hl 0 rfl) ?_
    refine lv_aload_n hx hb dX1_begin_20 rfl (lv_at hl 1 rfl) ?_
    refine lv_iload_n hx hb dX1_begin_21 rfl (lv_at hl 2 rfl) ?_
    refine x_afti (va_runV (As := [.int x2]) (rest := [.ref (ad 13)]) ⟨hx, hb, hml, hown, hts⟩ (c_X3_forceAt l g ad H.size V5 k1 x2 hk1 _ hw) (cwV 1 hts gX1_begin_X3_forceAt rfl rfl rfl (by decide +kernel) ⟨Nat.le_of_ble_eq_true rfl, Nat.le_of_ble_eq_true rfl⟩) (x_preV (k := k1) hK hE hI (kX_lt hk1 (by decide)) (cX_3 hk1) rfl) rfl rfl hl.1 rfl (lv_room (Nat.le_of_ble_eq_true rfl)) dX1_begin_22 ⟨Nat.zero_le _, Nat.zero_le _⟩) hI (fun r7 V6 H locs hw hI => ?_)
    refine xp1_4 (k := 13) hx hb hts hin1 hown hK hI (by decide) hw_3 dX1_begin_25 (fun V8 H locs eV8 hI => ?_)
    replace hw := hw V8 eV8
    refine lv_aload_n hx hb dX1_begin_28 rfl (lv_at hl 0 rfl) ?_
    refine lv_aload_n hx hb dX1_begin_29 rfl (lv_at hl 1 rfl) ?_
    refine xg3_3 (k := k1) hx hb hts hin3 hown hK hI hk1 hw_4 dX1_begin_30 ?_
    refine xg2_1 (k := k1 + 4) hx hb hts hin2 hown hK hI (kX_3s hk1).2.2.2.2.2.2 hw_5 dX1_begin_33 ?_
    refine xp1_5 (k := 13) hx hb hts hin1 hown hK hI (by decide) hw_6 dX1_begin_36 (fun V9 H locs eV9 hI => ?_)
    replace hw := hw V9 eV9
    exact W.vret hx hb hr (x_retv hI hw) hI.2.2.2.2 dX1_begin_39
  exact hgo s.heap [] hI
def rm_X1_leave : Room := { frames := 0, cells := 0, slots := 0, locals := 0 }
set_option maxHeartbeats 4000000 in
set_option maxRecDepth 100000 in
theorem c_X1_leave (l : Launch) (g : GP) (ad : Nat → Nat) (sz : Nat) (V : VT) (x1 : Int32)  (K : VT → Prop) (hw : wp_X1_leave V x1 K) : Met l yX1_leave wsX1_leave rm_X1_leave (va_Pc [.ref (ad 13), .int x1] (WPre 76 (cX g ad) ad g V sz)) (va_Qv K (WPost 76 (cX g ad) ad g) (AW ad 76 sz)) 0 0 (AW ad 76 sz) := by
  refine Met.ofW (cc := cX1_leave) (maxL := 2) (ret := none) (by decide) rfl ?_
  intro p e s m args below meth c s₁ B hml hv
  obtain ⟨ha, hv⟩ := hv
  obtain rfl := hv.1
  have hI : WI g 76 (cX g ad) ad V s.heap s.heap [] := WI.start hv
  have hK := hv.2.2.1
  have hE := hv.2.2.2.2
  have hx := B.exec
  have hb := B.bytes
  have hr := B.returns
  have hts := atoms_spec (ws := wsX1_leave) B.pre
  have hown : s.vm.findClass RX1 = some m.cls := findClass_of_methodNamed B.named
  have hlocks := B.notSynchronized
  have hw_0 := hts (.fieldLink RX1 15 "HoopLane$Asks" "bodies" "I") (by decide +kernel)
  have hw_1 := hts (.fieldLink RX1 9 "HoopLane$Asks" "trace" "[I") (by decide +kernel)
  have hin1 : ∀ w ∈ wsX10, w ∈ wsX1_leave := by decide +kernel
  have hl := lv_entry ([.ref (ad 13), .int x1]) (n := 2) (Nat.le_of_ble_eq_true rfl)
  have hent : entryFrame m args 2 = F0 m 0 ((lg_sl ([.ref (ad 13), .int x1]) ++ List.replicate (2 - (lg_sl ([.ref (ad 13), .int x1])).length) Slot.unset).toArray) [] := by rw [ha, lg_entry_eq]
  rw [hent]
  generalize (lg_sl ([.ref (ad 13), .int x1]) ++ List.replicate (2 - (lg_sl ([.ref (ad 13), .int x1])).length) Slot.unset).toArray = ls at hl ⊢
  have hl : lv_has ls 2 [(0, .ref (ad 13)), (1, .int x1)] := hl
  obtain ⟨H, hH⟩ : ∃ H : Heap, H = s.heap := ⟨_, rfl⟩
  have hgo : ∀ (H : Heap) (locs : List Loc), WI g 76 (cX g ad) ad V s.heap H locs → W p l e (headSpec wsX1_leave rm_X1_leave).room s m args below meth c H locs 0 0 (MQ below (va_Qv K (WPost 76 (cX g ad) ad g) (AW ad 76 s.heap.size)) args s 0 0 (AW ad 76 s.heap.size)) (F0 m 0 ls []) := by
    intro H locs hI
    refine lv_aload_n hx hb dX1_leave_0 rfl (lv_at hl 0 rfl) ?_
    refine xg1_1 (k := 13) hx hb hts hin1 hown hK hI (by decide) hw_0 dX1_leave_1 ?_
    refine lv_aload_n hx hb dX1_leave_4 rfl (lv_at hl 0 rfl) ?_
    refine xg1_0 (k := 13) hx hb hts hin1 hown hK hI (by decide) hw_1 dX1_leave_5 ?_
    refine x_alen (k := 14) (n := 16) hx hb hK hI (by decide) (cX_9 (by decide) (by decide)) dX1_leave_8 ?_
    refine lv_icmp_ge (tgt := 32) hx hb dX1_leave_9 (by decide) (fun c1 => ?_) (fun c1 => ?_)
    · replace hw := hw.1 c1
      exact W.vret hx hb hr (x_retv hI hw) hI.2.2.2.2 dX1_leave_32
    · replace hw := hw.2 c1
      refine lv_aload_n hx hb dX1_leave_12 rfl (lv_at hl 0 rfl) ?_
      refine xg1_0 (k := 13) hx hb hts hin1 hown hK hI (by decide) hw_1 dX1_leave_13 ?_
      refine lv_aload_n hx hb dX1_leave_16 rfl (lv_at hl 0 rfl) ?_
      refine xg1_1 (k := 13) hx hb hts hin1 hown hK hI (by decide) hw_0 dX1_leave_17 ?_
      refine lv_iload_n hx hb dX1_leave_20 rfl (lv_at hl 1 rfl) ?_
      obtain ⟨h2, hw⟩ := hw
      refine x_iastV (k := 14) hx hb hK hI (cX_loc g ad) (by decide) (fun _ => cX_9 (by decide) (by decide)) h2 dX1_leave_21 (fun V3 H locs eV3 hI => ?_)
      replace hw := hw V3 eV3
      refine lv_aload_n hx hb dX1_leave_22 rfl (lv_at hl 0 rfl) ?_
      refine lv_dup hx hb dX1_leave_23 rfl ?_
      refine xg1_1 (k := 13) hx hb hts hin1 hown hK hI (by decide) hw_0 dX1_leave_24 ?_
      refine lv_iconst (v := (1 : Int32)) hx hb dX1_leave_27 (by decide) ?_
      refine lv_iadd hx hb dX1_leave_28 ?_
      refine xp1_1 (k := 13) hx hb hts hin1 hown hK hI (by decide) hw_0 dX1_leave_29 (fun V4 H locs eV4 hI => ?_)
      replace hw := hw V4 eV4
      exact W.vret hx hb hr (x_retv hI hw) hI.2.2.2.2 dX1_leave_32
  exact hgo s.heap [] hI
def rm_X1_lentSize : Room := { frames := 1, cells := 0, slots := 0, locals := 21 }
set_option maxHeartbeats 4000000 in
set_option maxRecDepth 100000 in
theorem c_X1_lentSize (l : Launch) (g : GP) (ad : Nat → Nat) (sz : Nat) (V : VT)   (K : Int32 → VT → Prop) (hw : wp_X1_lentSize V  K) : Met l yX1_lentSize wsX1_lentSize rm_X1_lentSize (va_Pc [.ref (ad 13)] (WPre 76 (cX g ad) ad g V sz)) (va_Qi K (WPost 76 (cX g ad) ad g) (AW ad 76 sz)) 0 0 (AW ad 76 sz) := by
  refine Met.ofW (cc := cX1_lentSize) (maxL := 1) (ret := (some .int)) (by decide) rfl ?_
  intro p e s m args below meth c s₁ B hml hv
  obtain ⟨ha, hv⟩ := hv
  obtain rfl := hv.1
  have hI : WI g 76 (cX g ad) ad V s.heap s.heap [] := WI.start hv
  have hK := hv.2.2.1
  have hE := hv.2.2.2.2
  have hx := B.exec
  have hb := B.bytes
  have hr := B.returns
  have hts := atoms_spec (ws := wsX1_lentSize) B.pre
  have hown : s.vm.findClass RX1 = some m.cls := findClass_of_methodNamed B.named
  have hlocks := B.notSynchronized
  have hw_0 := hts (.fieldLink RX1 25 "HoopLane$Asks" "force" "I") (by decide +kernel)
  have hin1 : ∀ w ∈ wsX10, w ∈ wsX1_lentSize := by decide +kernel
  have hl := lv_entry ([.ref (ad 13)]) (n := 1) (Nat.le_of_ble_eq_true rfl)
  have hent : entryFrame m args 1 = F0 m 0 ((lg_sl ([.ref (ad 13)]) ++ List.replicate (1 - (lg_sl ([.ref (ad 13)])).length) Slot.unset).toArray) [] := by rw [ha, lg_entry_eq]
  rw [hent]
  generalize (lg_sl ([.ref (ad 13)]) ++ List.replicate (1 - (lg_sl ([.ref (ad 13)])).length) Slot.unset).toArray = ls at hl ⊢
  have hl : lv_has ls 1 [(0, .ref (ad 13))] := hl
  obtain ⟨H, hH⟩ : ∃ H : Heap, H = s.heap := ⟨_, rfl⟩
  have hgo : ∀ (H : Heap) (locs : List Loc), WI g 76 (cX g ad) ad V s.heap H locs → W p l e (headSpec wsX1_lentSize rm_X1_lentSize).room s m args below meth c H locs 0 0 (MQ below (va_Qi K (WPost 76 (cX g ad) ad g) (AW ad 76 s.heap.size)) args s 0 0 (AW ad 76 s.heap.size)) (F0 m 0 ls []) := by
    intro H locs hI
    refine lv_aload_n hx hb dX1_lentSize_0 rfl (lv_at hl 0 rfl) ?_
    refine lv_bipush (v := (10 : Int32)) hx hb dX1_lentSize_1 (by decide) ?_
    refine x_aftv (va_runV (As := [.int (10 : Int32)]) (rest := []) ⟨hx, hb, hml, hown, hts⟩ (c_X1_leave l g ad H.size V (10 : Int32) _ hw) (cwV 1 hts gX1_lentSize_X1_leave rfl rfl rfl (by decide +kernel) ⟨Nat.le_of_ble_eq_true rfl, Nat.le_of_ble_eq_true rfl⟩) (x_preV (k := 13) hK hE hI (by decide) (cX_1 (by decide)) rfl) rfl rfl hl.1 rfl (lv_room (Nat.le_of_ble_eq_true rfl)) dX1_lentSize_3 ⟨Nat.zero_le _, Nat.zero_le _⟩) hI (fun V1 H locs hw hI => ?_)
    refine lv_aload_n hx hb dX1_lentSize_6 rfl (lv_at hl 0 rfl) ?_
    refine xg1_4 (k := 13) hx hb hts hin1 hown hK hI (by decide) hw_0 dX1_lentSize_7 ?_
    exact W.iret (v := (V1 13 4)) hx hb hr (x_reti hI hw) hI.2.2.2.2 dX1_lentSize_10
  exact hgo s.heap [] hI
def rm_X1_lentMark : Room := { frames := 1, cells := 0, slots := 0, locals := 21 }
set_option maxHeartbeats 4000000 in
set_option maxRecDepth 100000 in
theorem c_X1_lentMark (l : Launch) (g : GP) (ad : Nat → Nat) (sz : Nat) (V : VT)   (K : Int32 → VT → Prop) (hw : wp_X1_lentMark V  K) : Met l yX1_lentMark wsX1_lentMark rm_X1_lentMark (va_Pc [.ref (ad 13)] (WPre 76 (cX g ad) ad g V sz)) (va_Qi K (WPost 76 (cX g ad) ad g) (AW ad 76 sz)) 0 0 (AW ad 76 sz) := by
  refine Met.ofW (cc := cX1_lentMark) (maxL := 1) (ret := (some .int)) (by decide) rfl ?_
  intro p e s m args below meth c s₁ B hml hv
  obtain ⟨ha, hv⟩ := hv
  obtain rfl := hv.1
  have hI : WI g 76 (cX g ad) ad V s.heap s.heap [] := WI.start hv
  have hK := hv.2.2.1
  have hE := hv.2.2.2.2
  have hx := B.exec
  have hb := B.bytes
  have hr := B.returns
  have hts := atoms_spec (ws := wsX1_lentMark) B.pre
  have hown : s.vm.findClass RX1 = some m.cls := findClass_of_methodNamed B.named
  have hlocks := B.notSynchronized
  have hw_0 := hts (.fieldLink RX1 22 "HoopLane$Asks" "number" "I") (by decide +kernel)
  have hin1 : ∀ w ∈ wsX10, w ∈ wsX1_lentMark := by decide +kernel
  have hl := lv_entry ([.ref (ad 13)]) (n := 1) (Nat.le_of_ble_eq_true rfl)
  have hent : entryFrame m args 1 = F0 m 0 ((lg_sl ([.ref (ad 13)]) ++ List.replicate (1 - (lg_sl ([.ref (ad 13)])).length) Slot.unset).toArray) [] := by rw [ha, lg_entry_eq]
  rw [hent]
  generalize (lg_sl ([.ref (ad 13)]) ++ List.replicate (1 - (lg_sl ([.ref (ad 13)])).length) Slot.unset).toArray = ls at hl ⊢
  have hl : lv_has ls 1 [(0, .ref (ad 13))] := hl
  obtain ⟨H, hH⟩ : ∃ H : Heap, H = s.heap := ⟨_, rfl⟩
  have hgo : ∀ (H : Heap) (locs : List Loc), WI g 76 (cX g ad) ad V s.heap H locs → W p l e (headSpec wsX1_lentMark rm_X1_lentMark).room s m args below meth c H locs 0 0 (MQ below (va_Qi K (WPost 76 (cX g ad) ad g) (AW ad 76 s.heap.size)) args s 0 0 (AW ad 76 s.heap.size)) (F0 m 0 ls []) := by
    intro H locs hI
    refine lv_aload_n hx hb dX1_lentMark_0 rfl (lv_at hl 0 rfl) ?_
    refine lv_bipush (v := (20 : Int32)) hx hb dX1_lentMark_1 (by decide) ?_
    refine x_aftv (va_runV (As := [.int (20 : Int32)]) (rest := []) ⟨hx, hb, hml, hown, hts⟩ (c_X1_leave l g ad H.size V (20 : Int32) _ hw) (cwV 1 hts gX1_lentMark_X1_leave rfl rfl rfl (by decide +kernel) ⟨Nat.le_of_ble_eq_true rfl, Nat.le_of_ble_eq_true rfl⟩) (x_preV (k := 13) hK hE hI (by decide) (cX_1 (by decide)) rfl) rfl rfl hl.1 rfl (lv_room (Nat.le_of_ble_eq_true rfl)) dX1_lentMark_3 ⟨Nat.zero_le _, Nat.zero_le _⟩) hI (fun V1 H locs hw hI => ?_)
    refine lv_aload_n hx hb dX1_lentMark_6 rfl (lv_at hl 0 rfl) ?_
    refine xg1_3 (k := 13) hx hb hts hin1 hown hK hI (by decide) hw_0 dX1_lentMark_7 ?_
    exact W.iret (v := (V1 13 3)) hx hb hr (x_reti hI hw) hI.2.2.2.2 dX1_lentMark_10
  exact hgo s.heap [] hI
def rm_X1_drivingMark : Room := { frames := 2, cells := 0, slots := 0, locals := 41 }
set_option maxHeartbeats 4000000 in
set_option maxRecDepth 100000 in
theorem c_X1_drivingMark (l : Launch) (g : GP) (ad : Nat → Nat) (sz : Nat) (V : VT)   (K : Int32 → VT → Prop) (hw : wp_X1_drivingMark V  K) : Met l yX1_drivingMark wsX1_drivingMark rm_X1_drivingMark (va_Pc [.ref (ad 13)] (WPre 76 (cX g ad) ad g V sz)) (va_Qi K (WPost 76 (cX g ad) ad g) (AW ad 76 sz)) 0 0 (AW ad 76 sz) := by
  refine Met.ofW (cc := cX1_drivingMark) (maxL := 1) (ret := (some .int)) (by decide) rfl ?_
  intro p e s m args below meth c s₁ B hml hv
  obtain ⟨ha, hv⟩ := hv
  obtain rfl := hv.1
  have hI : WI g 76 (cX g ad) ad V s.heap s.heap [] := WI.start hv
  have hK := hv.2.2.1
  have hE := hv.2.2.2.2
  have hx := B.exec
  have hb := B.bytes
  have hr := B.returns
  have hts := atoms_spec (ws := wsX1_drivingMark) B.pre
  have hown : s.vm.findClass RX1 = some m.cls := findClass_of_methodNamed B.named
  have hlocks := B.notSynchronized
  have hw_0 := hts (.fieldLink RX1 28 "HoopLane$Asks" "pace" "I") (by decide +kernel)
  have hin1 : ∀ w ∈ wsX10, w ∈ wsX1_drivingMark := by decide +kernel
  have hl := lv_entry ([.ref (ad 13)]) (n := 1) (Nat.le_of_ble_eq_true rfl)
  have hent : entryFrame m args 1 = F0 m 0 ((lg_sl ([.ref (ad 13)]) ++ List.replicate (1 - (lg_sl ([.ref (ad 13)])).length) Slot.unset).toArray) [] := by rw [ha, lg_entry_eq]
  rw [hent]
  generalize (lg_sl ([.ref (ad 13)]) ++ List.replicate (1 - (lg_sl ([.ref (ad 13)])).length) Slot.unset).toArray = ls at hl ⊢
  have hl : lv_has ls 1 [(0, .ref (ad 13))] := hl
  obtain ⟨H, hH⟩ : ∃ H : Heap, H = s.heap := ⟨_, rfl⟩
  have hgo : ∀ (H : Heap) (locs : List Loc), WI g 76 (cX g ad) ad V s.heap H locs → W p l e (headSpec wsX1_drivingMark rm_X1_drivingMark).room s m args below meth c H locs 0 0 (MQ below (va_Qi K (WPost 76 (cX g ad) ad g) (AW ad 76 s.heap.size)) args s 0 0 (AW ad 76 s.heap.size)) (F0 m 0 ls []) := by
    intro H locs hI
    refine lv_aload_n hx hb dX1_drivingMark_0 rfl (lv_at hl 0 rfl) ?_
    refine lv_bipush (v := (21 : Int32)) hx hb dX1_drivingMark_1 (by decide) ?_
    refine x_aftv (va_runV (As := [.int (21 : Int32)]) (rest := []) ⟨hx, hb, hml, hown, hts⟩ (c_X1_leave l g ad H.size V (21 : Int32) _ hw) (cwV 1 hts gX1_drivingMark_X1_leave rfl rfl rfl (by decide +kernel) ⟨Nat.le_of_ble_eq_true rfl, Nat.le_of_ble_eq_true rfl⟩) (x_preV (k := 13) hK hE hI (by decide) (cX_1 (by decide)) rfl) rfl rfl hl.1 rfl (lv_room (Nat.le_of_ble_eq_true rfl)) dX1_drivingMark_3 ⟨Nat.zero_le _, Nat.zero_le _⟩) hI (fun V1 H locs hw hI => ?_)
    refine lv_aload_n hx hb dX1_drivingMark_6 rfl (lv_at hl 0 rfl) ?_
    refine x_afti (va_runV (As := []) (rest := []) ⟨hx, hb, hml, hown, hts⟩ (c_X1_lentMark l g ad H.size V1  _ hw) (cwV 0 hts gX1_drivingMark_X1_lentMark rfl rfl rfl (by decide +kernel) ⟨Nat.le_of_ble_eq_true rfl, Nat.le_of_ble_eq_true rfl⟩) (x_preV (k := 13) hK hE hI (by decide) (cX_1 (by decide)) rfl) rfl rfl hl.1 rfl (lv_room (Nat.le_of_ble_eq_true rfl)) dX1_drivingMark_7 ⟨Nat.zero_le _, Nat.zero_le _⟩) hI (fun r3 V2 H locs hw hI => ?_)
    refine lv_aload_n hx hb dX1_drivingMark_10 rfl (lv_at hl 0 rfl) ?_
    refine xg1_5 (k := 13) hx hb hts hin1 hown hK hI (by decide) hw_0 dX1_drivingMark_11 ?_
    refine lv_iadd hx hb dX1_drivingMark_14 ?_
    exact W.iret (v := (r3 + (V2 13 5))) hx hb hr (x_reti hI hw) hI.2.2.2.2 dX1_drivingMark_15
  exact hgo s.heap [] hI
def rm_X1_drivenMark : Room := { frames := 3, cells := 0, slots := 0, locals := 61 }
set_option maxHeartbeats 4000000 in
set_option maxRecDepth 100000 in
theorem c_X1_drivenMark (l : Launch) (g : GP) (ad : Nat → Nat) (sz : Nat) (V : VT)   (K : Int32 → VT → Prop) (hw : wp_X1_drivenMark V  K) : Met l yX1_drivenMark wsX1_drivenMark rm_X1_drivenMark (va_Pc [.ref (ad 13)] (WPre 76 (cX g ad) ad g V sz)) (va_Qi K (WPost 76 (cX g ad) ad g) (AW ad 76 sz)) 0 0 (AW ad 76 sz) := by
  refine Met.ofW (cc := cX1_drivenMark) (maxL := 1) (ret := (some .int)) (by decide) rfl ?_
  intro p e s m args below meth c s₁ B hml hv
  obtain ⟨ha, hv⟩ := hv
  obtain rfl := hv.1
  have hI : WI g 76 (cX g ad) ad V s.heap s.heap [] := WI.start hv
  have hK := hv.2.2.1
  have hE := hv.2.2.2.2
  have hx := B.exec
  have hb := B.bytes
  have hr := B.returns
  have hts := atoms_spec (ws := wsX1_drivenMark) B.pre
  have hown : s.vm.findClass RX1 = some m.cls := findClass_of_methodNamed B.named
  have hlocks := B.notSynchronized
  have hw_0 := hts (.fieldLink RX1 19 "HoopLane$Asks" "kind" "I") (by decide +kernel)
  have hin1 : ∀ w ∈ wsX10, w ∈ wsX1_drivenMark := by decide +kernel
  have hl := lv_entry ([.ref (ad 13)]) (n := 1) (Nat.le_of_ble_eq_true rfl)
  have hent : entryFrame m args 1 = F0 m 0 ((lg_sl ([.ref (ad 13)]) ++ List.replicate (1 - (lg_sl ([.ref (ad 13)])).length) Slot.unset).toArray) [] := by rw [ha, lg_entry_eq]
  rw [hent]
  generalize (lg_sl ([.ref (ad 13)]) ++ List.replicate (1 - (lg_sl ([.ref (ad 13)])).length) Slot.unset).toArray = ls at hl ⊢
  have hl : lv_has ls 1 [(0, .ref (ad 13))] := hl
  obtain ⟨H, hH⟩ : ∃ H : Heap, H = s.heap := ⟨_, rfl⟩
  have hgo : ∀ (H : Heap) (locs : List Loc), WI g 76 (cX g ad) ad V s.heap H locs → W p l e (headSpec wsX1_drivenMark rm_X1_drivenMark).room s m args below meth c H locs 0 0 (MQ below (va_Qi K (WPost 76 (cX g ad) ad g) (AW ad 76 s.heap.size)) args s 0 0 (AW ad 76 s.heap.size)) (F0 m 0 ls []) := by
    intro H locs hI
    refine lv_aload_n hx hb dX1_drivenMark_0 rfl (lv_at hl 0 rfl) ?_
    refine xg1_2 (k := 13) hx hb hts hin1 hown hK hI (by decide) hw_0 dX1_drivenMark_1 ?_
    by_cases c1 : (V 13 2) = (2 : Int32)
    · replace hw := hw.1 c1
      refine lv_lookup (off := 28) (tgt := 32) hx hb dX1_drivenMark_4 (by decide) (by rw [c1]; rfl) (by decide) ?_
      refine lv_aload_n hx hb dX1_drivenMark_32 rfl (lv_at hl 0 rfl) ?_
      refine lv_bipush (v := (24 : Int32)) hx hb dX1_drivenMark_33 (by decide) ?_
      refine x_aftv (va_runV (As := [.int (24 : Int32)]) (rest := []) ⟨hx, hb, hml, hown, hts⟩ (c_X1_leave l g ad H.size V (24 : Int32) _ hw) (cwV 1 hts gX1_drivenMark_X1_leave rfl rfl rfl (by decide +kernel) ⟨Nat.le_of_ble_eq_true rfl, Nat.le_of_ble_eq_true rfl⟩) (x_preV (k := 13) hK hE hI (by decide) (cX_1 (by decide)) rfl) rfl rfl hl.1 rfl (lv_room (Nat.le_of_ble_eq_true rfl)) dX1_drivenMark_35 ⟨Nat.zero_le _, Nat.zero_le _⟩) hI (fun V2 H locs hw hI => ?_)
      refine lv_iconst (v := (2 : Int32)) hx hb dX1_drivenMark_38 (by decide) ?_
      refine lv_aload_n hx hb dX1_drivenMark_39 rfl (lv_at hl 0 rfl) ?_
      refine x_afti (va_runV (As := []) (rest := [.int (2 : Int32)]) ⟨hx, hb, hml, hown, hts⟩ (c_X1_drivingMark l g ad H.size V2  _ hw) (cwV 0 hts gX1_drivenMark_X1_drivingMark rfl rfl rfl (by decide +kernel) ⟨Nat.le_of_ble_eq_true rfl, Nat.le_of_ble_eq_true rfl⟩) (x_preV (k := 13) hK hE hI (by decide) (cX_1 (by decide)) rfl) rfl rfl hl.1 rfl (lv_room (Nat.le_of_ble_eq_true rfl)) dX1_drivenMark_40 ⟨Nat.zero_le _, Nat.zero_le _⟩) hI (fun r4 V3 H locs hw hI => ?_)
      refine lv_imul hx hb dX1_drivenMark_43 ?_
      exact W.iret (v := ((2 : Int32) * r4)) hx hb hr (x_reti hI hw) hI.2.2.2.2 dX1_drivenMark_44
    · skip
      by_cases c5 : (V 13 2) = (3 : Int32)
      · replace hw := hw.2.1 c5
        refine lv_lookup (off := 41) (tgt := 45) hx hb dX1_drivenMark_4 (by decide) (by rw [c5]; rfl) (by decide) ?_
        refine lv_aload_n hx hb dX1_drivenMark_45 rfl (lv_at hl 0 rfl) ?_
        refine lv_bipush (v := (22 : Int32)) hx hb dX1_drivenMark_46 (by decide) ?_
        refine x_aftv (va_runV (As := [.int (22 : Int32)]) (rest := []) ⟨hx, hb, hml, hown, hts⟩ (c_X1_leave l g ad H.size V (22 : Int32) _ hw) (cwV 1 hts gX1_drivenMark_X1_leave rfl rfl rfl (by decide +kernel) ⟨Nat.le_of_ble_eq_true rfl, Nat.le_of_ble_eq_true rfl⟩) (x_preV (k := 13) hK hE hI (by decide) (cX_1 (by decide)) rfl) rfl rfl hl.1 rfl (lv_room (Nat.le_of_ble_eq_true rfl)) dX1_drivenMark_48 ⟨Nat.zero_le _, Nat.zero_le _⟩) hI (fun V6 H locs hw hI => ?_)
        refine lv_aload_n hx hb dX1_drivenMark_51 rfl (lv_at hl 0 rfl) ?_
        refine x_afti (va_runV (As := []) (rest := []) ⟨hx, hb, hml, hown, hts⟩ (c_X1_drivingMark l g ad H.size V6  _ hw) (cwV 0 hts gX1_drivenMark_X1_drivingMark rfl rfl rfl (by decide +kernel) ⟨Nat.le_of_ble_eq_true rfl, Nat.le_of_ble_eq_true rfl⟩) (x_preV (k := 13) hK hE hI (by decide) (cX_1 (by decide)) rfl) rfl rfl hl.1 rfl (lv_room (Nat.le_of_ble_eq_true rfl)) dX1_drivenMark_52 ⟨Nat.zero_le _, Nat.zero_le _⟩) hI (fun r8 V7 H locs hw hI => ?_)
        refine lv_sipush (v := (1000 : Int32)) hx hb dX1_drivenMark_55 (by decide) ?_
        refine lv_isub hx hb dX1_drivenMark_58 ?_
        exact W.iret (v := (r8 - (1000 : Int32))) hx hb hr (x_reti hI hw) hI.2.2.2.2 dX1_drivenMark_59
      · skip
        replace hw := hw.2.2 c1 c5
        refine lv_lookup (off := 56) (tgt := 60) hx hb dX1_drivenMark_4 (by decide) (by have ec1 : ¬ Int32.toInt (V 13 2) = 2 := fun h => c1 (Int32.toInt_inj.mp (h.trans (by decide))); have ec5 : ¬ Int32.toInt (V 13 2) = 3 := fun h => c5 (Int32.toInt_inj.mp (h.trans (by decide))); have fc1 : ¬ (2 : Int) = Int32.toInt (V 13 2) := fun h => ec1 h.symm; have fc5 : ¬ (3 : Int) = Int32.toInt (V 13 2) := fun h => ec5 h.symm; simp [Op.lookupswitch.offset, List.find?, fc1, fc5]) (by decide) ?_
        refine lv_aload_n hx hb dX1_drivenMark_60 rfl (lv_at hl 0 rfl) ?_
        refine x_afti (va_runV (As := []) (rest := []) ⟨hx, hb, hml, hown, hts⟩ (c_X1_drivingMark l g ad H.size V  _ hw) (cwV 0 hts gX1_drivenMark_X1_drivingMark rfl rfl rfl (by decide +kernel) ⟨Nat.le_of_ble_eq_true rfl, Nat.le_of_ble_eq_true rfl⟩) (x_preV (k := 13) hK hE hI (by decide) (cX_1 (by decide)) rfl) rfl rfl hl.1 rfl (lv_room (Nat.le_of_ble_eq_true rfl)) dX1_drivenMark_61 ⟨Nat.zero_le _, Nat.zero_le _⟩) hI (fun r10 V9 H locs hw hI => ?_)
        exact W.iret (v := r10) hx hb hr (x_reti hI hw) hI.2.2.2.2 dX1_drivenMark_64
  exact hgo s.heap [] hI
def rm_X1_drivingSize : Room := { frames := 4, cells := 0, slots := 0, locals := 81 }
set_option maxHeartbeats 4000000 in
set_option maxRecDepth 100000 in
theorem c_X1_drivingSize (l : Launch) (g : GP) (ad : Nat → Nat) (sz : Nat) (V : VT)   (K : Int32 → VT → Prop) (hw : wp_X1_drivingSize V  K) : Met l yX1_drivingSize wsX1_drivingSize rm_X1_drivingSize (va_Pc [.ref (ad 13)] (WPre 76 (cX g ad) ad g V sz)) (va_Qi K (WPost 76 (cX g ad) ad g) (AW ad 76 sz)) 0 0 (AW ad 76 sz) := by
  refine Met.ofW (cc := cX1_drivingSize) (maxL := 1) (ret := (some .int)) (by decide) rfl ?_
  intro p e s m args below meth c s₁ B hml hv
  obtain ⟨ha, hv⟩ := hv
  obtain rfl := hv.1
  have hI : WI g 76 (cX g ad) ad V s.heap s.heap [] := WI.start hv
  have hK := hv.2.2.1
  have hE := hv.2.2.2.2
  have hx := B.exec
  have hb := B.bytes
  have hr := B.returns
  have hts := atoms_spec (ws := wsX1_drivingSize) B.pre
  have hown : s.vm.findClass RX1 = some m.cls := findClass_of_methodNamed B.named
  have hlocks := B.notSynchronized
  have hl := lv_entry ([.ref (ad 13)]) (n := 1) (Nat.le_of_ble_eq_true rfl)
  have hent : entryFrame m args 1 = F0 m 0 ((lg_sl ([.ref (ad 13)]) ++ List.replicate (1 - (lg_sl ([.ref (ad 13)])).length) Slot.unset).toArray) [] := by rw [ha, lg_entry_eq]
  rw [hent]
  generalize (lg_sl ([.ref (ad 13)]) ++ List.replicate (1 - (lg_sl ([.ref (ad 13)])).length) Slot.unset).toArray = ls at hl ⊢
  have hl : lv_has ls 1 [(0, .ref (ad 13))] := hl
  obtain ⟨H, hH⟩ : ∃ H : Heap, H = s.heap := ⟨_, rfl⟩
  have hgo : ∀ (H : Heap) (locs : List Loc), WI g 76 (cX g ad) ad V s.heap H locs → W p l e (headSpec wsX1_drivingSize rm_X1_drivingSize).room s m args below meth c H locs 0 0 (MQ below (va_Qi K (WPost 76 (cX g ad) ad g) (AW ad 76 s.heap.size)) args s 0 0 (AW ad 76 s.heap.size)) (F0 m 0 ls []) := by
    intro H locs hI
    refine lv_aload_n hx hb dX1_drivingSize_0 rfl (lv_at hl 0 rfl) ?_
    refine lv_bipush (v := (11 : Int32)) hx hb dX1_drivingSize_1 (by decide) ?_
    refine x_aftv (va_runV (As := [.int (11 : Int32)]) (rest := []) ⟨hx, hb, hml, hown, hts⟩ (c_X1_leave l g ad H.size V (11 : Int32) _ hw) (cwV 1 hts gX1_drivingSize_X1_leave rfl rfl rfl (by decide +kernel) ⟨Nat.le_of_ble_eq_true rfl, Nat.le_of_ble_eq_true rfl⟩) (x_preV (k := 13) hK hE hI (by decide) (cX_1 (by decide)) rfl) rfl rfl hl.1 rfl (lv_room (Nat.le_of_ble_eq_true rfl)) dX1_drivingSize_3 ⟨Nat.zero_le _, Nat.zero_le _⟩) hI (fun V1 H locs hw hI => ?_)
    refine lv_aload_n hx hb dX1_drivingSize_6 rfl (lv_at hl 0 rfl) ?_
    refine x_afti (va_runV (As := []) (rest := []) ⟨hx, hb, hml, hown, hts⟩ (c_X1_lentSize l g ad H.size V1  _ hw) (cwV 0 hts gX1_drivingSize_X1_lentSize rfl rfl rfl (by decide +kernel) ⟨Nat.le_of_ble_eq_true rfl, Nat.le_of_ble_eq_true rfl⟩) (x_preV (k := 13) hK hE hI (by decide) (cX_1 (by decide)) rfl) rfl rfl hl.1 rfl (lv_room (Nat.le_of_ble_eq_true rfl)) dX1_drivingSize_7 ⟨Nat.zero_le _, Nat.zero_le _⟩) hI (fun r3 V2 H locs hw hI => ?_)
    refine lv_aload_n hx hb dX1_drivingSize_10 rfl (lv_at hl 0 rfl) ?_
    refine x_afti (va_runV (As := []) (rest := [.int r3]) ⟨hx, hb, hml, hown, hts⟩ (c_X1_drivenMark l g ad H.size V2  _ hw) (cwV 0 hts gX1_drivingSize_X1_drivenMark rfl rfl rfl (by decide +kernel) ⟨Nat.le_of_ble_eq_true rfl, Nat.le_of_ble_eq_true rfl⟩) (x_preV (k := 13) hK hE hI (by decide) (cX_1 (by decide)) rfl) rfl rfl hl.1 rfl (lv_room (Nat.le_of_ble_eq_true rfl)) dX1_drivingSize_11 ⟨Nat.zero_le _, Nat.zero_le _⟩) hI (fun r5 V4 H locs hw hI => ?_)
    refine lv_iadd hx hb dX1_drivingSize_14 ?_
    exact W.iret (v := (r3 + r5)) hx hb hr (x_reti hI hw) hI.2.2.2.2 dX1_drivingSize_15
  exact hgo s.heap [] hI
def rm_X1_brakingSize : Room := { frames := 2, cells := 0, slots := 0, locals := 41 }
set_option maxHeartbeats 4000000 in
set_option maxRecDepth 100000 in
theorem c_X1_brakingSize (l : Launch) (g : GP) (ad : Nat → Nat) (sz : Nat) (V : VT)   (K : Int32 → VT → Prop) (hw : wp_X1_brakingSize V  K) : Met l yX1_brakingSize wsX1_brakingSize rm_X1_brakingSize (va_Pc [.ref (ad 13)] (WPre 76 (cX g ad) ad g V sz)) (va_Qi K (WPost 76 (cX g ad) ad g) (AW ad 76 sz)) 0 0 (AW ad 76 sz) := by
  refine Met.ofW (cc := cX1_brakingSize) (maxL := 1) (ret := (some .int)) (by decide) rfl ?_
  intro p e s m args below meth c s₁ B hml hv
  obtain ⟨ha, hv⟩ := hv
  obtain rfl := hv.1
  have hI : WI g 76 (cX g ad) ad V s.heap s.heap [] := WI.start hv
  have hK := hv.2.2.1
  have hE := hv.2.2.2.2
  have hx := B.exec
  have hb := B.bytes
  have hr := B.returns
  have hts := atoms_spec (ws := wsX1_brakingSize) B.pre
  have hown : s.vm.findClass RX1 = some m.cls := findClass_of_methodNamed B.named
  have hlocks := B.notSynchronized
  have hl := lv_entry ([.ref (ad 13)]) (n := 1) (Nat.le_of_ble_eq_true rfl)
  have hent : entryFrame m args 1 = F0 m 0 ((lg_sl ([.ref (ad 13)]) ++ List.replicate (1 - (lg_sl ([.ref (ad 13)])).length) Slot.unset).toArray) [] := by rw [ha, lg_entry_eq]
  rw [hent]
  generalize (lg_sl ([.ref (ad 13)]) ++ List.replicate (1 - (lg_sl ([.ref (ad 13)])).length) Slot.unset).toArray = ls at hl ⊢
  have hl : lv_has ls 1 [(0, .ref (ad 13))] := hl
  obtain ⟨H, hH⟩ : ∃ H : Heap, H = s.heap := ⟨_, rfl⟩
  have hgo : ∀ (H : Heap) (locs : List Loc), WI g 76 (cX g ad) ad V s.heap H locs → W p l e (headSpec wsX1_brakingSize rm_X1_brakingSize).room s m args below meth c H locs 0 0 (MQ below (va_Qi K (WPost 76 (cX g ad) ad g) (AW ad 76 s.heap.size)) args s 0 0 (AW ad 76 s.heap.size)) (F0 m 0 ls []) := by
    intro H locs hI
    refine lv_aload_n hx hb dX1_brakingSize_0 rfl (lv_at hl 0 rfl) ?_
    refine lv_bipush (v := (13 : Int32)) hx hb dX1_brakingSize_1 (by decide) ?_
    refine x_aftv (va_runV (As := [.int (13 : Int32)]) (rest := []) ⟨hx, hb, hml, hown, hts⟩ (c_X1_leave l g ad H.size V (13 : Int32) _ hw) (cwV 1 hts gX1_brakingSize_X1_leave rfl rfl rfl (by decide +kernel) ⟨Nat.le_of_ble_eq_true rfl, Nat.le_of_ble_eq_true rfl⟩) (x_preV (k := 13) hK hE hI (by decide) (cX_1 (by decide)) rfl) rfl rfl hl.1 rfl (lv_room (Nat.le_of_ble_eq_true rfl)) dX1_brakingSize_3 ⟨Nat.zero_le _, Nat.zero_le _⟩) hI (fun V1 H locs hw hI => ?_)
    refine lv_aload_n hx hb dX1_brakingSize_6 rfl (lv_at hl 0 rfl) ?_
    refine x_afti (va_runV (As := []) (rest := []) ⟨hx, hb, hml, hown, hts⟩ (c_X1_lentSize l g ad H.size V1  _ hw) (cwV 0 hts gX1_brakingSize_X1_lentSize rfl rfl rfl (by decide +kernel) ⟨Nat.le_of_ble_eq_true rfl, Nat.le_of_ble_eq_true rfl⟩) (x_preV (k := 13) hK hE hI (by decide) (cX_1 (by decide)) rfl) rfl rfl hl.1 rfl (lv_room (Nat.le_of_ble_eq_true rfl)) dX1_brakingSize_7 ⟨Nat.zero_le _, Nat.zero_le _⟩) hI (fun r3 V2 H locs hw hI => ?_)
    refine lv_bipush (v := (100 : Int32)) hx hb dX1_brakingSize_10 (by decide) ?_
    refine lv_isub hx hb dX1_brakingSize_12 ?_
    exact W.iret (v := (r3 - (100 : Int32))) hx hb hr (x_reti hI hw) hI.2.2.2.2 dX1_brakingSize_13
  exact hgo s.heap [] hI
def rm_X1_brakedSize : Room := { frames := 3, cells := 0, slots := 0, locals := 61 }
set_option maxHeartbeats 4000000 in
set_option maxRecDepth 100000 in
theorem c_X1_brakedSize (l : Launch) (g : GP) (ad : Nat → Nat) (sz : Nat) (V : VT)   (K : Int32 → VT → Prop) (hw : wp_X1_brakedSize V  K) : Met l yX1_brakedSize wsX1_brakedSize rm_X1_brakedSize (va_Pc [.ref (ad 13)] (WPre 76 (cX g ad) ad g V sz)) (va_Qi K (WPost 76 (cX g ad) ad g) (AW ad 76 sz)) 0 0 (AW ad 76 sz) := by
  refine Met.ofW (cc := cX1_brakedSize) (maxL := 1) (ret := (some .int)) (by decide) rfl ?_
  intro p e s m args below meth c s₁ B hml hv
  obtain ⟨ha, hv⟩ := hv
  obtain rfl := hv.1
  have hI : WI g 76 (cX g ad) ad V s.heap s.heap [] := WI.start hv
  have hK := hv.2.2.1
  have hE := hv.2.2.2.2
  have hx := B.exec
  have hb := B.bytes
  have hr := B.returns
  have hts := atoms_spec (ws := wsX1_brakedSize) B.pre
  have hown : s.vm.findClass RX1 = some m.cls := findClass_of_methodNamed B.named
  have hlocks := B.notSynchronized
  have hw_0 := hts (.fieldLink RX1 19 "HoopLane$Asks" "kind" "I") (by decide +kernel)
  have hin1 : ∀ w ∈ wsX10, w ∈ wsX1_brakedSize := by decide +kernel
  have hl := lv_entry ([.ref (ad 13)]) (n := 1) (Nat.le_of_ble_eq_true rfl)
  have hent : entryFrame m args 1 = F0 m 0 ((lg_sl ([.ref (ad 13)]) ++ List.replicate (1 - (lg_sl ([.ref (ad 13)])).length) Slot.unset).toArray) [] := by rw [ha, lg_entry_eq]
  rw [hent]
  generalize (lg_sl ([.ref (ad 13)]) ++ List.replicate (1 - (lg_sl ([.ref (ad 13)])).length) Slot.unset).toArray = ls at hl ⊢
  have hl : lv_has ls 1 [(0, .ref (ad 13))] := hl
  obtain ⟨H, hH⟩ : ∃ H : Heap, H = s.heap := ⟨_, rfl⟩
  have hgo : ∀ (H : Heap) (locs : List Loc), WI g 76 (cX g ad) ad V s.heap H locs → W p l e (headSpec wsX1_brakedSize rm_X1_brakedSize).room s m args below meth c H locs 0 0 (MQ below (va_Qi K (WPost 76 (cX g ad) ad g) (AW ad 76 s.heap.size)) args s 0 0 (AW ad 76 s.heap.size)) (F0 m 0 ls []) := by
    intro H locs hI
    refine lv_aload_n hx hb dX1_brakedSize_0 rfl (lv_at hl 0 rfl) ?_
    refine xg1_2 (k := 13) hx hb hts hin1 hown hK hI (by decide) hw_0 dX1_brakedSize_1 ?_
    refine lv_iconst (v := (5 : Int32)) hx hb dX1_brakedSize_4 (by decide) ?_
    refine lv_icmp_ne (tgt := 21) hx hb dX1_brakedSize_5 (by decide) (fun c1 => ?_) (fun c1 => ?_)
    · replace hw := hw.1 c1
      refine lv_aload_n hx hb dX1_brakedSize_21 rfl (lv_at hl 0 rfl) ?_
      refine x_afti (va_runV (As := []) (rest := []) ⟨hx, hb, hml, hown, hts⟩ (c_X1_brakingSize l g ad H.size V  _ hw) (cwV 0 hts gX1_brakedSize_X1_brakingSize rfl rfl rfl (by decide +kernel) ⟨Nat.le_of_ble_eq_true rfl, Nat.le_of_ble_eq_true rfl⟩) (x_preV (k := 13) hK hE hI (by decide) (cX_1 (by decide)) rfl) rfl rfl hl.1 rfl (lv_room (Nat.le_of_ble_eq_true rfl)) dX1_brakedSize_22 ⟨Nat.zero_le _, Nat.zero_le _⟩) hI (fun r3 V2 H locs hw hI => ?_)
      exact W.iret (v := r3) hx hb hr (x_reti hI hw) hI.2.2.2.2 dX1_brakedSize_25
    · replace hw := hw.2 c1
      refine lv_aload_n hx hb dX1_brakedSize_8 rfl (lv_at hl 0 rfl) ?_
      refine lv_bipush (v := (14 : Int32)) hx hb dX1_brakedSize_9 (by decide) ?_
      refine x_aftv (va_runV (As := [.int (14 : Int32)]) (rest := []) ⟨hx, hb, hml, hown, hts⟩ (c_X1_leave l g ad H.size V (14 : Int32) _ hw) (cwV 1 hts gX1_brakedSize_X1_leave rfl rfl rfl (by decide +kernel) ⟨Nat.le_of_ble_eq_true rfl, Nat.le_of_ble_eq_true rfl⟩) (x_preV (k := 13) hK hE hI (by decide) (cX_1 (by decide)) rfl) rfl rfl hl.1 rfl (lv_room (Nat.le_of_ble_eq_true rfl)) dX1_brakedSize_11 ⟨Nat.zero_le _, Nat.zero_le _⟩) hI (fun V4 H locs hw hI => ?_)
      refine lv_iconst (v := (2 : Int32)) hx hb dX1_brakedSize_14 (by decide) ?_
      refine lv_aload_n hx hb dX1_brakedSize_15 rfl (lv_at hl 0 rfl) ?_
      refine x_afti (va_runV (As := []) (rest := [.int (2 : Int32)]) ⟨hx, hb, hml, hown, hts⟩ (c_X1_brakingSize l g ad H.size V4  _ hw) (cwV 0 hts gX1_brakedSize_X1_brakingSize rfl rfl rfl (by decide +kernel) ⟨Nat.le_of_ble_eq_true rfl, Nat.le_of_ble_eq_true rfl⟩) (x_preV (k := 13) hK hE hI (by decide) (cX_1 (by decide)) rfl) rfl rfl hl.1 rfl (lv_room (Nat.le_of_ble_eq_true rfl)) dX1_brakedSize_16 ⟨Nat.zero_le _, Nat.zero_le _⟩) hI (fun r6 V5 H locs hw hI => ?_)
      refine lv_imul hx hb dX1_brakedSize_19 ?_
      exact W.iret (v := ((2 : Int32) * r6)) hx hb hr (x_reti hI hw) hI.2.2.2.2 dX1_brakedSize_20
  exact hgo s.heap [] hI
def rm_X1_size : Room := { frames := 5, cells := 0, slots := 0, locals := 101 }
set_option maxHeartbeats 4000000 in
set_option maxRecDepth 100000 in
theorem c_X1_size (l : Launch) (g : GP) (ad : Nat → Nat) (sz : Nat) (V : VT)   (K : Int32 → VT → Prop) (hw : wp_X1_size V  K) : Met l yX1_size wsX1_size rm_X1_size (va_Pc [.ref (ad 13)] (WPre 76 (cX g ad) ad g V sz)) (va_Qi K (WPost 76 (cX g ad) ad g) (AW ad 76 sz)) 0 0 (AW ad 76 sz) := by
  refine Met.ofW (cc := cX1_size) (maxL := 1) (ret := (some .int)) (by decide) rfl ?_
  intro p e s m args below meth c s₁ B hml hv
  obtain ⟨ha, hv⟩ := hv
  obtain rfl := hv.1
  have hI : WI g 76 (cX g ad) ad V s.heap s.heap [] := WI.start hv
  have hK := hv.2.2.1
  have hE := hv.2.2.2.2
  have hx := B.exec
  have hb := B.bytes
  have hr := B.returns
  have hts := atoms_spec (ws := wsX1_size) B.pre
  have hown : s.vm.findClass RX1 = some m.cls := findClass_of_methodNamed B.named
  have hlocks := B.notSynchronized
  have hw_0 := hts (.fieldLink RX1 19 "HoopLane$Asks" "kind" "I") (by decide +kernel)
  have hin1 : ∀ w ∈ wsX10, w ∈ wsX1_size := by decide +kernel
  have hl := lv_entry ([.ref (ad 13)]) (n := 1) (Nat.le_of_ble_eq_true rfl)
  have hent : entryFrame m args 1 = F0 m 0 ((lg_sl ([.ref (ad 13)]) ++ List.replicate (1 - (lg_sl ([.ref (ad 13)])).length) Slot.unset).toArray) [] := by rw [ha, lg_entry_eq]
  rw [hent]
  generalize (lg_sl ([.ref (ad 13)]) ++ List.replicate (1 - (lg_sl ([.ref (ad 13)])).length) Slot.unset).toArray = ls at hl ⊢
  have hl : lv_has ls 1 [(0, .ref (ad 13))] := hl
  obtain ⟨H, hH⟩ : ∃ H : Heap, H = s.heap := ⟨_, rfl⟩
  have hb54 : ∀ (V : VT) (H : Heap) (locs : List Loc) (ls : Array Slot) , WI g 76 (cX g ad) ad V s.heap H locs → lv_has ls 1 [(0, .ref (ad 13))] → wp_X1_size_b54 K  V  → W p l e (headSpec wsX1_size rm_X1_size).room s m args below meth c H locs 0 0 (MQ below (va_Qi K (WPost 76 (cX g ad) ad g) (AW ad 76 s.heap.size)) args s 0 0 (AW ad 76 s.heap.size)) (F0 m 54 ls []) := by
    intro V H locs ls   hI hl hw
    refine lv_aload_n hx hb dX1_size_54 rfl (lv_at hl 0 rfl) ?_
    refine x_afti (va_runV (As := []) (rest := []) ⟨hx, hb, hml, hown, hts⟩ (c_X1_drivingSize l g ad H.size V  _ hw) (cwV 0 hts gX1_size_X1_drivingSize rfl rfl rfl (by decide +kernel) ⟨Nat.le_of_ble_eq_true rfl, Nat.le_of_ble_eq_true rfl⟩) (x_preV (k := 13) hK hE hI (by decide) (cX_1 (by decide)) rfl) rfl rfl hl.1 rfl (lv_room (Nat.le_of_ble_eq_true rfl)) dX1_size_55 ⟨Nat.zero_le _, Nat.zero_le _⟩) hI (fun r9 V8 H locs hw hI => ?_)
    exact W.iret (v := r9) hx hb hr (x_reti hI hw) hI.2.2.2.2 dX1_size_58
  have hb49 : ∀ (V : VT) (H : Heap) (locs : List Loc) (ls : Array Slot) , WI g 76 (cX g ad) ad V s.heap H locs → lv_has ls 1 [(0, .ref (ad 13))] → wp_X1_size_b49 K  V  → W p l e (headSpec wsX1_size rm_X1_size).room s m args below meth c H locs 0 0 (MQ below (va_Qi K (WPost 76 (cX g ad) ad g) (AW ad 76 s.heap.size)) args s 0 0 (AW ad 76 s.heap.size)) (F0 m 49 ls []) := by
    intro V H locs ls   hI hl hw
    refine lv_aload_n hx hb dX1_size_49 rfl (lv_at hl 0 rfl) ?_
    refine x_afti (va_runV (As := []) (rest := []) ⟨hx, hb, hml, hown, hts⟩ (c_X1_brakedSize l g ad H.size V  _ hw) (cwV 0 hts gX1_size_X1_brakedSize rfl rfl rfl (by decide +kernel) ⟨Nat.le_of_ble_eq_true rfl, Nat.le_of_ble_eq_true rfl⟩) (x_preV (k := 13) hK hE hI (by decide) (cX_1 (by decide)) rfl) rfl rfl hl.1 rfl (lv_room (Nat.le_of_ble_eq_true rfl)) dX1_size_50 ⟨Nat.zero_le _, Nat.zero_le _⟩) hI (fun r11 V10 H locs hw hI => ?_)
    exact W.iret (v := r11) hx hb hr (x_reti hI hw) hI.2.2.2.2 dX1_size_53
  have hgo : ∀ (H : Heap) (locs : List Loc), WI g 76 (cX g ad) ad V s.heap H locs → W p l e (headSpec wsX1_size rm_X1_size).room s m args below meth c H locs 0 0 (MQ below (va_Qi K (WPost 76 (cX g ad) ad g) (AW ad 76 s.heap.size)) args s 0 0 (AW ad 76 s.heap.size)) (F0 m 0 ls []) := by
    intro H locs hI
    refine lv_aload_n hx hb dX1_size_0 rfl (lv_at hl 0 rfl) ?_
    refine xg1_2 (k := 13) hx hb hts hin1 hown hK hI (by decide) hw_0 dX1_size_1 ?_
    by_cases c1 : (V 13 2) = (2 : Int32)
    · replace hw := hw.1 c1
      refine lv_tableIn (off := 32) (tgt := 36) hx hb dX1_size_4 (by rw [c1]; decide) (by rw [c1]; decide) (by rw [c1]; rfl) (by decide) ?_
      refine lv_aload_n hx hb dX1_size_36 rfl (lv_at hl 0 rfl) ?_
      refine lv_bipush (v := (12 : Int32)) hx hb dX1_size_37 (by decide) ?_
      refine x_aftv (va_runV (As := [.int (12 : Int32)]) (rest := []) ⟨hx, hb, hml, hown, hts⟩ (c_X1_leave l g ad H.size V (12 : Int32) _ hw) (cwV 1 hts gX1_size_X1_leave rfl rfl rfl (by decide +kernel) ⟨Nat.le_of_ble_eq_true rfl, Nat.le_of_ble_eq_true rfl⟩) (x_preV (k := 13) hK hE hI (by decide) (cX_1 (by decide)) rfl) rfl rfl hl.1 rfl (lv_room (Nat.le_of_ble_eq_true rfl)) dX1_size_39 ⟨Nat.zero_le _, Nat.zero_le _⟩) hI (fun V2 H locs hw hI => ?_)
      refine lv_iconst (v := (0 : Int32)) hx hb dX1_size_42 (by decide) ?_
      refine lv_aload_n hx hb dX1_size_43 rfl (lv_at hl 0 rfl) ?_
      refine x_afti (va_runV (As := []) (rest := [.int (0 : Int32)]) ⟨hx, hb, hml, hown, hts⟩ (c_X1_drivingSize l g ad H.size V2  _ hw) (cwV 0 hts gX1_size_X1_drivingSize rfl rfl rfl (by decide +kernel) ⟨Nat.le_of_ble_eq_true rfl, Nat.le_of_ble_eq_true rfl⟩) (x_preV (k := 13) hK hE hI (by decide) (cX_1 (by decide)) rfl) rfl rfl hl.1 rfl (lv_room (Nat.le_of_ble_eq_true rfl)) dX1_size_44 ⟨Nat.zero_le _, Nat.zero_le _⟩) hI (fun r4 V3 H locs hw hI => ?_)
      refine lv_isub hx hb dX1_size_47 ?_
      exact W.iret (v := ((0 : Int32) - r4)) hx hb hr (x_reti hI hw) hI.2.2.2.2 dX1_size_48
    · skip
      by_cases c5 : (V 13 2) = (3 : Int32)
      · replace hw := hw.2.1 c5
        refine lv_tableIn (off := 50) (tgt := 54) hx hb dX1_size_4 (by rw [c5]; decide) (by rw [c5]; decide) (by rw [c5]; rfl) (by decide) ?_
        exact hb54 V H locs ls  hI (lv_sub hl [0] rfl) hw
      · skip
        by_cases c6 : (V 13 2) = (4 : Int32)
        · replace hw := hw.2.2.1 c6
          refine lv_tableIn (off := 45) (tgt := 49) hx hb dX1_size_4 (by rw [c6]; decide) (by rw [c6]; decide) (by rw [c6]; rfl) (by decide) ?_
          exact hb49 V H locs ls  hI (lv_sub hl [0] rfl) hw
        · skip
          by_cases c7 : (V 13 2) = (5 : Int32)
          · replace hw := hw.2.2.2.1 c7
            refine lv_tableIn (off := 45) (tgt := 49) hx hb dX1_size_4 (by rw [c7]; decide) (by rw [c7]; decide) (by rw [c7]; rfl) (by decide) ?_
            exact hb49 V H locs ls  hI (lv_sub hl [0] rfl) hw
          · skip
            replace hw := hw.2.2.2.2 c1 c5 c6 c7
            refine lv_tableOut (tgt := 54) hx hb dX1_size_4 (by have ec1 : ¬ Int32.toInt (V 13 2) = 2 := fun h => c1 (Int32.toInt_inj.mp (h.trans (by decide))); have ec5 : ¬ Int32.toInt (V 13 2) = 3 := fun h => c5 (Int32.toInt_inj.mp (h.trans (by decide))); have ec6 : ¬ Int32.toInt (V 13 2) = 4 := fun h => c6 (Int32.toInt_inj.mp (h.trans (by decide))); have ec7 : ¬ Int32.toInt (V 13 2) = 5 := fun h => c7 (Int32.toInt_inj.mp (h.trans (by decide))); omega) (by decide) ?_
            exact hb54 V H locs ls  hI (lv_sub hl [0] rfl) hw
  exact hgo s.heap [] hI
