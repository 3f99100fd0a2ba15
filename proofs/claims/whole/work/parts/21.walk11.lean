def rm_X8_readTap : Room := { frames := 2, cells := 0, slots := 0, locals := 49 }
set_option maxHeartbeats 4000000 in
set_option maxRecDepth 100000 in
theorem c_X8_readTap (l : Launch) (g : GP) (ad : Nat → Nat) (sz : Nat) (V : VT)   (K : VT → Prop) (hw : wp_X8_readTap V  K) : Met l yX8_readTap wsX8_readTap rm_X8_readTap (va_Pc [.ref (ad 0)] (WPre 13 (cM g ad) ad g V sz)) (va_Qv K (WPost 13 (cM g ad) ad g) (AW ad 13 sz)) 0 0 (AW ad 13 sz) := by
  refine Met.ofW (cc := cX8_readTap) (maxL := 2) (ret := none) (by decide) rfl ?_
  intro p e s m args below meth c s₁ B hml hv
  obtain ⟨ha, hv⟩ := hv
  obtain rfl := hv.1
  have hI : WI g 13 (cM g ad) ad V s.heap s.heap [] := WI.start hv
  have hK := hv.2.2.1
  have hE := hv.2.2.2.2
  have hx := B.exec
  have hb := B.bytes
  have hr := B.returns
  have hts := atoms_spec (ws := wsX8_readTap) B.pre
  have hown : s.vm.findClass RX8 = some m.cls := findClass_of_methodNamed B.named
  have hlocks := B.notSynchronized
  have hw_0 := hts (.fieldLink RX8 25 "HoopLaneModel" "read" "[I") (by decide +kernel)
  have hw_1 := hts (.fieldLink RX8 82 "HoopLaneModel" "at" "I") (by decide +kernel)
  have hw_2 := hts (.fieldLink RX8 85 "HoopLaneModel" "fault" "I") (by decide +kernel)
  have hin8 : ∀ w ∈ wsX80, w ∈ wsX8_readTap := by decide +kernel
  have hl := lv_entry ([.ref (ad 0)]) (n := 2) (Nat.le_of_ble_eq_true rfl)
  have hent : entryFrame m args 2 = F0 m 0 ((lg_sl ([.ref (ad 0)]) ++ List.replicate (2 - (lg_sl ([.ref (ad 0)])).length) Slot.unset).toArray) [] := by rw [ha, lg_entry_eq]
  rw [hent]
  generalize (lg_sl ([.ref (ad 0)]) ++ List.replicate (2 - (lg_sl ([.ref (ad 0)])).length) Slot.unset).toArray = ls at hl ⊢
  have hl : lv_has ls 2 [(0, .ref (ad 0))] := hl
  obtain ⟨H, hH⟩ : ∃ H : Heap, H = s.heap := ⟨_, rfl⟩
  have hb43 : ∀ (V : VT) (H : Heap) (locs : List Loc) (ls : Array Slot) (x1 : Int32), WI g 13 (cM g ad) ad V s.heap H locs → lv_has ls 2 [(0, .ref (ad 0)), (1, .int x1)] → wp_X8_readTap_b43 K  V x1 → W p l e (headSpec wsX8_readTap rm_X8_readTap).room s m args below meth c H locs 0 0 (MQ below (va_Qv K (WPost 13 (cM g ad) ad g) (AW ad 13 s.heap.size)) args s 0 0 (AW ad 13 s.heap.size)) (F0 m 43 ls []) := by
    intro V H locs ls x1  hI hl hw
    refine lv_aload_n hx hb dX8_readTap_43 rfl (lv_at hl 0 rfl) ?_
    refine mg_10 hx hb hts hin8 hown hK hI hw_2 dX8_readTap_44 ?_
    refine lv_if_ne (tgt := 117) hx hb dX8_readTap_47 (by decide) (fun c10 => ?_) (fun c10 => ?_)
    · replace hw := hw.1 c10
      exact W.vret hx hb hr (x_retv hI hw) hI.2.2.2.2 dX8_readTap_117
    · replace hw := hw.2 c10
      refine lv_aload_n hx hb dX8_readTap_50 rfl (lv_at hl 0 rfl) ?_
      refine lv_dup hx hb dX8_readTap_51 rfl ?_
      refine mg_9 hx hb hts hin8 hown hK hI hw_1 dX8_readTap_52 ?_
      refine lv_iconst (v := (1 : Int32)) hx hb dX8_readTap_55 (by decide) ?_
      refine lv_iadd hx hb dX8_readTap_56 ?_
      refine mp_9 hx hb hts hin8 hown hK hI hw_1 dX8_readTap_57 (fun V11 H locs eV11 hI => ?_)
      replace hw := hw V11 eV11
      refine lv_aload_n hx hb dX8_readTap_60 rfl (lv_at hl 0 rfl) ?_
      refine mg_6 hx hb hts hin8 hown hK hI hw_0 dX8_readTap_61 ?_
      refine lv_bipush (v := (28 : Int32)) hx hb dX8_readTap_64 (by decide) ?_
      refine lv_iconst (v := (2 : Int32)) hx hb dX8_readTap_66 (by decide) ?_
      refine lv_aload_n hx hb dX8_readTap_67 rfl (lv_at hl 0 rfl) ?_
      refine mg_6 hx hb hts hin8 hown hK hI hw_0 dX8_readTap_68 ?_
      refine lv_iconst (v := (1 : Int32)) hx hb dX8_readTap_71 (by decide) ?_
      obtain ⟨h12, hw⟩ := hw
      refine x_iald (k := 6) hx hb hK hI (by decide) rfl h12 dX8_readTap_72 ?_
      refine lv_imul hx hb dX8_readTap_73 ?_
      refine lv_iadd hx hb dX8_readTap_74 ?_
      refine lv_iload_n hx hb dX8_readTap_75 rfl (lv_at hl 1 rfl) ?_
      obtain ⟨h13, hw⟩ := hw
      refine x_iastV (k := 6) hx hb hK hI (cM_loc g ad) (by decide) (fun _ => rfl) h13 dX8_readTap_76 (fun V14 H locs eV14 hI => ?_)
      replace hw := hw V14 eV14
      refine lv_aload_n hx hb dX8_readTap_77 rfl (lv_at hl 0 rfl) ?_
      refine mg_6 hx hb hts hin8 hown hK hI hw_0 dX8_readTap_78 ?_
      refine lv_bipush (v := (28 : Int32)) hx hb dX8_readTap_81 (by decide) ?_
      refine lv_iconst (v := (2 : Int32)) hx hb dX8_readTap_83 (by decide) ?_
      refine lv_aload_n hx hb dX8_readTap_84 rfl (lv_at hl 0 rfl) ?_
      refine mg_6 hx hb hts hin8 hown hK hI hw_0 dX8_readTap_85 ?_
      refine lv_iconst (v := (1 : Int32)) hx hb dX8_readTap_88 (by decide) ?_
      obtain ⟨h15, hw⟩ := hw
      refine x_iald (k := 6) hx hb hK hI (by decide) rfl h15 dX8_readTap_89 ?_
      refine lv_imul hx hb dX8_readTap_90 ?_
      refine lv_iadd hx hb dX8_readTap_91 ?_
      refine lv_iconst (v := (1 : Int32)) hx hb dX8_readTap_92 (by decide) ?_
      refine lv_iadd hx hb dX8_readTap_93 ?_
      refine lv_aload_n hx hb dX8_readTap_94 rfl (lv_at hl 0 rfl) ?_
      refine lv_iconst (v := (1 : Int32)) hx hb dX8_readTap_95 (by decide) ?_
      refine lv_iconst (v := (5 : Int32)) hx hb dX8_readTap_96 (by decide) ?_
      refine x_afti (va_runV (As := [.int (1 : Int32), .int (5 : Int32)]) (rest := [.int (((28 : Int32) + ((2 : Int32) * (V14 6 ((1 : Int32)).toNatClampNeg))) + (1 : Int32)), .ref (ad 6)]) ⟨hx, hb, hml, hown, hts⟩ (c_X8_number l g ad H.size V14 (1 : Int32) (5 : Int32) _ hw) (cwV 2 hts gX8_readTap_X8_number rfl rfl rfl (by decide +kernel) ⟨Nat.le_of_ble_eq_true rfl, Nat.le_of_ble_eq_true rfl⟩) (x_preV (k := 0) hK hE hI (by decide) rfl rfl) rfl rfl hl.1 rfl (lv_room (Nat.le_of_ble_eq_true rfl)) dX8_readTap_97 ⟨Nat.zero_le _, Nat.zero_le _⟩) hI (fun r17 V16 H locs hw hI => ?_)
      obtain ⟨h18, hw⟩ := hw
      refine x_iastV (k := 6) hx hb hK hI (cM_loc g ad) (by decide) (fun _ => rfl) h18 dX8_readTap_100 (fun V19 H locs eV19 hI => ?_)
      replace hw := hw V19 eV19
      refine lv_aload_n hx hb dX8_readTap_101 rfl (lv_at hl 0 rfl) ?_
      refine lv_bipush (v := (59 : Int32)) hx hb dX8_readTap_102 (by decide) ?_
      refine x_aftv (va_runV (As := [.int (59 : Int32)]) (rest := []) ⟨hx, hb, hml, hown, hts⟩ (c_X8_must l g ad H.size V19 (59 : Int32) _ hw) (cwV 1 hts gX8_readTap_X8_must rfl rfl rfl (by decide +kernel) ⟨Nat.le_of_ble_eq_true rfl, Nat.le_of_ble_eq_true rfl⟩) (x_preV (k := 0) hK hE hI (by decide) rfl rfl) rfl rfl hl.1 rfl (lv_room (Nat.le_of_ble_eq_true rfl)) dX8_readTap_104 ⟨Nat.zero_le _, Nat.zero_le _⟩) hI (fun V20 H locs hw hI => ?_)
      refine lv_aload_n hx hb dX8_readTap_107 rfl (lv_at hl 0 rfl) ?_
      refine mg_6 hx hb hts hin8 hown hK hI hw_0 dX8_readTap_108 ?_
      refine lv_iconst (v := (1 : Int32)) hx hb dX8_readTap_111 (by decide) ?_
      refine lv_dup2_11 hx hb dX8_readTap_112 rfl rfl ?_
      obtain ⟨h21, hw⟩ := hw
      refine x_iald (k := 6) hx hb hK hI (by decide) rfl h21 dX8_readTap_113 ?_
      refine lv_iconst (v := (1 : Int32)) hx hb dX8_readTap_114 (by decide) ?_
      refine lv_iadd hx hb dX8_readTap_115 ?_
      obtain ⟨h22, hw⟩ := hw
      refine x_iastV (k := 6) hx hb hK hI (cM_loc g ad) (by decide) (fun _ => rfl) h22 dX8_readTap_116 (fun V23 H locs eV23 hI => ?_)
      replace hw := hw V23 eV23
      exact W.vret hx hb hr (x_retv hI hw) hI.2.2.2.2 dX8_readTap_117
  have hgo : ∀ (H : Heap) (locs : List Loc), WI g 13 (cM g ad) ad V s.heap H locs → W p l e (headSpec wsX8_readTap rm_X8_readTap).room s m args below meth c H locs 0 0 (MQ below (va_Qv K (WPost 13 (cM g ad) ad g) (AW ad 13 s.heap.size)) args s 0 0 (AW ad 13 s.heap.size)) (F0 m 0 ls []) := by
    intro H locs hI
    refine lv_aload_n hx hb dX8_readTap_0 rfl (lv_at hl 0 rfl) ?_
    refine x_afti (va_runV (As := []) (rest := []) ⟨hx, hb, hml, hown, hts⟩ (c_X8_here l g ad H.size V  _ hw) (cwV 0 hts gX8_readTap_X8_here rfl rfl rfl (by decide +kernel) ⟨Nat.le_of_ble_eq_true rfl, Nat.le_of_ble_eq_true rfl⟩) (x_preV (k := 0) hK hE hI (by decide) rfl rfl) rfl rfl hl.1 rfl (lv_room (Nat.le_of_ble_eq_true rfl)) dX8_readTap_1 ⟨Nat.zero_le _, Nat.zero_le _⟩) hI (fun r2 V1 H locs hw hI => ?_)
    refine x_afti (va_runS (As := [.int r2]) (rest := []) ⟨hx, hb, hml, hown, hts⟩ (c_X8_kindOf l g ad H.size V1 r2 _ hw) (cwS 1 hts gX8_readTap_X8_kindOf rfl rfl rfl (by decide +kernel) ⟨Nat.le_of_ble_eq_true rfl, Nat.le_of_ble_eq_true rfl⟩) (x_preS hK hE hI) rfl rfl hl.1 rfl (lv_room (Nat.le_of_ble_eq_true rfl)) dX8_readTap_4 ⟨Nat.zero_le _, Nat.zero_le _⟩) hI (fun r4 V3 H locs hw hI => ?_)
    refine lv_istore_n (lv' := [(1, .int r4), (0, .ref (ad 0))]) hx hb dX8_readTap_7 rfl hl (by decide) rfl (fun ls hl => ?_)
    refine lv_iload_n hx hb dX8_readTap_8 rfl (lv_at hl 0 rfl) ?_
    refine lv_if_ge (tgt := 24) hx hb dX8_readTap_9 (by decide) (fun c5 => ?_) (fun c5 => ?_)
    · replace hw := hw.1 c5
      refine lv_aload_n hx hb dX8_readTap_24 rfl (lv_at hl 1 rfl) ?_
      refine mg_6 hx hb hts hin8 hown hK hI hw_0 dX8_readTap_25 ?_
      refine lv_iconst (v := (1 : Int32)) hx hb dX8_readTap_28 (by decide) ?_
      obtain ⟨h6, hw⟩ := hw
      refine x_iald (k := 6) hx hb hK hI (by decide) rfl h6 dX8_readTap_29 ?_
      refine lv_iconst (v := (5 : Int32)) hx hb dX8_readTap_30 (by decide) ?_
      refine lv_icmp_ne (tgt := 43) hx hb dX8_readTap_31 (by decide) (fun c7 => ?_) (fun c7 => ?_)
      · replace hw := hw.1 c7
        exact hb43 V3 H locs ls r4 hI (lv_sub hl [1, 0] rfl) hw
      · replace hw := hw.2 c7
        refine lv_aload_n hx hb dX8_readTap_34 rfl (lv_at hl 1 rfl) ?_
        refine lv_iconst (v := (3 : Int32)) hx hb dX8_readTap_35 (by decide) ?_
        refine lv_aload_n hx hb dX8_readTap_36 rfl (lv_at hl 1 rfl) ?_
        refine mg_9 hx hb hts hin8 hown hK hI hw_1 dX8_readTap_37 ?_
        refine x_aftv (va_runV (As := [.int (3 : Int32), .int (V3 0 9)]) (rest := []) ⟨hx, hb, hml, hown, hts⟩ (c_X8_wrong l g ad H.size V3 (3 : Int32) (V3 0 9) _ hw) (cwV 2 hts gX8_readTap_X8_wrong rfl rfl rfl (by decide +kernel) ⟨Nat.le_of_ble_eq_true rfl, Nat.le_of_ble_eq_true rfl⟩) (x_preV (k := 0) hK hE hI (by decide) rfl rfl) rfl rfl hl.1 rfl (lv_room (Nat.le_of_ble_eq_true rfl)) dX8_readTap_40 ⟨Nat.zero_le _, Nat.zero_le _⟩) hI (fun V8 H locs hw hI => ?_)
        exact hb43 V8 H locs ls r4 hI (lv_sub hl [1, 0] rfl) hw
    · replace hw := hw.2 c5
      refine lv_aload_n hx hb dX8_readTap_12 rfl (lv_at hl 1 rfl) ?_
      refine lv_iconst (v := (1 : Int32)) hx hb dX8_readTap_13 (by decide) ?_
      refine lv_aload_n hx hb dX8_readTap_14 rfl (lv_at hl 1 rfl) ?_
      refine mg_9 hx hb hts hin8 hown hK hI hw_1 dX8_readTap_15 ?_
      refine x_aftv (va_runV (As := [.int (1 : Int32), .int (V3 0 9)]) (rest := []) ⟨hx, hb, hml, hown, hts⟩ (c_X8_wrong l g ad H.size V3 (1 : Int32) (V3 0 9) _ hw) (cwV 2 hts gX8_readTap_X8_wrong rfl rfl rfl (by decide +kernel) ⟨Nat.le_of_ble_eq_true rfl, Nat.le_of_ble_eq_true rfl⟩) (x_preV (k := 0) hK hE hI (by decide) rfl rfl) rfl rfl hl.1 rfl (lv_room (Nat.le_of_ble_eq_true rfl)) dX8_readTap_18 ⟨Nat.zero_le _, Nat.zero_le _⟩) hI (fun V9 H locs hw hI => ?_)
      refine lv_goto (tgt := 43) hx hb dX8_readTap_21 (by decide) ?_
      exact hb43 V9 H locs ls r4 hI (lv_sub hl [1, 0] rfl) hw
  exact hgo s.heap [] hI
def rm_X8_puts : Room := { frames := 0, cells := 0, slots := 0, locals := 0 }
set_option maxHeartbeats 4000000 in
set_option maxRecDepth 100000 in
theorem c_X8_puts (l : Launch) (g : GP) (ad : Nat → Nat) (sz : Nat) (V : VT) (x1 : Int32) (x2 : Int32) (x3 : Int32) (x4 : Int32)  (K : VT → Prop) (hw : wp_X8_puts V x1 x2 x3 x4 K) : Met l yX8_puts wsX8_puts rm_X8_puts (va_Pc [.ref (ad 0), .int x1, .int x2, .int x3, .int x4] (WPre 13 (cM g ad) ad g V sz)) (va_Qv K (WPost 13 (cM g ad) ad g) (AW ad 13 sz)) 0 0 (AW ad 13 sz) := by
  refine Met.ofW (cc := cX8_puts) (maxL := 5) (ret := none) (by decide) rfl ?_
  intro p e s m args below meth c s₁ B hml hv
  obtain ⟨ha, hv⟩ := hv
  obtain rfl := hv.1
  have hI : WI g 13 (cM g ad) ad V s.heap s.heap [] := WI.start hv
  have hK := hv.2.2.1
  have hE := hv.2.2.2.2
  have hx := B.exec
  have hb := B.bytes
  have hr := B.returns
  have hts := atoms_spec (ws := wsX8_puts) B.pre
  have hown : s.vm.findClass RX8 = some m.cls := findClass_of_methodNamed B.named
  have hlocks := B.notSynchronized
  have hw_0 := hts (.fieldLink RX8 150 "HoopLaneModel" "yard" "I") (by decide +kernel)
  have hw_1 := hts (.fieldLink RX8 153 "HoopLaneModel" "pace" "I") (by decide +kernel)
  have hw_2 := hts (.fieldLink RX8 156 "HoopLaneModel" "lean" "I") (by decide +kernel)
  have hw_3 := hts (.fieldLink RX8 159 "HoopLaneModel" "end" "I") (by decide +kernel)
  have hin8 : ∀ w ∈ wsX80, w ∈ wsX8_puts := by decide +kernel
  have hl := lv_entry ([.ref (ad 0), .int x1, .int x2, .int x3, .int x4]) (n := 5) (Nat.le_of_ble_eq_true rfl)
  have hent : entryFrame m args 5 = F0 m 0 ((lg_sl ([.ref (ad 0), .int x1, .int x2, .int x3, .int x4]) ++ List.replicate (5 - (lg_sl ([.ref (ad 0), .int x1, .int x2, .int x3, .int x4])).length) Slot.unset).toArray) [] := by rw [ha, lg_entry_eq]
  rw [hent]
  generalize (lg_sl ([.ref (ad 0), .int x1, .int x2, .int x3, .int x4]) ++ List.replicate (5 - (lg_sl ([.ref (ad 0), .int x1, .int x2, .int x3, .int x4])).length) Slot.unset).toArray = ls at hl ⊢
  have hl : lv_has ls 5 [(0, .ref (ad 0)), (1, .int x1), (2, .int x2), (3, .int x3), (4, .int x4)] := hl
  obtain ⟨H, hH⟩ : ∃ H : Heap, H = s.heap := ⟨_, rfl⟩
  have hgo : ∀ (H : Heap) (locs : List Loc), WI g 13 (cM g ad) ad V s.heap H locs → W p l e (headSpec wsX8_puts rm_X8_puts).room s m args below meth c H locs 0 0 (MQ below (va_Qv K (WPost 13 (cM g ad) ad g) (AW ad 13 s.heap.size)) args s 0 0 (AW ad 13 s.heap.size)) (F0 m 0 ls []) := by
    intro H locs hI
    refine lv_aload_n hx hb dX8_puts_0 rfl (lv_at hl 0 rfl) ?_
    refine lv_iload_n hx hb dX8_puts_1 rfl (lv_at hl 1 rfl) ?_
    refine mp_16 hx hb hts hin8 hown hK hI hw_0 dX8_puts_2 (fun V1 H locs eV1 hI => ?_)
    replace hw := hw V1 eV1
    refine lv_aload_n hx hb dX8_puts_5 rfl (lv_at hl 0 rfl) ?_
    refine lv_iload_n hx hb dX8_puts_6 rfl (lv_at hl 2 rfl) ?_
    refine mp_17 hx hb hts hin8 hown hK hI hw_1 dX8_puts_7 (fun V2 H locs eV2 hI => ?_)
    replace hw := hw V2 eV2
    refine lv_aload_n hx hb dX8_puts_10 rfl (lv_at hl 0 rfl) ?_
    refine lv_iload_n hx hb dX8_puts_11 rfl (lv_at hl 3 rfl) ?_
    refine mp_18 hx hb hts hin8 hown hK hI hw_2 dX8_puts_12 (fun V3 H locs eV3 hI => ?_)
    replace hw := hw V3 eV3
    refine lv_aload_n hx hb dX8_puts_15 rfl (lv_at hl 0 rfl) ?_
    refine lv_iload hx hb dX8_puts_16 (lv_at hl 4 rfl) ?_
    refine mp_19 hx hb hts hin8 hown hK hI hw_3 dX8_puts_18 (fun V4 H locs eV4 hI => ?_)
    replace hw := hw V4 eV4
    exact W.vret hx hb hr (x_retv hI hw) hI.2.2.2.2 dX8_puts_21
  exact hgo s.heap [] hI
def rm_X8_lane : Room := { frames := 3, cells := 0, slots := 0, locals := 70 }
set_option maxHeartbeats 4000000 in
set_option maxRecDepth 100000 in
theorem c_X8_lane (l : Launch) (g : GP) (ad : Nat → Nat) (sz : Nat) (V : VT)   (K : Int32 → VT → Prop) (hw : wp_X8_lane V  K) : Met l yX8_lane wsX8_lane rm_X8_lane (va_Pc [.ref (ad 0)] (WPre 13 (cM g ad) ad g V sz)) (va_Qi K (WPost 13 (cM g ad) ad g) (AW ad 13 sz)) 0 0 (AW ad 13 sz) := by
  refine Met.ofW (cc := cX8_lane) (maxL := 2) (ret := (some .int)) (by decide) rfl ?_
  intro p e s m args below meth c s₁ B hml hv
  obtain ⟨ha, hv⟩ := hv
  obtain rfl := hv.1
  have hI : WI g 13 (cM g ad) ad V s.heap s.heap [] := WI.start hv
  have hK := hv.2.2.1
  have hE := hv.2.2.2.2
  have hx := B.exec
  have hb := B.bytes
  have hr := B.returns
  have hts := atoms_spec (ws := wsX8_lane) B.pre
  have hown : s.vm.findClass RX8 = some m.cls := findClass_of_methodNamed B.named
  have hlocks := B.notSynchronized
  have hw_0 := hts (.fieldLink RX8 82 "HoopLaneModel" "at" "I") (by decide +kernel)
  have hw_1 := hts (.fieldLink RX8 85 "HoopLaneModel" "fault" "I") (by decide +kernel)
  have hw_2 := hts (.fieldLink RX8 25 "HoopLaneModel" "read" "[I") (by decide +kernel)
  have hw_3 := hts (.fieldLink RX8 78 "HoopLaneModel" "taped" "I") (by decide +kernel)
  have hw_4 := hts (.fieldLink RX8 132 "HoopLaneModel" "lastFault" "I") (by decide +kernel)
  have hw_5 := hts (.constant RX8 135 (-1000100)) (by decide +kernel)
  have hw_6 := hts (.fieldLink RX8 88 "HoopLaneModel" "faultAt" "I") (by decide +kernel)
  have hw_7 := hts (.fieldLink RX8 136 "HoopLaneModel" "isLane" "Z") (by decide +kernel)
  have hw_8 := hts (.fieldLink RX8 111 "HoopLaneModel" "readPace" "I") (by decide +kernel)
  have hw_9 := hts (.fieldLink RX8 114 "HoopLaneModel" "readLean" "I") (by decide +kernel)
  have hw_10 := hts (.fieldLink RX8 144 "HoopLaneModel" "moment" "I") (by decide +kernel)
  have hw_11 := hts (.fieldLink RX8 147 "HoopLaneModel" "undos" "I") (by decide +kernel)
  have hw_12 := hts (.fieldLink RX8 22 "HoopLaneModel" "lane" "[I") (by decide +kernel)
  have hin8 : ∀ w ∈ wsX80, w ∈ wsX8_lane := by decide +kernel
  have hl := lv_entry ([.ref (ad 0)]) (n := 2) (Nat.le_of_ble_eq_true rfl)
  have hent : entryFrame m args 2 = F0 m 0 ((lg_sl ([.ref (ad 0)]) ++ List.replicate (2 - (lg_sl ([.ref (ad 0)])).length) Slot.unset).toArray) [] := by rw [ha, lg_entry_eq]
  rw [hent]
  generalize (lg_sl ([.ref (ad 0)]) ++ List.replicate (2 - (lg_sl ([.ref (ad 0)])).length) Slot.unset).toArray = ls at hl ⊢
  have hl : lv_has ls 2 [(0, .ref (ad 0))] := hl
  obtain ⟨H, hH⟩ : ∃ H : Heap, H = s.heap := ⟨_, rfl⟩
  have hL94 : ∀ (n94 : Nat) (V : VT) (H : Heap) (locs : List Loc) (ls : Array Slot) (x1 : Int32), WI g 13 (cM g ad) ad V s.heap H locs → lv_has ls 2 [(0, .ref (ad 0)), (1, .int x1)] → wp_X8_lane_L94 K  n94 V x1 → W p l e (headSpec wsX8_lane rm_X8_lane).room s m args below meth c H locs 0 0 (MQ below (va_Qi K (WPost 13 (cM g ad) ad g) (AW ad 13 s.heap.size)) args s 0 0 (AW ad 13 s.heap.size)) (F0 m 94 ls []) := by
    intro n94
    induction n94 with
    | zero => intro V H locs ls x1  hI hl hw; exact False.elim hw
    | succ n94 ihL94 =>
      intro V H locs ls x1  hI hl hw
      refine lv_iload_n hx hb dX8_lane_94 rfl (lv_at hl 1 rfl) ?_
      refine lv_bipush (v := (38 : Int32)) hx hb dX8_lane_95 (by decide) ?_
      refine lv_icmp_ge (tgt := 118) hx hb dX8_lane_97 (by decide) (fun c14 => ?_) (fun c14 => ?_)
      · replace hw := hw.1 c14
        refine lv_aload_n hx hb dX8_lane_118 rfl (lv_at hl 0 rfl) ?_
        refine lv_iconst (v := (1 : Int32)) hx hb dX8_lane_119 (by decide) ?_
        refine mp_15 hx hb hts hin8 hown hK hI hw_7 dX8_lane_120 rfl rfl (fun V15 H locs eV15 hI => ?_)
        replace hw := hw V15 eV15
        refine lv_aload_n hx hb dX8_lane_123 rfl (lv_at hl 0 rfl) ?_
        refine lv_iconst (v := (0 : Int32)) hx hb dX8_lane_124 (by decide) ?_
        refine lv_aload_n hx hb dX8_lane_125 rfl (lv_at hl 0 rfl) ?_
        refine mg_13 hx hb hts hin8 hown hK hI hw_8 dX8_lane_126 ?_
        refine lv_aload_n hx hb dX8_lane_129 rfl (lv_at hl 0 rfl) ?_
        refine mg_14 hx hb hts hin8 hown hK hI hw_9 dX8_lane_130 ?_
        refine lv_iconst (v := (0 : Int32)) hx hb dX8_lane_133 (by decide) ?_
        refine x_aftv (va_runV (As := [.int (0 : Int32), .int (V15 0 13), .int (V15 0 14), .int (0 : Int32)]) (rest := []) ⟨hx, hb, hml, hown, hts⟩ (c_X8_puts l g ad H.size V15 (0 : Int32) (V15 0 13) (V15 0 14) (0 : Int32) _ hw) (cwV 4 hts gX8_lane_X8_puts rfl rfl rfl (by decide +kernel) ⟨Nat.le_of_ble_eq_true rfl, Nat.le_of_ble_eq_true rfl⟩) (x_preV (k := 0) hK hE hI (by decide) rfl rfl) rfl rfl hl.1 rfl (lv_room (Nat.le_of_ble_eq_true rfl)) dX8_lane_134 ⟨Nat.zero_le _, Nat.zero_le _⟩) hI (fun V16 H locs hw hI => ?_)
        refine lv_aload_n hx hb dX8_lane_137 rfl (lv_at hl 0 rfl) ?_
        refine lv_iconst (v := (0 : Int32)) hx hb dX8_lane_138 (by decide) ?_
        refine mp_20 hx hb hts hin8 hown hK hI hw_10 dX8_lane_139 (fun V17 H locs eV17 hI => ?_)
        replace hw := hw V17 eV17
        refine lv_aload_n hx hb dX8_lane_142 rfl (lv_at hl 0 rfl) ?_
        refine lv_iconst (v := (0 : Int32)) hx hb dX8_lane_143 (by decide) ?_
        refine mp_22 hx hb hts hin8 hown hK hI hw_11 dX8_lane_144 (fun V18 H locs eV18 hI => ?_)
        replace hw := hw V18 eV18
        refine lv_aload_n hx hb dX8_lane_147 rfl (lv_at hl 0 rfl) ?_
        refine mg_5 hx hb hts hin8 hown hK hI hw_12 dX8_lane_148 ?_
        refine lv_iconst (v := (1 : Int32)) hx hb dX8_lane_151 (by decide) ?_
        obtain ⟨h19, hw⟩ := hw
        refine x_iald (k := 5) hx hb hK hI (by decide) rfl h19 dX8_lane_152 ?_
        exact W.iret (v := (V18 5 ((1 : Int32)).toNatClampNeg)) hx hb hr (x_reti hI hw) hI.2.2.2.2 dX8_lane_153
      · replace hw := hw.2 c14
        refine lv_aload_n hx hb dX8_lane_100 rfl (lv_at hl 0 rfl) ?_
        refine mg_5 hx hb hts hin8 hown hK hI hw_12 dX8_lane_101 ?_
        refine lv_iload_n hx hb dX8_lane_104 rfl (lv_at hl 1 rfl) ?_
        refine lv_aload_n hx hb dX8_lane_105 rfl (lv_at hl 0 rfl) ?_
        refine mg_6 hx hb hts hin8 hown hK hI hw_2 dX8_lane_106 ?_
        refine lv_iload_n hx hb dX8_lane_109 rfl (lv_at hl 1 rfl) ?_
        obtain ⟨h20, hw⟩ := hw
        refine x_iald (k := 6) hx hb hK hI (by decide) rfl h20 dX8_lane_110 ?_
        obtain ⟨h21, hw⟩ := hw
        refine x_iastV (k := 5) hx hb hK hI (cM_loc g ad) (by decide) (fun _ => rfl) h21 dX8_lane_111 (fun V22 H locs eV22 hI => ?_)
        replace hw := hw V22 eV22
        refine lv_iinc (v := (x1 + (1 : Int32))) (lv' := [(1, .int (x1 + (1 : Int32))), (0, .ref (ad 0))]) hx hb dX8_lane_112 hl (k := 1) rfl rfl (by decide) rfl (fun ls hl => ?_)
        refine lv_goto (tgt := 94) hx hb dX8_lane_115 (by decide) ?_
        exact ihL94 V22 H locs ls (x1 + (1 : Int32)) hI (lv_sub hl [1, 0] rfl) hw
  have hb64 : ∀ (V : VT) (H : Heap) (locs : List Loc) (ls : Array Slot) , WI g 13 (cM g ad) ad V s.heap H locs → lv_has ls 2 [(0, .ref (ad 0))] → wp_X8_lane_b64 K  V  → W p l e (headSpec wsX8_lane rm_X8_lane).room s m args below meth c H locs 0 0 (MQ below (va_Qi K (WPost 13 (cM g ad) ad g) (AW ad 13 s.heap.size)) args s 0 0 (AW ad 13 s.heap.size)) (F0 m 64 ls []) := by
    intro V H locs ls   hI hl hw
    refine lv_aload_n hx hb dX8_lane_64 rfl (lv_at hl 0 rfl) ?_
    refine lv_iconst (v := (0 : Int32)) hx hb dX8_lane_65 (by decide) ?_
    refine mp_8 hx hb hts hin8 hown hK hI hw_3 dX8_lane_66 (fun V11 H locs eV11 hI => ?_)
    replace hw := hw V11 eV11
    refine lv_aload_n hx hb dX8_lane_69 rfl (lv_at hl 0 rfl) ?_
    refine mg_10 hx hb hts hin8 hown hK hI hw_1 dX8_lane_70 ?_
    refine lv_if_eq (tgt := 92) hx hb dX8_lane_73 (by decide) (fun c12 => ?_) (fun c12 => ?_)
    · replace hw := hw.1 c12
      refine lv_iconst (v := (0 : Int32)) hx hb dX8_lane_92 (by decide) ?_
      refine lv_istore_n (lv' := [(1, .int (0 : Int32)), (0, .ref (ad 0))]) hx hb dX8_lane_93 rfl hl (by decide) rfl (fun ls hl => ?_)
      obtain ⟨n94, hw⟩ := hw
      exact hL94 n94 V11 H locs ls (0 : Int32) hI (lv_sub hl [1, 0] rfl) hw
    · replace hw := hw.2 c12
      refine lv_aload_n hx hb dX8_lane_76 rfl (lv_at hl 0 rfl) ?_
      refine lv_aload_n hx hb dX8_lane_77 rfl (lv_at hl 0 rfl) ?_
      refine mg_10 hx hb hts hin8 hown hK hI hw_1 dX8_lane_78 ?_
      refine mp_12 hx hb hts hin8 hown hK hI hw_4 dX8_lane_81 (fun V13 H locs eV13 hI => ?_)
      replace hw := hw V13 eV13
      refine lv_ldc (v := (-1000100 : Int32)) hx hb hown hw_5 dX8_lane_84 ?_
      refine lv_aload_n hx hb dX8_lane_86 rfl (lv_at hl 0 rfl) ?_
      refine mg_11 hx hb hts hin8 hown hK hI hw_6 dX8_lane_87 ?_
      refine lv_isub hx hb dX8_lane_90 ?_
      exact W.iret (v := ((-1000100 : Int32) - (V13 0 11))) hx hb hr (x_reti hI hw) hI.2.2.2.2 dX8_lane_91
  have hL39 : ∀ (n39 : Nat) (V : VT) (H : Heap) (locs : List Loc) (ls : Array Slot) , WI g 13 (cM g ad) ad V s.heap H locs → lv_has ls 2 [(0, .ref (ad 0))] → wp_X8_lane_L39 K  n39 V  → W p l e (headSpec wsX8_lane rm_X8_lane).room s m args below meth c H locs 0 0 (MQ below (va_Qi K (WPost 13 (cM g ad) ad g) (AW ad 13 s.heap.size)) args s 0 0 (AW ad 13 s.heap.size)) (F0 m 39 ls []) := by
    intro n39
    induction n39 with
    | zero => intro V H locs ls   hI hl hw; exact False.elim hw
    | succ n39 ihL39 =>
      intro V H locs ls   hI hl hw
      refine lv_aload_n hx hb dX8_lane_39 rfl (lv_at hl 0 rfl) ?_
      refine mg_10 hx hb hts hin8 hown hK hI hw_1 dX8_lane_40 ?_
      refine lv_if_ne (tgt := 64) hx hb dX8_lane_43 (by decide) (fun c8 => ?_) (fun c8 => ?_)
      · replace hw := hw.1 c8
        exact hb64 V H locs ls  hI (lv_sub hl [0] rfl) hw
      · replace hw := hw.2 c8
        refine lv_aload_n hx hb dX8_lane_46 rfl (lv_at hl 0 rfl) ?_
        refine mg_9 hx hb hts hin8 hown hK hI hw_0 dX8_lane_47 ?_
        refine lv_aload_n hx hb dX8_lane_50 rfl (lv_at hl 0 rfl) ?_
        refine mg_8 hx hb hts hin8 hown hK hI hw_3 dX8_lane_51 ?_
        refine lv_icmp_ge (tgt := 64) hx hb dX8_lane_54 (by decide) (fun c9 => ?_) (fun c9 => ?_)
        · replace hw := hw.1 c9
          exact hb64 V H locs ls  hI (lv_sub hl [0] rfl) hw
        · replace hw := hw.2 c9
          refine lv_aload_n hx hb dX8_lane_57 rfl (lv_at hl 0 rfl) ?_
          refine x_aftv (va_runV (As := []) (rest := []) ⟨hx, hb, hml, hown, hts⟩ (c_X8_readTap l g ad H.size V  _ hw) (cwV 0 hts gX8_lane_X8_readTap rfl rfl rfl (by decide +kernel) ⟨Nat.le_of_ble_eq_true rfl, Nat.le_of_ble_eq_true rfl⟩) (x_preV (k := 0) hK hE hI (by decide) rfl rfl) rfl rfl hl.1 rfl (lv_room (Nat.le_of_ble_eq_true rfl)) dX8_lane_58 ⟨Nat.zero_le _, Nat.zero_le _⟩) hI (fun V10 H locs hw hI => ?_)
          refine lv_goto (tgt := 39) hx hb dX8_lane_61 (by decide) ?_
          exact ihL39 V10 H locs ls  hI (lv_sub hl [0] rfl) hw
  have hL12 : ∀ (n12 : Nat) (V : VT) (H : Heap) (locs : List Loc) (ls : Array Slot) (x1 : Int32), WI g 13 (cM g ad) ad V s.heap H locs → lv_has ls 2 [(0, .ref (ad 0)), (1, .int x1)] → wp_X8_lane_L12 K  n12 V x1 → W p l e (headSpec wsX8_lane rm_X8_lane).room s m args below meth c H locs 0 0 (MQ below (va_Qi K (WPost 13 (cM g ad) ad g) (AW ad 13 s.heap.size)) args s 0 0 (AW ad 13 s.heap.size)) (F0 m 12 ls []) := by
    intro n12
    induction n12 with
    | zero => intro V H locs ls x1  hI hl hw; exact False.elim hw
    | succ n12 ihL12 =>
      intro V H locs ls x1  hI hl hw
      refine lv_iload_n hx hb dX8_lane_12 rfl (lv_at hl 1 rfl) ?_
      refine lv_bipush (v := (38 : Int32)) hx hb dX8_lane_13 (by decide) ?_
      refine lv_icmp_ge (tgt := 31) hx hb dX8_lane_15 (by decide) (fun c3 => ?_) (fun c3 => ?_)
      · replace hw := hw.1 c3
        refine lv_aload_n hx hb dX8_lane_31 rfl (lv_at hl 0 rfl) ?_
        refine x_aftv (va_runV (As := []) (rest := []) ⟨hx, hb, hml, hown, hts⟩ (c_X8_readLaw l g ad H.size V  _ hw) (cwV 0 hts gX8_lane_X8_readLaw rfl rfl rfl (by decide +kernel) ⟨Nat.le_of_ble_eq_true rfl, Nat.le_of_ble_eq_true rfl⟩) (x_preV (k := 0) hK hE hI (by decide) rfl rfl) rfl rfl hl.1 rfl (lv_room (Nat.le_of_ble_eq_true rfl)) dX8_lane_32 ⟨Nat.zero_le _, Nat.zero_le _⟩) hI (fun V4 H locs hw hI => ?_)
        refine lv_aload_n hx hb dX8_lane_35 rfl (lv_at hl 0 rfl) ?_
        refine x_aftv (va_runV (As := []) (rest := []) ⟨hx, hb, hml, hown, hts⟩ (c_X8_readGrounds l g ad H.size V4  _ hw) (cwV 0 hts gX8_lane_X8_readGrounds rfl rfl rfl (by decide +kernel) ⟨Nat.le_of_ble_eq_true rfl, Nat.le_of_ble_eq_true rfl⟩) (x_preV (k := 0) hK hE hI (by decide) rfl rfl) rfl rfl hl.1 rfl (lv_room (Nat.le_of_ble_eq_true rfl)) dX8_lane_36 ⟨Nat.zero_le _, Nat.zero_le _⟩) hI (fun V5 H locs hw hI => ?_)
        obtain ⟨n39, hw⟩ := hw
        exact hL39 n39 V5 H locs ls  hI (lv_sub hl [0] rfl) hw
      · replace hw := hw.2 c3
        refine lv_aload_n hx hb dX8_lane_18 rfl (lv_at hl 0 rfl) ?_
        refine mg_6 hx hb hts hin8 hown hK hI hw_2 dX8_lane_19 ?_
        refine lv_iload_n hx hb dX8_lane_22 rfl (lv_at hl 1 rfl) ?_
        refine lv_iconst (v := (0 : Int32)) hx hb dX8_lane_23 (by decide) ?_
        obtain ⟨h6, hw⟩ := hw
        refine x_iastV (k := 6) hx hb hK hI (cM_loc g ad) (by decide) (fun _ => rfl) h6 dX8_lane_24 (fun V7 H locs eV7 hI => ?_)
        replace hw := hw V7 eV7
        refine lv_iinc (v := (x1 + (1 : Int32))) (lv' := [(1, .int (x1 + (1 : Int32))), (0, .ref (ad 0))]) hx hb dX8_lane_25 hl (k := 1) rfl rfl (by decide) rfl (fun ls hl => ?_)
        refine lv_goto (tgt := 12) hx hb dX8_lane_28 (by decide) ?_
        exact ihL12 V7 H locs ls (x1 + (1 : Int32)) hI (lv_sub hl [1, 0] rfl) hw
  have hgo : ∀ (H : Heap) (locs : List Loc), WI g 13 (cM g ad) ad V s.heap H locs → W p l e (headSpec wsX8_lane rm_X8_lane).room s m args below meth c H locs 0 0 (MQ below (va_Qi K (WPost 13 (cM g ad) ad g) (AW ad 13 s.heap.size)) args s 0 0 (AW ad 13 s.heap.size)) (F0 m 0 ls []) := by
    intro H locs hI
    refine lv_aload_n hx hb dX8_lane_0 rfl (lv_at hl 0 rfl) ?_
    refine lv_iconst (v := (0 : Int32)) hx hb dX8_lane_1 (by decide) ?_
    refine mp_9 hx hb hts hin8 hown hK hI hw_0 dX8_lane_2 (fun V1 H locs eV1 hI => ?_)
    replace hw := hw V1 eV1
    refine lv_aload_n hx hb dX8_lane_5 rfl (lv_at hl 0 rfl) ?_
    refine lv_iconst (v := (0 : Int32)) hx hb dX8_lane_6 (by decide) ?_
    refine mp_10 hx hb hts hin8 hown hK hI hw_1 dX8_lane_7 (fun V2 H locs eV2 hI => ?_)
    replace hw := hw V2 eV2
    refine lv_iconst (v := (0 : Int32)) hx hb dX8_lane_10 (by decide) ?_
    refine lv_istore_n (lv' := [(1, .int (0 : Int32)), (0, .ref (ad 0))]) hx hb dX8_lane_11 rfl hl (by decide) rfl (fun ls hl => ?_)
    obtain ⟨n12, hw⟩ := hw
    exact hL12 n12 V2 H locs ls (0 : Int32) hI (lv_sub hl [1, 0] rfl) hw
  exact hgo s.heap [] hI
def rm_X8_fault : Room := { frames := 0, cells := 0, slots := 0, locals := 0 }
set_option maxHeartbeats 4000000 in
set_option maxRecDepth 100000 in
theorem c_X8_fault (l : Launch) (g : GP) (ad : Nat → Nat) (sz : Nat) (V : VT)   (K : Int32 → VT → Prop) (hw : wp_X8_fault V  K) : Met l yX8_fault wsX8_fault rm_X8_fault (va_Pc [.ref (ad 0)] (WPre 13 (cM g ad) ad g V sz)) (va_Qi K (WPost 13 (cM g ad) ad g) (AW ad 13 sz)) 0 0 (AW ad 13 sz) := by
  refine Met.ofW (cc := cX8_fault) (maxL := 1) (ret := (some .int)) (by decide) rfl ?_
  intro p e s m args below meth c s₁ B hml hv
  obtain ⟨ha, hv⟩ := hv
  obtain rfl := hv.1
  have hI : WI g 13 (cM g ad) ad V s.heap s.heap [] := WI.start hv
  have hK := hv.2.2.1
  have hE := hv.2.2.2.2
  have hx := B.exec
  have hb := B.bytes
  have hr := B.returns
  have hts := atoms_spec (ws := wsX8_fault) B.pre
  have hown : s.vm.findClass RX8 = some m.cls := findClass_of_methodNamed B.named
  have hlocks := B.notSynchronized
  have hw_0 := hts (.fieldLink RX8 132 "HoopLaneModel" "lastFault" "I") (by decide +kernel)
  have hin8 : ∀ w ∈ wsX80, w ∈ wsX8_fault := by decide +kernel
  have hl := lv_entry ([.ref (ad 0)]) (n := 1) (Nat.le_of_ble_eq_true rfl)
  have hent : entryFrame m args 1 = F0 m 0 ((lg_sl ([.ref (ad 0)]) ++ List.replicate (1 - (lg_sl ([.ref (ad 0)])).length) Slot.unset).toArray) [] := by rw [ha, lg_entry_eq]
  rw [hent]
  generalize (lg_sl ([.ref (ad 0)]) ++ List.replicate (1 - (lg_sl ([.ref (ad 0)])).length) Slot.unset).toArray = ls at hl ⊢
  have hl : lv_has ls 1 [(0, .ref (ad 0))] := hl
  obtain ⟨H, hH⟩ : ∃ H : Heap, H = s.heap := ⟨_, rfl⟩
  have hgo : ∀ (H : Heap) (locs : List Loc), WI g 13 (cM g ad) ad V s.heap H locs → W p l e (headSpec wsX8_fault rm_X8_fault).room s m args below meth c H locs 0 0 (MQ below (va_Qi K (WPost 13 (cM g ad) ad g) (AW ad 13 s.heap.size)) args s 0 0 (AW ad 13 s.heap.size)) (F0 m 0 ls []) := by
    intro H locs hI
    refine lv_aload_n hx hb dX8_fault_0 rfl (lv_at hl 0 rfl) ?_
    refine mg_12 hx hb hts hin8 hown hK hI hw_0 dX8_fault_1 ?_
    exact W.iret (v := (V 0 12)) hx hb hr (x_reti hI hw) hI.2.2.2.2 dX8_fault_4
  exact hgo s.heap [] hI
def rm_X8_isTap : Room := { frames := 1, cells := 0, slots := 0, locals := 25 }
set_option maxHeartbeats 4000000 in
set_option maxRecDepth 100000 in
theorem c_X8_isTap (l : Launch) (g : GP) (ad : Nat → Nat) (sz : Nat) (V : VT) (x1 : Int32)  (K : Int32 → VT → Prop) (hw : wp_X8_isTap V x1 K) : Met l yX8_isTap wsX8_isTap rm_X8_isTap (va_Pc [.ref (ad 0), .int x1] (WPre 13 (cM g ad) ad g V sz)) (va_Qi K (WPost 13 (cM g ad) ad g) (AW ad 13 sz)) 0 0 (AW ad 13 sz) := by
  refine Met.ofW (cc := cX8_isTap) (maxL := 2) (ret := (some .boolean)) (by decide) rfl ?_
  intro p e s m args below meth c s₁ B hml hv
  obtain ⟨ha, hv⟩ := hv
  obtain rfl := hv.1
  have hI : WI g 13 (cM g ad) ad V s.heap s.heap [] := WI.start hv
  have hK := hv.2.2.1
  have hE := hv.2.2.2.2
  have hx := B.exec
  have hb := B.bytes
  have hr := B.returns
  have hts := atoms_spec (ws := wsX8_isTap) B.pre
  have hown : s.vm.findClass RX8 = some m.cls := findClass_of_methodNamed B.named
  have hlocks := B.notSynchronized
  have hw_0 := hts (.fieldLink RX8 22 "HoopLaneModel" "lane" "[I") (by decide +kernel)
  have hin8 : ∀ w ∈ wsX80, w ∈ wsX8_isTap := by decide +kernel
  have hl := lv_entry ([.ref (ad 0), .int x1]) (n := 2) (Nat.le_of_ble_eq_true rfl)
  have hent : entryFrame m args 2 = F0 m 0 ((lg_sl ([.ref (ad 0), .int x1]) ++ List.replicate (2 - (lg_sl ([.ref (ad 0), .int x1])).length) Slot.unset).toArray) [] := by rw [ha, lg_entry_eq]
  rw [hent]
  generalize (lg_sl ([.ref (ad 0), .int x1]) ++ List.replicate (2 - (lg_sl ([.ref (ad 0), .int x1])).length) Slot.unset).toArray = ls at hl ⊢
  have hl : lv_has ls 2 [(0, .ref (ad 0)), (1, .int x1)] := hl
  obtain ⟨H, hH⟩ : ∃ H : Heap, H = s.heap := ⟨_, rfl⟩
  have hgo : ∀ (H : Heap) (locs : List Loc), WI g 13 (cM g ad) ad V s.heap H locs → W p l e (headSpec wsX8_isTap rm_X8_isTap).room s m args below meth c H locs 0 0 (MQ below (va_Qi K (WPost 13 (cM g ad) ad g) (AW ad 13 s.heap.size)) args s 0 0 (AW ad 13 s.heap.size)) (F0 m 0 ls []) := by
    intro H locs hI
    refine lv_iload_n hx hb dX8_isTap_0 rfl (lv_at hl 1 rfl) ?_
    refine lv_i2l (v := (x1).toInt64) hx hb dX8_isTap_1 rfl ?_
    refine lv_lconst (v := (0 : Int64)) hx hb dX8_isTap_2 (by decide) ?_
    refine lv_aload_n hx hb dX8_isTap_3 rfl (lv_at hl 0 rfl) ?_
    refine mg_5 hx hb hts hin8 hown hK hI hw_0 dX8_isTap_4 ?_
    refine lv_iconst (v := (1 : Int32)) hx hb dX8_isTap_7 (by decide) ?_
    obtain ⟨h1, hw⟩ := hw
    refine x_iald (k := 5) hx hb hK hI (by decide) rfl h1 dX8_isTap_8 ?_
    refine lv_iconst (v := (1 : Int32)) hx hb dX8_isTap_9 (by decide) ?_
    refine lv_isub hx hb dX8_isTap_10 ?_
    refine lv_i2l (v := (((V 5 ((1 : Int32)).toNatClampNeg) - (1 : Int32))).toInt64) hx hb dX8_isTap_11 rfl ?_
    refine x_afti (va_runS (As := [.long ((x1).toInt64), .long (0 : Int64), .long ((((V 5 ((1 : Int32)).toNatClampNeg) - (1 : Int32))).toInt64)]) (rest := []) ⟨hx, hb, hml, hown, hts⟩ (c_X8_in l g ad H.size V ((x1).toInt64) (0 : Int64) ((((V 5 ((1 : Int32)).toNatClampNeg) - (1 : Int32))).toInt64) _ hw) (cwS 3 hts gX8_isTap_X8_in rfl rfl rfl (by decide +kernel) ⟨Nat.le_of_ble_eq_true rfl, Nat.le_of_ble_eq_true rfl⟩) (x_preS hK hE hI) rfl rfl hl.1 rfl (lv_room (Nat.le_of_ble_eq_true rfl)) dX8_isTap_12 ⟨Nat.zero_le _, Nat.zero_le _⟩) hI (fun r3 V2 H locs hw hI => ?_)
    obtain ⟨h4, hw⟩ := hw
    exact W.zret (v := r3) hx hb hr (nar_z h4) (x_reti hI hw) hI.2.2.2.2 dX8_isTap_15
  exact hgo s.heap [] hI
def rm_X8_kindAt : Room := { frames := 0, cells := 0, slots := 0, locals := 0 }
set_option maxHeartbeats 4000000 in
set_option maxRecDepth 100000 in
theorem c_X8_kindAt (l : Launch) (g : GP) (ad : Nat → Nat) (sz : Nat) (V : VT) (x1 : Int32)  (K : Int32 → VT → Prop) (hw : wp_X8_kindAt V x1 K) : Met l yX8_kindAt wsX8_kindAt rm_X8_kindAt (va_Pc [.ref (ad 0), .int x1] (WPre 13 (cM g ad) ad g V sz)) (va_Qi K (WPost 13 (cM g ad) ad g) (AW ad 13 sz)) 0 0 (AW ad 13 sz) := by
  refine Met.ofW (cc := cX8_kindAt) (maxL := 2) (ret := (some .int)) (by decide) rfl ?_
  intro p e s m args below meth c s₁ B hml hv
  obtain ⟨ha, hv⟩ := hv
  obtain rfl := hv.1
  have hI : WI g 13 (cM g ad) ad V s.heap s.heap [] := WI.start hv
  have hK := hv.2.2.1
  have hE := hv.2.2.2.2
  have hx := B.exec
  have hb := B.bytes
  have hr := B.returns
  have hts := atoms_spec (ws := wsX8_kindAt) B.pre
  have hown : s.vm.findClass RX8 = some m.cls := findClass_of_methodNamed B.named
  have hlocks := B.notSynchronized
  have hw_0 := hts (.fieldLink RX8 22 "HoopLaneModel" "lane" "[I") (by decide +kernel)
  have hin8 : ∀ w ∈ wsX80, w ∈ wsX8_kindAt := by decide +kernel
  have hl := lv_entry ([.ref (ad 0), .int x1]) (n := 2) (Nat.le_of_ble_eq_true rfl)
  have hent : entryFrame m args 2 = F0 m 0 ((lg_sl ([.ref (ad 0), .int x1]) ++ List.replicate (2 - (lg_sl ([.ref (ad 0), .int x1])).length) Slot.unset).toArray) [] := by rw [ha, lg_entry_eq]
  rw [hent]
  generalize (lg_sl ([.ref (ad 0), .int x1]) ++ List.replicate (2 - (lg_sl ([.ref (ad 0), .int x1])).length) Slot.unset).toArray = ls at hl ⊢
  have hl : lv_has ls 2 [(0, .ref (ad 0)), (1, .int x1)] := hl
  obtain ⟨H, hH⟩ : ∃ H : Heap, H = s.heap := ⟨_, rfl⟩
  have hgo : ∀ (H : Heap) (locs : List Loc), WI g 13 (cM g ad) ad V s.heap H locs → W p l e (headSpec wsX8_kindAt rm_X8_kindAt).room s m args below meth c H locs 0 0 (MQ below (va_Qi K (WPost 13 (cM g ad) ad g) (AW ad 13 s.heap.size)) args s 0 0 (AW ad 13 s.heap.size)) (F0 m 0 ls []) := by
    intro H locs hI
    refine lv_aload_n hx hb dX8_kindAt_0 rfl (lv_at hl 0 rfl) ?_
    refine mg_5 hx hb hts hin8 hown hK hI hw_0 dX8_kindAt_1 ?_
    refine lv_bipush (v := (28 : Int32)) hx hb dX8_kindAt_4 (by decide) ?_
    refine lv_iconst (v := (2 : Int32)) hx hb dX8_kindAt_6 (by decide) ?_
    refine lv_iload_n hx hb dX8_kindAt_7 rfl (lv_at hl 1 rfl) ?_
    refine lv_imul hx hb dX8_kindAt_8 ?_
    refine lv_iadd hx hb dX8_kindAt_9 ?_
    obtain ⟨h1, hw⟩ := hw
    refine x_iald (k := 5) hx hb hK hI (by decide) rfl h1 dX8_kindAt_10 ?_
    exact W.iret (v := (V 5 (((28 : Int32) + ((2 : Int32) * x1))).toNatClampNeg)) hx hb hr (x_reti hI hw) hI.2.2.2.2 dX8_kindAt_11
  exact hgo s.heap [] hI
def rm_X8_forceAt : Room := { frames := 0, cells := 0, slots := 0, locals := 0 }
set_option maxHeartbeats 4000000 in
set_option maxRecDepth 100000 in
theorem c_X8_forceAt (l : Launch) (g : GP) (ad : Nat → Nat) (sz : Nat) (V : VT) (x1 : Int32)  (K : Int32 → VT → Prop) (hw : wp_X8_forceAt V x1 K) : Met l yX8_forceAt wsX8_forceAt rm_X8_forceAt (va_Pc [.ref (ad 0), .int x1] (WPre 13 (cM g ad) ad g V sz)) (va_Qi K (WPost 13 (cM g ad) ad g) (AW ad 13 sz)) 0 0 (AW ad 13 sz) := by
  refine Met.ofW (cc := cX8_forceAt) (maxL := 2) (ret := (some .int)) (by decide) rfl ?_
  intro p e s m args below meth c s₁ B hml hv
  obtain ⟨ha, hv⟩ := hv
  obtain rfl := hv.1
  have hI : WI g 13 (cM g ad) ad V s.heap s.heap [] := WI.start hv
  have hK := hv.2.2.1
  have hE := hv.2.2.2.2
  have hx := B.exec
  have hb := B.bytes
  have hr := B.returns
  have hts := atoms_spec (ws := wsX8_forceAt) B.pre
  have hown : s.vm.findClass RX8 = some m.cls := findClass_of_methodNamed B.named
  have hlocks := B.notSynchronized
  have hw_0 := hts (.fieldLink RX8 22 "HoopLaneModel" "lane" "[I") (by decide +kernel)
  have hin8 : ∀ w ∈ wsX80, w ∈ wsX8_forceAt := by decide +kernel
  have hl := lv_entry ([.ref (ad 0), .int x1]) (n := 2) (Nat.le_of_ble_eq_true rfl)
  have hent : entryFrame m args 2 = F0 m 0 ((lg_sl ([.ref (ad 0), .int x1]) ++ List.replicate (2 - (lg_sl ([.ref (ad 0), .int x1])).length) Slot.unset).toArray) [] := by rw [ha, lg_entry_eq]
  rw [hent]
  generalize (lg_sl ([.ref (ad 0), .int x1]) ++ List.replicate (2 - (lg_sl ([.ref (ad 0), .int x1])).length) Slot.unset).toArray = ls at hl ⊢
  have hl : lv_has ls 2 [(0, .ref (ad 0)), (1, .int x1)] := hl
  obtain ⟨H, hH⟩ : ∃ H : Heap, H = s.heap := ⟨_, rfl⟩
  have hgo : ∀ (H : Heap) (locs : List Loc), WI g 13 (cM g ad) ad V s.heap H locs → W p l e (headSpec wsX8_forceAt rm_X8_forceAt).room s m args below meth c H locs 0 0 (MQ below (va_Qi K (WPost 13 (cM g ad) ad g) (AW ad 13 s.heap.size)) args s 0 0 (AW ad 13 s.heap.size)) (F0 m 0 ls []) := by
    intro H locs hI
    refine lv_aload_n hx hb dX8_forceAt_0 rfl (lv_at hl 0 rfl) ?_
    refine mg_5 hx hb hts hin8 hown hK hI hw_0 dX8_forceAt_1 ?_
    refine lv_bipush (v := (28 : Int32)) hx hb dX8_forceAt_4 (by decide) ?_
    refine lv_iconst (v := (2 : Int32)) hx hb dX8_forceAt_6 (by decide) ?_
    refine lv_iload_n hx hb dX8_forceAt_7 rfl (lv_at hl 1 rfl) ?_
    refine lv_imul hx hb dX8_forceAt_8 ?_
    refine lv_iadd hx hb dX8_forceAt_9 ?_
    refine lv_iconst (v := (1 : Int32)) hx hb dX8_forceAt_10 (by decide) ?_
    refine lv_iadd hx hb dX8_forceAt_11 ?_
    obtain ⟨h1, hw⟩ := hw
    refine x_iald (k := 5) hx hb hK hI (by decide) rfl h1 dX8_forceAt_12 ?_
    exact W.iret (v := (V 5 ((((28 : Int32) + ((2 : Int32) * x1)) + (1 : Int32))).toNatClampNeg)) hx hb hr (x_reti hI hw) hI.2.2.2.2 dX8_forceAt_13
  exact hgo s.heap [] hI
def rm_X8_paces : Room := { frames := 0, cells := 0, slots := 0, locals := 0 }
set_option maxHeartbeats 4000000 in
set_option maxRecDepth 100000 in
theorem c_X8_paces (l : Launch) (g : GP) (ad : Nat → Nat) (sz : Nat) (V : VT) (x1 : Int32)  (K : VT → Prop) (hw : wp_X8_paces V x1 K) : Met l yX8_paces wsX8_paces rm_X8_paces (va_Pc [.ref (ad 0), .int x1] (WPre 13 (cM g ad) ad g V sz)) (va_Qv K (WPost 13 (cM g ad) ad g) (AW ad 13 sz)) 0 0 (AW ad 13 sz) := by
  refine Met.ofW (cc := cX8_paces) (maxL := 2) (ret := none) (by decide) rfl ?_
  intro p e s m args below meth c s₁ B hml hv
  obtain ⟨ha, hv⟩ := hv
  obtain rfl := hv.1
  have hI : WI g 13 (cM g ad) ad V s.heap s.heap [] := WI.start hv
  have hK := hv.2.2.1
  have hE := hv.2.2.2.2
  have hx := B.exec
  have hb := B.bytes
  have hr := B.returns
  have hts := atoms_spec (ws := wsX8_paces) B.pre
  have hown : s.vm.findClass RX8 = some m.cls := findClass_of_methodNamed B.named
  have hlocks := B.notSynchronized
  have hw_0 := hts (.fieldLink RX8 153 "HoopLaneModel" "pace" "I") (by decide +kernel)
  have hin8 : ∀ w ∈ wsX80, w ∈ wsX8_paces := by decide +kernel
  have hl := lv_entry ([.ref (ad 0), .int x1]) (n := 2) (Nat.le_of_ble_eq_true rfl)
  have hent : entryFrame m args 2 = F0 m 0 ((lg_sl ([.ref (ad 0), .int x1]) ++ List.replicate (2 - (lg_sl ([.ref (ad 0), .int x1])).length) Slot.unset).toArray) [] := by rw [ha, lg_entry_eq]
  rw [hent]
  generalize (lg_sl ([.ref (ad 0), .int x1]) ++ List.replicate (2 - (lg_sl ([.ref (ad 0), .int x1])).length) Slot.unset).toArray = ls at hl ⊢
  have hl : lv_has ls 2 [(0, .ref (ad 0)), (1, .int x1)] := hl
  obtain ⟨H, hH⟩ : ∃ H : Heap, H = s.heap := ⟨_, rfl⟩
  have hb40 : ∀ (V : VT) (H : Heap) (locs : List Loc) (ls : Array Slot) (s1 : Int32), WI g 13 (cM g ad) ad V s.heap H locs → lv_has ls 2 [] → wp_X8_paces_b40 K  V s1 → W p l e (headSpec wsX8_paces rm_X8_paces).room s m args below meth c H locs 0 0 (MQ below (va_Qv K (WPost 13 (cM g ad) ad g) (AW ad 13 s.heap.size)) args s 0 0 (AW ad 13 s.heap.size)) (F0 m 40 ls [.int s1, .ref (ad 0)]) := by
    intro V H locs ls s1  hI hl hw
    refine mp_17 hx hb hts hin8 hown hK hI hw_0 dX8_paces_40 (fun V4 H locs eV4 hI => ?_)
    replace hw := hw V4 eV4
    exact W.vret hx hb hr (x_retv hI hw) hI.2.2.2.2 dX8_paces_43
  have hgo : ∀ (H : Heap) (locs : List Loc), WI g 13 (cM g ad) ad V s.heap H locs → W p l e (headSpec wsX8_paces rm_X8_paces).room s m args below meth c H locs 0 0 (MQ below (va_Qv K (WPost 13 (cM g ad) ad g) (AW ad 13 s.heap.size)) args s 0 0 (AW ad 13 s.heap.size)) (F0 m 0 ls []) := by
    intro H locs hI
    refine lv_aload_n hx hb dX8_paces_0 rfl (lv_at hl 0 rfl) ?_
    refine lv_dup hx hb dX8_paces_1 rfl ?_
    refine mg_17 hx hb hts hin8 hown hK hI hw_0 dX8_paces_2 ?_
    refine lv_iload_n hx hb dX8_paces_5 rfl (lv_at hl 1 rfl) ?_
    refine lv_iadd hx hb dX8_paces_6 ?_
    refine mp_17 hx hb hts hin8 hown hK hI hw_0 dX8_paces_7 (fun V1 H locs eV1 hI => ?_)
    replace hw := hw V1 eV1
    refine lv_aload_n hx hb dX8_paces_10 rfl (lv_at hl 0 rfl) ?_
    refine lv_aload_n hx hb dX8_paces_11 rfl (lv_at hl 0 rfl) ?_
    refine mg_17 hx hb hts hin8 hown hK hI hw_0 dX8_paces_12 ?_
    refine lv_if_ge (tgt := 22) hx hb dX8_paces_15 (by decide) (fun c2 => ?_) (fun c2 => ?_)
    · replace hw := hw.1 c2
      refine lv_aload_n hx hb dX8_paces_22 rfl (lv_at hl 0 rfl) ?_
      refine mg_17 hx hb hts hin8 hown hK hI hw_0 dX8_paces_23 ?_
      refine lv_bipush (v := (9 : Int32)) hx hb dX8_paces_26 (by decide) ?_
      refine lv_icmp_le (tgt := 36) hx hb dX8_paces_28 (by decide) (fun c3 => ?_) (fun c3 => ?_)
      · replace hw := hw.1 c3
        refine lv_aload_n hx hb dX8_paces_36 rfl (lv_at hl 0 rfl) ?_
        refine mg_17 hx hb hts hin8 hown hK hI hw_0 dX8_paces_37 ?_
        exact hb40 V1 H locs ls (V1 0 17) hI (lv_sub hl [] rfl) hw
      · replace hw := hw.2 c3
        refine lv_bipush (v := (9 : Int32)) hx hb dX8_paces_31 (by decide) ?_
        refine lv_goto (tgt := 40) hx hb dX8_paces_33 (by decide) ?_
        exact hb40 V1 H locs ls (9 : Int32) hI (lv_sub hl [] rfl) hw
    · replace hw := hw.2 c2
      refine lv_iconst (v := (0 : Int32)) hx hb dX8_paces_18 (by decide) ?_
      refine lv_goto (tgt := 40) hx hb dX8_paces_19 (by decide) ?_
      exact hb40 V1 H locs ls (0 : Int32) hI (lv_sub hl [] rfl) hw
  exact hgo s.heap [] hI
def rm_X8_from0 : Room := { frames := 0, cells := 0, slots := 0, locals := 0 }
set_option maxHeartbeats 4000000 in
set_option maxRecDepth 100000 in
theorem c_X8_from0 (l : Launch) (g : GP) (ad : Nat → Nat) (sz : Nat) (V : VT) (x0 : Int32) (x1 : Int32) (x2 : Int32)  (K : Int32 → VT → Prop) (hw : wp_X8_from0 V x0 x1 x2 K) : Met l yX8_from0 wsX8_from0 rm_X8_from0 (va_Pc [.int x0, .int x1, .int x2] (WPre 13 (cM g ad) ad g V sz)) (va_Qi K (WPost 13 (cM g ad) ad g) (AW ad 13 sz)) 0 0 (AW ad 13 sz) := by
  refine Met.ofW (cc := cX8_from0) (maxL := 3) (ret := (some .int)) (by decide) rfl ?_
  intro p e s m args below meth c s₁ B hml hv
  obtain ⟨ha, hv⟩ := hv
  obtain rfl := hv.1
  have hI : WI g 13 (cM g ad) ad V s.heap s.heap [] := WI.start hv
  have hK := hv.2.2.1
  have hE := hv.2.2.2.2
  have hx := B.exec
  have hb := B.bytes
  have hr := B.returns
  have hts := atoms_spec (ws := wsX8_from0) B.pre
  have hown : s.vm.findClass RX8 = some m.cls := findClass_of_methodNamed B.named
  have hlocks := B.notSynchronized
  have hl := lv_entry ([.int x0, .int x1, .int x2]) (n := 3) (Nat.le_of_ble_eq_true rfl)
  have hent : entryFrame m args 3 = F0 m 0 ((lg_sl ([.int x0, .int x1, .int x2]) ++ List.replicate (3 - (lg_sl ([.int x0, .int x1, .int x2])).length) Slot.unset).toArray) [] := by rw [ha, lg_entry_eq]
  rw [hent]
  generalize (lg_sl ([.int x0, .int x1, .int x2]) ++ List.replicate (3 - (lg_sl ([.int x0, .int x1, .int x2])).length) Slot.unset).toArray = ls at hl ⊢
  have hl : lv_has ls 3 [(0, .int x0), (1, .int x1), (2, .int x2)] := hl
  obtain ⟨H, hH⟩ : ∃ H : Heap, H = s.heap := ⟨_, rfl⟩
  have hgo : ∀ (H : Heap) (locs : List Loc), WI g 13 (cM g ad) ad V s.heap H locs → W p l e (headSpec wsX8_from0 rm_X8_from0).room s m args below meth c H locs 0 0 (MQ below (va_Qi K (WPost 13 (cM g ad) ad g) (AW ad 13 s.heap.size)) args s 0 0 (AW ad 13 s.heap.size)) (F0 m 0 ls []) := by
    intro H locs hI
    refine lv_iload_n hx hb dX8_from0_0 rfl (lv_at hl 0 rfl) ?_
    refine lv_if_le (tgt := 10) hx hb dX8_from0_1 (by decide) (fun c1 => ?_) (fun c1 => ?_)
    · replace hw := hw.1 c1
      refine lv_iload_n hx hb dX8_from0_10 rfl (lv_at hl 0 rfl) ?_
      refine lv_if_ge (tgt := 20) hx hb dX8_from0_11 (by decide) (fun c2 => ?_) (fun c2 => ?_)
      · replace hw := hw.1 c2
        refine lv_iload_n hx hb dX8_from0_20 rfl (lv_at hl 2 rfl) ?_
        exact W.iret (v := x2) hx hb hr (x_reti hI hw) hI.2.2.2.2 dX8_from0_21
      · replace hw := hw.2 c2
        refine lv_iload_n hx hb dX8_from0_14 rfl (lv_at hl 0 rfl) ?_
        refine lv_iload_n hx hb dX8_from0_15 rfl (lv_at hl 1 rfl) ?_
        refine lv_isub hx hb dX8_from0_16 ?_
        refine lv_goto (tgt := 21) hx hb dX8_from0_17 (by decide) ?_
        exact W.iret (v := (x0 - x1)) hx hb hr (x_reti hI hw) hI.2.2.2.2 dX8_from0_21
    · replace hw := hw.2 c1
      refine lv_iload_n hx hb dX8_from0_4 rfl (lv_at hl 0 rfl) ?_
      refine lv_iload_n hx hb dX8_from0_5 rfl (lv_at hl 1 rfl) ?_
      refine lv_iadd hx hb dX8_from0_6 ?_
      refine lv_goto (tgt := 21) hx hb dX8_from0_7 (by decide) ?_
      exact W.iret (v := (x0 + x1)) hx hb hr (x_reti hI hw) hI.2.2.2.2 dX8_from0_21
  exact hgo s.heap [] hI
def rm_X8_taps : Room := { frames := 1, cells := 0, slots := 0, locals := 21 }
set_option maxHeartbeats 4000000 in
set_option maxRecDepth 100000 in
theorem c_X8_taps (l : Launch) (g : GP) (ad : Nat → Nat) (sz : Nat) (V : VT) (x1 : Int32) (x2 : Int32)  (K : VT → Prop) (hw : wp_X8_taps V x1 x2 K) : Met l yX8_taps wsX8_taps rm_X8_taps (va_Pc [.ref (ad 0), .int x1, .int x2] (WPre 13 (cM g ad) ad g V sz)) (va_Qv K (WPost 13 (cM g ad) ad g) (AW ad 13 sz)) 0 0 (AW ad 13 sz) := by
  refine Met.ofW (cc := cX8_taps) (maxL := 4) (ret := none) (by decide) rfl ?_
  intro p e s m args below meth c s₁ B hml hv
  obtain ⟨ha, hv⟩ := hv
  obtain rfl := hv.1
  have hI : WI g 13 (cM g ad) ad V s.heap s.heap [] := WI.start hv
  have hK := hv.2.2.1
  have hE := hv.2.2.2.2
  have hx := B.exec
  have hb := B.bytes
  have hr := B.returns
  have hts := atoms_spec (ws := wsX8_taps) B.pre
  have hown : s.vm.findClass RX8 = some m.cls := findClass_of_methodNamed B.named
  have hlocks := B.notSynchronized
  have hw_0 := hts (.fieldLink RX8 156 "HoopLaneModel" "lean" "I") (by decide +kernel)
  have hin8 : ∀ w ∈ wsX80, w ∈ wsX8_taps := by decide +kernel
  have hl := lv_entry ([.ref (ad 0), .int x1, .int x2]) (n := 4) (Nat.le_of_ble_eq_true rfl)
  have hent : entryFrame m args 4 = F0 m 0 ((lg_sl ([.ref (ad 0), .int x1, .int x2]) ++ List.replicate (4 - (lg_sl ([.ref (ad 0), .int x1, .int x2])).length) Slot.unset).toArray) [] := by rw [ha, lg_entry_eq]
  rw [hent]
  generalize (lg_sl ([.ref (ad 0), .int x1, .int x2]) ++ List.replicate (4 - (lg_sl ([.ref (ad 0), .int x1, .int x2])).length) Slot.unset).toArray = ls at hl ⊢
  have hl : lv_has ls 4 [(0, .ref (ad 0)), (1, .int x1), (2, .int x2)] := hl
  obtain ⟨H, hH⟩ : ∃ H : Heap, H = s.heap := ⟨_, rfl⟩
  have hb78 : ∀ (V : VT) (H : Heap) (locs : List Loc) (ls : Array Slot) (s1 : Int32), WI g 13 (cM g ad) ad V s.heap H locs → lv_has ls 4 [] → wp_X8_taps_b78 K  V s1 → W p l e (headSpec wsX8_taps rm_X8_taps).room s m args below meth c H locs 0 0 (MQ below (va_Qv K (WPost 13 (cM g ad) ad g) (AW ad 13 s.heap.size)) args s 0 0 (AW ad 13 s.heap.size)) (F0 m 78 ls [.int s1, .ref (ad 0)]) := by
    intro V H locs ls s1  hI hl hw
    refine mp_18 hx hb hts hin8 hown hK hI hw_0 dX8_taps_78 (fun V10 H locs eV10 hI => ?_)
    replace hw := hw V10 eV10
    refine lv_goto (tgt := 94) hx hb dX8_taps_81 (by decide) ?_
    exact W.vret hx hb hr (x_retv hI hw) hI.2.2.2.2 dX8_taps_94
  have hb63 : ∀ (V : VT) (H : Heap) (locs : List Loc) (ls : Array Slot) (s0 : Int32), WI g 13 (cM g ad) ad V s.heap H locs → lv_has ls 4 [(0, .ref (ad 0))] → wp_X8_taps_b63 K  V s0 → W p l e (headSpec wsX8_taps rm_X8_taps).room s m args below meth c H locs 0 0 (MQ below (va_Qv K (WPost 13 (cM g ad) ad g) (AW ad 13 s.heap.size)) args s 0 0 (AW ad 13 s.heap.size)) (F0 m 63 ls [.int s0]) := by
    intro V H locs ls s0  hI hl hw
    refine lv_istore_n (lv' := [(3, .int s0), (0, .ref (ad 0))]) hx hb dX8_taps_63 rfl hl (by decide) rfl (fun ls hl => ?_)
    refine lv_aload_n hx hb dX8_taps_64 rfl (lv_at hl 1 rfl) ?_
    refine lv_aload_n hx hb dX8_taps_65 rfl (lv_at hl 1 rfl) ?_
    refine mg_18 hx hb hts hin8 hown hK hI hw_0 dX8_taps_66 ?_
    refine lv_if_ge (tgt := 77) hx hb dX8_taps_69 (by decide) (fun c9 => ?_) (fun c9 => ?_)
    · replace hw := hw.1 c9
      refine lv_iload_n hx hb dX8_taps_77 rfl (lv_at hl 0 rfl) ?_
      exact hb78 V H locs ls s0 hI (lv_sub hl [] rfl) hw
    · replace hw := hw.2 c9
      refine lv_iload_n hx hb dX8_taps_72 rfl (lv_at hl 0 rfl) ?_
      refine lv_ineg hx hb dX8_taps_73 ?_
      refine lv_goto (tgt := 78) hx hb dX8_taps_74 (by decide) ?_
      exact hb78 V H locs ls (-s0) hI (lv_sub hl [] rfl) hw
  have hb50 : ∀ (V : VT) (H : Heap) (locs : List Loc) (ls : Array Slot) (x2 : Int32) (s0 : Int32), WI g 13 (cM g ad) ad V s.heap H locs → lv_has ls 4 [(0, .ref (ad 0)), (2, .int x2)] → wp_X8_taps_b50 K  V x2 s0 → W p l e (headSpec wsX8_taps rm_X8_taps).room s m args below meth c H locs 0 0 (MQ below (va_Qv K (WPost 13 (cM g ad) ad g) (AW ad 13 s.heap.size)) args s 0 0 (AW ad 13 s.heap.size)) (F0 m 50 ls [.int s0]) := by
    intro V H locs ls x2 s0  hI hl hw
    refine lv_istore_n (lv' := [(3, .int s0), (0, .ref (ad 0)), (2, .int x2)]) hx hb dX8_taps_50 rfl hl (by decide) rfl (fun ls hl => ?_)
    refine lv_iload_n hx hb dX8_taps_51 rfl (lv_at hl 0 rfl) ?_
    refine lv_iload_n hx hb dX8_taps_52 rfl (lv_at hl 2 rfl) ?_
    refine lv_icmp_le (tgt := 62) hx hb dX8_taps_53 (by decide) (fun c8 => ?_) (fun c8 => ?_)
    · replace hw := hw.1 c8
      refine lv_iconst (v := (0 : Int32)) hx hb dX8_taps_62 (by decide) ?_
      exact hb63 V H locs ls (0 : Int32) hI (lv_sub hl [1] rfl) hw
    · replace hw := hw.2 c8
      refine lv_iload_n hx hb dX8_taps_56 rfl (lv_at hl 0 rfl) ?_
      refine lv_iload_n hx hb dX8_taps_57 rfl (lv_at hl 2 rfl) ?_
      refine lv_isub hx hb dX8_taps_58 ?_
      refine lv_goto (tgt := 63) hx hb dX8_taps_59 (by decide) ?_
      exact hb63 V H locs ls (s0 - x2) hI (lv_sub hl [1] rfl) hw
  have hb23 : ∀ (V : VT) (H : Heap) (locs : List Loc) (ls : Array Slot) (x1 : Int32) (x2 : Int32) (s1 : Int32), WI g 13 (cM g ad) ad V s.heap H locs → lv_has ls 4 [(0, .ref (ad 0)), (1, .int x1), (2, .int x2)] → wp_X8_taps_b23 K  V x1 x2 s1 → W p l e (headSpec wsX8_taps rm_X8_taps).room s m args below meth c H locs 0 0 (MQ below (va_Qv K (WPost 13 (cM g ad) ad g) (AW ad 13 s.heap.size)) args s 0 0 (AW ad 13 s.heap.size)) (F0 m 23 ls [.int s1, .ref (ad 0)]) := by
    intro V H locs ls x1 x2 s1  hI hl hw
    refine x_aftv (va_runV (As := [.int s1]) (rest := []) ⟨hx, hb, hml, hown, hts⟩ (c_X8_paces l g ad H.size V s1 _ hw) (cwV 1 hts gX8_taps_X8_paces rfl rfl rfl (by decide +kernel) ⟨Nat.le_of_ble_eq_true rfl, Nat.le_of_ble_eq_true rfl⟩) (x_preV (k := 0) hK hE hI (by decide) rfl rfl) rfl rfl hl.1 rfl (lv_room (Nat.le_of_ble_eq_true rfl)) dX8_taps_23 ⟨Nat.zero_le _, Nat.zero_le _⟩) hI (fun V3 H locs hw hI => ?_)
    refine lv_iload_n hx hb dX8_taps_26 rfl (lv_at hl 1 rfl) ?_
    refine lv_iconst (v := (2 : Int32)) hx hb dX8_taps_27 (by decide) ?_
    refine lv_icmp_ne (tgt := 84) hx hb dX8_taps_28 (by decide) (fun c4 => ?_) (fun c4 => ?_)
    · replace hw := hw.1 c4
      refine lv_iload_n hx hb dX8_taps_84 rfl (lv_at hl 1 rfl) ?_
      refine lv_iconst (v := (5 : Int32)) hx hb dX8_taps_85 (by decide) ?_
      refine lv_icmp_ne (tgt := 94) hx hb dX8_taps_86 (by decide) (fun c5 => ?_) (fun c5 => ?_)
      · replace hw := hw.1 c5
        exact W.vret hx hb hr (x_retv hI hw) hI.2.2.2.2 dX8_taps_94
      · replace hw := hw.2 c5
        refine lv_aload_n hx hb dX8_taps_89 rfl (lv_at hl 0 rfl) ?_
        refine lv_iconst (v := (0 : Int32)) hx hb dX8_taps_90 (by decide) ?_
        refine mp_18 hx hb hts hin8 hown hK hI hw_0 dX8_taps_91 (fun V6 H locs eV6 hI => ?_)
        replace hw := hw V6 eV6
        exact W.vret hx hb hr (x_retv hI hw) hI.2.2.2.2 dX8_taps_94
    · replace hw := hw.2 c4
      refine lv_aload_n hx hb dX8_taps_31 rfl (lv_at hl 0 rfl) ?_
      refine mg_18 hx hb hts hin8 hown hK hI hw_0 dX8_taps_32 ?_
      refine lv_if_ge (tgt := 46) hx hb dX8_taps_35 (by decide) (fun c7 => ?_) (fun c7 => ?_)
      · replace hw := hw.1 c7
        refine lv_aload_n hx hb dX8_taps_46 rfl (lv_at hl 0 rfl) ?_
        refine mg_18 hx hb hts hin8 hown hK hI hw_0 dX8_taps_47 ?_
        exact hb50 V3 H locs ls x2 (V3 0 18) hI (lv_sub hl [0, 2] rfl) hw
      · replace hw := hw.2 c7
        refine lv_aload_n hx hb dX8_taps_38 rfl (lv_at hl 0 rfl) ?_
        refine mg_18 hx hb hts hin8 hown hK hI hw_0 dX8_taps_39 ?_
        refine lv_ineg hx hb dX8_taps_42 ?_
        refine lv_goto (tgt := 50) hx hb dX8_taps_43 (by decide) ?_
        exact hb50 V3 H locs ls x2 (-(V3 0 18)) hI (lv_sub hl [0, 2] rfl) hw
  have hgo : ∀ (H : Heap) (locs : List Loc), WI g 13 (cM g ad) ad V s.heap H locs → W p l e (headSpec wsX8_taps rm_X8_taps).room s m args below meth c H locs 0 0 (MQ below (va_Qv K (WPost 13 (cM g ad) ad g) (AW ad 13 s.heap.size)) args s 0 0 (AW ad 13 s.heap.size)) (F0 m 0 ls []) := by
    intro H locs hI
    refine lv_aload_n hx hb dX8_taps_0 rfl (lv_at hl 0 rfl) ?_
    refine lv_iload_n hx hb dX8_taps_1 rfl (lv_at hl 1 rfl) ?_
    refine lv_iconst (v := (2 : Int32)) hx hb dX8_taps_2 (by decide) ?_
    refine lv_icmp_ne (tgt := 12) hx hb dX8_taps_3 (by decide) (fun c1 => ?_) (fun c1 => ?_)
    · replace hw := hw.1 c1
      refine lv_iload_n hx hb dX8_taps_12 rfl (lv_at hl 1 rfl) ?_
      refine lv_iconst (v := (4 : Int32)) hx hb dX8_taps_13 (by decide) ?_
      refine lv_icmp_ge (tgt := 21) hx hb dX8_taps_14 (by decide) (fun c2 => ?_) (fun c2 => ?_)
      · replace hw := hw.1 c2
        refine lv_iload_n hx hb dX8_taps_21 rfl (lv_at hl 2 rfl) ?_
        refine lv_ineg hx hb dX8_taps_22 ?_
        exact hb23 V H locs ls x1 x2 (-x2) hI (lv_sub hl [0, 1, 2] rfl) hw
      · replace hw := hw.2 c2
        refine lv_iload_n hx hb dX8_taps_17 rfl (lv_at hl 2 rfl) ?_
        refine lv_goto (tgt := 23) hx hb dX8_taps_18 (by decide) ?_
        exact hb23 V H locs ls x1 x2 x2 hI (lv_sub hl [0, 1, 2] rfl) hw
    · replace hw := hw.2 c1
      refine lv_iload_n hx hb dX8_taps_6 rfl (lv_at hl 2 rfl) ?_
      refine lv_iconst (v := (2 : Int32)) hx hb dX8_taps_7 (by decide) ?_
      refine lv_idiv hx hb dX8_taps_8 (by decide) ?_
      refine lv_goto (tgt := 23) hx hb dX8_taps_9 (by decide) ?_
      exact hb23 V H locs ls x1 x2 (x2 / (2 : Int32)) hI (lv_sub hl [0, 1, 2] rfl) hw
  exact hgo s.heap [] hI
def rm_X8_grounds : Room := { frames := 1, cells := 0, slots := 0, locals := 22 }
set_option maxHeartbeats 4000000 in
set_option maxRecDepth 100000 in
theorem c_X8_grounds (l : Launch) (g : GP) (ad : Nat → Nat) (sz : Nat) (V : VT)   (K : VT → Prop) (hw : wp_X8_grounds V  K) : Met l yX8_grounds wsX8_grounds rm_X8_grounds (va_Pc [.ref (ad 0)] (WPre 13 (cM g ad) ad g V sz)) (va_Qv K (WPost 13 (cM g ad) ad g) (AW ad 13 sz)) 0 0 (AW ad 13 sz) := by
  refine Met.ofW (cc := cX8_grounds) (maxL := 1) (ret := none) (by decide) rfl ?_
  intro p e s m args below meth c s₁ B hml hv
  obtain ⟨ha, hv⟩ := hv
  obtain rfl := hv.1
  have hI : WI g 13 (cM g ad) ad V s.heap s.heap [] := WI.start hv
  have hK := hv.2.2.1
  have hE := hv.2.2.2.2
  have hx := B.exec
  have hb := B.bytes
  have hr := B.returns
  have hts := atoms_spec (ws := wsX8_grounds) B.pre
  have hown : s.vm.findClass RX8 = some m.cls := findClass_of_methodNamed B.named
  have hlocks := B.notSynchronized
  have hw_0 := hts (.fieldLink RX8 22 "HoopLaneModel" "lane" "[I") (by decide +kernel)
  have hw_1 := hts (.fieldLink RX8 150 "HoopLaneModel" "yard" "I") (by decide +kernel)
  have hw_2 := hts (.fieldLink RX8 156 "HoopLaneModel" "lean" "I") (by decide +kernel)
  have hin8 : ∀ w ∈ wsX80, w ∈ wsX8_grounds := by decide +kernel
  have hl := lv_entry ([.ref (ad 0)]) (n := 1) (Nat.le_of_ble_eq_true rfl)
  have hent : entryFrame m args 1 = F0 m 0 ((lg_sl ([.ref (ad 0)]) ++ List.replicate (1 - (lg_sl ([.ref (ad 0)])).length) Slot.unset).toArray) [] := by rw [ha, lg_entry_eq]
  rw [hent]
  generalize (lg_sl ([.ref (ad 0)]) ++ List.replicate (1 - (lg_sl ([.ref (ad 0)])).length) Slot.unset).toArray = ls at hl ⊢
  have hl : lv_has ls 1 [(0, .ref (ad 0))] := hl
  obtain ⟨H, hH⟩ : ∃ H : Heap, H = s.heap := ⟨_, rfl⟩
  have hgo : ∀ (H : Heap) (locs : List Loc), WI g 13 (cM g ad) ad V s.heap H locs → W p l e (headSpec wsX8_grounds rm_X8_grounds).room s m args below meth c H locs 0 0 (MQ below (va_Qv K (WPost 13 (cM g ad) ad g) (AW ad 13 s.heap.size)) args s 0 0 (AW ad 13 s.heap.size)) (F0 m 0 ls []) := by
    intro H locs hI
    refine lv_aload_n hx hb dX8_grounds_0 rfl (lv_at hl 0 rfl) ?_
    refine mg_5 hx hb hts hin8 hown hK hI hw_0 dX8_grounds_1 ?_
    refine lv_iconst (v := (4 : Int32)) hx hb dX8_grounds_4 (by decide) ?_
    refine lv_aload_n hx hb dX8_grounds_5 rfl (lv_at hl 0 rfl) ?_
    refine mg_16 hx hb hts hin8 hown hK hI hw_1 dX8_grounds_6 ?_
    refine lv_iadd hx hb dX8_grounds_9 ?_
    obtain ⟨h1, hw⟩ := hw
    refine x_iald (k := 5) hx hb hK hI (by decide) rfl h1 dX8_grounds_10 ?_
    by_cases c2 : (V 5 (((4 : Int32) + (V 0 16))).toNatClampNeg) = (1 : Int32)
    · replace hw := hw.1 c2
      refine lv_tableIn (off := 33) (tgt := 44) hx hb dX8_grounds_11 (by rw [c2]; decide) (by rw [c2]; decide) (by rw [c2]; rfl) (by decide) ?_
      refine lv_aload_n hx hb dX8_grounds_44 rfl (lv_at hl 0 rfl) ?_
      refine lv_iconst (v := (2 : Int32)) hx hb dX8_grounds_45 (by decide) ?_
      refine x_aftv (va_runV (As := [.int (2 : Int32)]) (rest := []) ⟨hx, hb, hml, hown, hts⟩ (c_X8_paces l g ad H.size V (2 : Int32) _ hw) (cwV 1 hts gX8_grounds_X8_paces rfl rfl rfl (by decide +kernel) ⟨Nat.le_of_ble_eq_true rfl, Nat.le_of_ble_eq_true rfl⟩) (x_preV (k := 0) hK hE hI (by decide) rfl rfl) rfl rfl hl.1 rfl (lv_room (Nat.le_of_ble_eq_true rfl)) dX8_grounds_46 ⟨Nat.zero_le _, Nat.zero_le _⟩) hI (fun V3 H locs hw hI => ?_)
      refine lv_goto (tgt := 105) hx hb dX8_grounds_49 (by decide) ?_
      exact W.vret hx hb hr (x_retv hI hw) hI.2.2.2.2 dX8_grounds_105
    · skip
      by_cases c4 : (V 5 (((4 : Int32) + (V 0 16))).toNatClampNeg) = (2 : Int32)
      · replace hw := hw.2.1 c4
        refine lv_tableIn (off := 41) (tgt := 52) hx hb dX8_grounds_11 (by rw [c4]; decide) (by rw [c4]; decide) (by rw [c4]; rfl) (by decide) ?_
        refine lv_aload_n hx hb dX8_grounds_52 rfl (lv_at hl 0 rfl) ?_
        refine lv_iconst (v := (-1 : Int32)) hx hb dX8_grounds_53 (by decide) ?_
        refine x_aftv (va_runV (As := [.int (-1 : Int32)]) (rest := []) ⟨hx, hb, hml, hown, hts⟩ (c_X8_paces l g ad H.size V (-1 : Int32) _ hw) (cwV 1 hts gX8_grounds_X8_paces rfl rfl rfl (by decide +kernel) ⟨Nat.le_of_ble_eq_true rfl, Nat.le_of_ble_eq_true rfl⟩) (x_preV (k := 0) hK hE hI (by decide) rfl rfl) rfl rfl hl.1 rfl (lv_room (Nat.le_of_ble_eq_true rfl)) dX8_grounds_54 ⟨Nat.zero_le _, Nat.zero_le _⟩) hI (fun V5 H locs hw hI => ?_)
        refine lv_goto (tgt := 105) hx hb dX8_grounds_57 (by decide) ?_
        exact W.vret hx hb hr (x_retv hI hw) hI.2.2.2.2 dX8_grounds_105
      · skip
        by_cases c6 : (V 5 (((4 : Int32) + (V 0 16))).toNatClampNeg) = (3 : Int32)
        · replace hw := hw.2.2.1 c6
          refine lv_tableIn (off := 49) (tgt := 60) hx hb dX8_grounds_11 (by rw [c6]; decide) (by rw [c6]; decide) (by rw [c6]; rfl) (by decide) ?_
          refine lv_aload_n hx hb dX8_grounds_60 rfl (lv_at hl 0 rfl) ?_
          refine lv_iconst (v := (0 : Int32)) hx hb dX8_grounds_61 (by decide) ?_
          refine mp_18 hx hb hts hin8 hown hK hI hw_2 dX8_grounds_62 (fun V7 H locs eV7 hI => ?_)
          replace hw := hw V7 eV7
          refine lv_goto (tgt := 105) hx hb dX8_grounds_65 (by decide) ?_
          exact W.vret hx hb hr (x_retv hI hw) hI.2.2.2.2 dX8_grounds_105
        · skip
          by_cases c8 : (V 5 (((4 : Int32) + (V 0 16))).toNatClampNeg) = (4 : Int32)
          · replace hw := hw.2.2.2.1 c8
            refine lv_tableIn (off := 57) (tgt := 68) hx hb dX8_grounds_11 (by rw [c8]; decide) (by rw [c8]; decide) (by rw [c8]; rfl) (by decide) ?_
            refine lv_aload_n hx hb dX8_grounds_68 rfl (lv_at hl 0 rfl) ?_
            refine lv_aload_n hx hb dX8_grounds_69 rfl (lv_at hl 0 rfl) ?_
            refine mg_18 hx hb hts hin8 hown hK hI hw_2 dX8_grounds_70 ?_
            refine lv_iconst (v := (2 : Int32)) hx hb dX8_grounds_73 (by decide) ?_
            refine lv_iconst (v := (2 : Int32)) hx hb dX8_grounds_74 (by decide) ?_
            refine x_afti (va_runS (As := [.int (V 0 18), .int (2 : Int32), .int (2 : Int32)]) (rest := [.ref (ad 0)]) ⟨hx, hb, hml, hown, hts⟩ (c_X8_from0 l g ad H.size V (V 0 18) (2 : Int32) (2 : Int32) _ hw) (cwS 3 hts gX8_grounds_X8_from0 rfl rfl rfl (by decide +kernel) ⟨Nat.le_of_ble_eq_true rfl, Nat.le_of_ble_eq_true rfl⟩) (x_preS hK hE hI) rfl rfl hl.1 rfl (lv_room (Nat.le_of_ble_eq_true rfl)) dX8_grounds_75 ⟨Nat.zero_le _, Nat.zero_le _⟩) hI (fun r10 V9 H locs hw hI => ?_)
            refine mp_18 hx hb hts hin8 hown hK hI hw_2 dX8_grounds_78 (fun V11 H locs eV11 hI => ?_)
            replace hw := hw V11 eV11
            refine lv_goto (tgt := 105) hx hb dX8_grounds_81 (by decide) ?_
            exact W.vret hx hb hr (x_retv hI hw) hI.2.2.2.2 dX8_grounds_105
          · skip
            by_cases c12 : (V 5 (((4 : Int32) + (V 0 16))).toNatClampNeg) = (5 : Int32)
            · replace hw := hw.2.2.2.2.1 c12
              refine lv_tableIn (off := 73) (tgt := 84) hx hb dX8_grounds_11 (by rw [c12]; decide) (by rw [c12]; decide) (by rw [c12]; rfl) (by decide) ?_
              refine lv_aload_n hx hb dX8_grounds_84 rfl (lv_at hl 0 rfl) ?_
              refine lv_iconst (v := (-1 : Int32)) hx hb dX8_grounds_85 (by decide) ?_
              refine x_aftv (va_runV (As := [.int (-1 : Int32)]) (rest := []) ⟨hx, hb, hml, hown, hts⟩ (c_X8_paces l g ad H.size V (-1 : Int32) _ hw) (cwV 1 hts gX8_grounds_X8_paces rfl rfl rfl (by decide +kernel) ⟨Nat.le_of_ble_eq_true rfl, Nat.le_of_ble_eq_true rfl⟩) (x_preV (k := 0) hK hE hI (by decide) rfl rfl) rfl rfl hl.1 rfl (lv_room (Nat.le_of_ble_eq_true rfl)) dX8_grounds_86 ⟨Nat.zero_le _, Nat.zero_le _⟩) hI (fun V13 H locs hw hI => ?_)
              refine lv_aload_n hx hb dX8_grounds_89 rfl (lv_at hl 0 rfl) ?_
              refine lv_aload_n hx hb dX8_grounds_90 rfl (lv_at hl 0 rfl) ?_
              refine mg_18 hx hb hts hin8 hown hK hI hw_2 dX8_grounds_91 ?_
              refine lv_iconst (v := (1 : Int32)) hx hb dX8_grounds_94 (by decide) ?_
              refine lv_iconst (v := (-1 : Int32)) hx hb dX8_grounds_95 (by decide) ?_
              refine x_afti (va_runS (As := [.int (V13 0 18), .int (1 : Int32), .int (-1 : Int32)]) (rest := [.ref (ad 0)]) ⟨hx, hb, hml, hown, hts⟩ (c_X8_from0 l g ad H.size V13 (V13 0 18) (1 : Int32) (-1 : Int32) _ hw) (cwS 3 hts gX8_grounds_X8_from0 rfl rfl rfl (by decide +kernel) ⟨Nat.le_of_ble_eq_true rfl, Nat.le_of_ble_eq_true rfl⟩) (x_preS hK hE hI) rfl rfl hl.1 rfl (lv_room (Nat.le_of_ble_eq_true rfl)) dX8_grounds_96 ⟨Nat.zero_le _, Nat.zero_le _⟩) hI (fun r15 V14 H locs hw hI => ?_)
              refine mp_18 hx hb hts hin8 hown hK hI hw_2 dX8_grounds_99 (fun V16 H locs eV16 hI => ?_)
              replace hw := hw V16 eV16
              refine lv_goto (tgt := 105) hx hb dX8_grounds_102 (by decide) ?_
              exact W.vret hx hb hr (x_retv hI hw) hI.2.2.2.2 dX8_grounds_105
            · skip
              replace hw := hw.2.2.2.2.2 c2 c4 c6 c8 c12
              refine lv_tableOut (tgt := 105) hx hb dX8_grounds_11 (by have ec2 : ¬ Int32.toInt (V 5 (((4 : Int32) + (V 0 16))).toNatClampNeg) = 1 := fun h => c2 (Int32.toInt_inj.mp (h.trans (by decide))); have ec4 : ¬ Int32.toInt (V 5 (((4 : Int32) + (V 0 16))).toNatClampNeg) = 2 := fun h => c4 (Int32.toInt_inj.mp (h.trans (by decide))); have ec6 : ¬ Int32.toInt (V 5 (((4 : Int32) + (V 0 16))).toNatClampNeg) = 3 := fun h => c6 (Int32.toInt_inj.mp (h.trans (by decide))); have ec8 : ¬ Int32.toInt (V 5 (((4 : Int32) + (V 0 16))).toNatClampNeg) = 4 := fun h => c8 (Int32.toInt_inj.mp (h.trans (by decide))); have ec12 : ¬ Int32.toInt (V 5 (((4 : Int32) + (V 0 16))).toNatClampNeg) = 5 := fun h => c12 (Int32.toInt_inj.mp (h.trans (by decide))); omega) (by decide) ?_
              exact W.vret hx hb hr (x_retv hI hw) hI.2.2.2.2 dX8_grounds_105
  exact hgo s.heap [] hI
