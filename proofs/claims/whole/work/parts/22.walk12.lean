def rm_X8_goes : Room := { frames := 2, cells := 0, slots := 0, locals := 44 }
set_option maxHeartbeats 4000000 in
set_option maxRecDepth 100000 in
theorem c_X8_goes (l : Launch) (g : GP) (ad : Nat → Nat) (sz : Nat) (V : VT) (x1 : Int32) (x2 : Int32)  (K : VT → Prop) (hw : wp_X8_goes V x1 x2 K) : Met l yX8_goes wsX8_goes rm_X8_goes (va_Pc [.ref (ad 0), .int x1, .int x2] (WPre 13 (cM g ad) ad g V sz)) (va_Qv K (WPost 13 (cM g ad) ad g) (AW ad 13 sz)) 0 0 (AW ad 13 sz) := by
  refine Met.ofW (cc := cX8_goes) (maxL := 3) (ret := none) (by decide) rfl ?_
  intro p e s m args below meth c s₁ B hml hv
  obtain ⟨ha, hv⟩ := hv
  obtain rfl := hv.1
  have hI : WI g 13 (cM g ad) ad V s.heap s.heap [] := WI.start hv
  have hK := hv.2.2.1
  have hE := hv.2.2.2.2
  have hx := B.exec
  have hb := B.bytes
  have hr := B.returns
  have hts := atoms_spec (ws := wsX8_goes) B.pre
  have hown : s.vm.findClass RX8 = some m.cls := findClass_of_methodNamed B.named
  have hlocks := B.notSynchronized
  have hw_0 := hts (.fieldLink RX8 150 "HoopLaneModel" "yard" "I") (by decide +kernel)
  have hw_1 := hts (.fieldLink RX8 153 "HoopLaneModel" "pace" "I") (by decide +kernel)
  have hw_2 := hts (.fieldLink RX8 144 "HoopLaneModel" "moment" "I") (by decide +kernel)
  have hw_3 := hts (.fieldLink RX8 22 "HoopLaneModel" "lane" "[I") (by decide +kernel)
  have hw_4 := hts (.fieldLink RX8 159 "HoopLaneModel" "end" "I") (by decide +kernel)
  have hw_5 := hts (.fieldLink RX8 156 "HoopLaneModel" "lean" "I") (by decide +kernel)
  have hin8 : ∀ w ∈ wsX80, w ∈ wsX8_goes := by decide +kernel
  have hl := lv_entry ([.ref (ad 0), .int x1, .int x2]) (n := 3) (Nat.le_of_ble_eq_true rfl)
  have hent : entryFrame m args 3 = F0 m 0 ((lg_sl ([.ref (ad 0), .int x1, .int x2]) ++ List.replicate (3 - (lg_sl ([.ref (ad 0), .int x1, .int x2])).length) Slot.unset).toArray) [] := by rw [ha, lg_entry_eq]
  rw [hent]
  generalize (lg_sl ([.ref (ad 0), .int x1, .int x2]) ++ List.replicate (3 - (lg_sl ([.ref (ad 0), .int x1, .int x2])).length) Slot.unset).toArray = ls at hl ⊢
  have hl : lv_has ls 3 [(0, .ref (ad 0)), (1, .int x1), (2, .int x2)] := hl
  obtain ⟨H, hH⟩ : ∃ H : Heap, H = s.heap := ⟨_, rfl⟩
  have hb167 : ∀ (V : VT) (H : Heap) (locs : List Loc) (ls : Array Slot) (s1 : Int32), WI g 13 (cM g ad) ad V s.heap H locs → lv_has ls 3 [] → wp_X8_goes_b167 K  V s1 → W p l e (headSpec wsX8_goes rm_X8_goes).room s m args below meth c H locs 0 0 (MQ below (va_Qv K (WPost 13 (cM g ad) ad g) (AW ad 13 s.heap.size)) args s 0 0 (AW ad 13 s.heap.size)) (F0 m 167 ls [.int s1, .ref (ad 0)]) := by
    intro V H locs ls s1  hI hl hw
    refine mp_19 hx hb hts hin8 hown hK hI hw_4 dX8_goes_167 (fun V24 H locs eV24 hI => ?_)
    replace hw := hw V24 eV24
    exact W.vret hx hb hr (x_retv hI hw) hI.2.2.2.2 dX8_goes_170
  have hb162 : ∀ (V : VT) (H : Heap) (locs : List Loc) (ls : Array Slot) , WI g 13 (cM g ad) ad V s.heap H locs → lv_has ls 3 [] → wp_X8_goes_b162 K  V  → W p l e (headSpec wsX8_goes rm_X8_goes).room s m args below meth c H locs 0 0 (MQ below (va_Qv K (WPost 13 (cM g ad) ad g) (AW ad 13 s.heap.size)) args s 0 0 (AW ad 13 s.heap.size)) (F0 m 162 ls [.ref (ad 0)]) := by
    intro V H locs ls   hI hl hw
    refine lv_iconst (v := (1 : Int32)) hx hb dX8_goes_162 (by decide) ?_
    refine lv_goto (tgt := 167) hx hb dX8_goes_163 (by decide) ?_
    exact hb167 V H locs ls (1 : Int32) hI (lv_sub hl [] rfl) hw
  have hb124 : ∀ (V : VT) (H : Heap) (locs : List Loc) (ls : Array Slot) (s1 : Int32), WI g 13 (cM g ad) ad V s.heap H locs → lv_has ls 3 [(0, .ref (ad 0))] → wp_X8_goes_b124 K  V s1 → W p l e (headSpec wsX8_goes rm_X8_goes).room s m args below meth c H locs 0 0 (MQ below (va_Qv K (WPost 13 (cM g ad) ad g) (AW ad 13 s.heap.size)) args s 0 0 (AW ad 13 s.heap.size)) (F0 m 124 ls [.int s1, .ref (ad 0)]) := by
    intro V H locs ls s1  hI hl hw
    refine mp_18 hx hb hts hin8 hown hK hI hw_5 dX8_goes_124 (fun V16 H locs eV16 hI => ?_)
    replace hw := hw V16 eV16
    refine lv_aload_n hx hb dX8_goes_127 rfl (lv_at hl 0 rfl) ?_
    refine lv_aload_n hx hb dX8_goes_128 rfl (lv_at hl 0 rfl) ?_
    refine mg_18 hx hb hts hin8 hown hK hI hw_5 dX8_goes_129 ?_
    refine lv_aload_n hx hb dX8_goes_132 rfl (lv_at hl 0 rfl) ?_
    refine mg_5 hx hb hts hin8 hown hK hI hw_3 dX8_goes_133 ?_
    refine lv_iconst (v := (2 : Int32)) hx hb dX8_goes_136 (by decide) ?_
    obtain ⟨h17, hw⟩ := hw
    refine x_iald (k := 5) hx hb hK hI (by decide) rfl h17 dX8_goes_137 ?_
    refine lv_icmp_gt (tgt := 162) hx hb dX8_goes_138 (by decide) (fun c18 => ?_) (fun c18 => ?_)
    · replace hw := hw.1 c18
      exact hb162 V16 H locs ls  hI (lv_sub hl [] rfl) hw
    · replace hw := hw.2 c18
      refine lv_aload_n hx hb dX8_goes_141 rfl (lv_at hl 0 rfl) ?_
      refine mg_18 hx hb hts hin8 hown hK hI hw_5 dX8_goes_142 ?_
      refine lv_aload_n hx hb dX8_goes_145 rfl (lv_at hl 0 rfl) ?_
      refine mg_5 hx hb hts hin8 hown hK hI hw_3 dX8_goes_146 ?_
      refine lv_iconst (v := (2 : Int32)) hx hb dX8_goes_149 (by decide) ?_
      obtain ⟨h19, hw⟩ := hw
      refine x_iald (k := 5) hx hb hK hI (by decide) rfl h19 dX8_goes_150 ?_
      refine lv_ineg hx hb dX8_goes_151 ?_
      refine lv_icmp_lt (tgt := 162) hx hb dX8_goes_152 (by decide) (fun c20 => ?_) (fun c20 => ?_)
      · replace hw := hw.1 c20
        exact hb162 V16 H locs ls  hI (lv_sub hl [] rfl) hw
      · replace hw := hw.2 c20
        refine lv_aload_n hx hb dX8_goes_155 rfl (lv_at hl 0 rfl) ?_
        refine mg_17 hx hb hts hin8 hown hK hI hw_1 dX8_goes_156 ?_
        refine lv_if_ne (tgt := 166) hx hb dX8_goes_159 (by decide) (fun c21 => ?_) (fun c21 => ?_)
        · replace hw := hw.1 c21
          refine lv_iconst (v := (0 : Int32)) hx hb dX8_goes_166 (by decide) ?_
          exact hb167 V16 H locs ls (0 : Int32) hI (lv_sub hl [] rfl) hw
        · replace hw := hw.2 c21
          exact hb162 V16 H locs ls  hI (lv_sub hl [] rfl) hw
  have hb114 : ∀ (V : VT) (H : Heap) (locs : List Loc) (ls : Array Slot) (s1 : Int32) (s2 : Int32) (s3 : Int32), WI g 13 (cM g ad) ad V s.heap H locs → lv_has ls 3 [(0, .ref (ad 0))] → wp_X8_goes_b114 K  V s1 s2 s3 → W p l e (headSpec wsX8_goes rm_X8_goes).room s m args below meth c H locs 0 0 (MQ below (va_Qv K (WPost 13 (cM g ad) ad g) (AW ad 13 s.heap.size)) args s 0 0 (AW ad 13 s.heap.size)) (F0 m 114 ls [.int s3, .int s2, .int s1, .ref (ad 0)]) := by
    intro V H locs ls s1 s2 s3  hI hl hw
    refine x_afti (va_runS (As := [.int s1, .int s2, .int s3]) (rest := [.ref (ad 0)]) ⟨hx, hb, hml, hown, hts⟩ (c_X8_from0 l g ad H.size V s1 s2 s3 _ hw) (cwS 3 hts gX8_goes_X8_from0 rfl rfl rfl (by decide +kernel) ⟨Nat.le_of_ble_eq_true rfl, Nat.le_of_ble_eq_true rfl⟩) (x_preS hK hE hI) rfl rfl hl.1 rfl (lv_room (Nat.le_of_ble_eq_true rfl)) dX8_goes_114 ⟨Nat.zero_le _, Nat.zero_le _⟩) hI (fun r23 V22 H locs hw hI => ?_)
    refine lv_goto (tgt := 124) hx hb dX8_goes_117 (by decide) ?_
    exact hb124 V22 H locs ls r23 hI (lv_sub hl [0] rfl) hw
  have hb75 : ∀ (V : VT) (H : Heap) (locs : List Loc) (ls : Array Slot) , WI g 13 (cM g ad) ad V s.heap H locs → lv_has ls 3 [(0, .ref (ad 0))] → wp_X8_goes_b75 K  V  → W p l e (headSpec wsX8_goes rm_X8_goes).room s m args below meth c H locs 0 0 (MQ below (va_Qv K (WPost 13 (cM g ad) ad g) (AW ad 13 s.heap.size)) args s 0 0 (AW ad 13 s.heap.size)) (F0 m 75 ls []) := by
    intro V H locs ls   hI hl hw
    refine lv_aload_n hx hb dX8_goes_75 rfl (lv_at hl 0 rfl) ?_
    refine lv_aload_n hx hb dX8_goes_76 rfl (lv_at hl 0 rfl) ?_
    refine mg_5 hx hb hts hin8 hown hK hI hw_3 dX8_goes_77 ?_
    refine lv_iconst (v := (3 : Int32)) hx hb dX8_goes_80 (by decide) ?_
    obtain ⟨h12, hw⟩ := hw
    refine x_iald (k := 5) hx hb hK hI (by decide) rfl h12 dX8_goes_81 ?_
    refine lv_ineg hx hb dX8_goes_82 ?_
    refine x_aftv (va_runV (As := [.int (-(V 5 ((3 : Int32)).toNatClampNeg))]) (rest := []) ⟨hx, hb, hml, hown, hts⟩ (c_X8_paces l g ad H.size V (-(V 5 ((3 : Int32)).toNatClampNeg)) _ hw) (cwV 1 hts gX8_goes_X8_paces rfl rfl rfl (by decide +kernel) ⟨Nat.le_of_ble_eq_true rfl, Nat.le_of_ble_eq_true rfl⟩) (x_preV (k := 0) hK hE hI (by decide) rfl rfl) rfl rfl hl.1 rfl (lv_room (Nat.le_of_ble_eq_true rfl)) dX8_goes_83 ⟨Nat.zero_le _, Nat.zero_le _⟩) hI (fun V13 H locs hw hI => ?_)
    refine lv_aload_n hx hb dX8_goes_86 rfl (lv_at hl 0 rfl) ?_
    refine lv_aload_n hx hb dX8_goes_87 rfl (lv_at hl 0 rfl) ?_
    refine mg_17 hx hb hts hin8 hown hK hI hw_1 dX8_goes_88 ?_
    refine lv_iconst (v := (4 : Int32)) hx hb dX8_goes_91 (by decide) ?_
    refine lv_icmp_ge (tgt := 120) hx hb dX8_goes_92 (by decide) (fun c14 => ?_) (fun c14 => ?_)
    · replace hw := hw.1 c14
      refine lv_aload_n hx hb dX8_goes_120 rfl (lv_at hl 0 rfl) ?_
      refine mg_18 hx hb hts hin8 hown hK hI hw_5 dX8_goes_121 ?_
      exact hb124 V13 H locs ls (V13 0 18) hI (lv_sub hl [0] rfl) hw
    · replace hw := hw.2 c14
      refine lv_aload_n hx hb dX8_goes_95 rfl (lv_at hl 0 rfl) ?_
      refine mg_18 hx hb hts hin8 hown hK hI hw_5 dX8_goes_96 ?_
      refine lv_iconst (v := (1 : Int32)) hx hb dX8_goes_99 (by decide) ?_
      refine lv_aload_n hx hb dX8_goes_100 rfl (lv_at hl 0 rfl) ?_
      refine mg_16 hx hb hts hin8 hown hK hI hw_0 dX8_goes_101 ?_
      refine lv_iconst (v := (2 : Int32)) hx hb dX8_goes_104 (by decide) ?_
      refine lv_irem hx hb dX8_goes_105 (by decide) ?_
      refine lv_if_ne (tgt := 113) hx hb dX8_goes_106 (by decide) (fun c15 => ?_) (fun c15 => ?_)
      · replace hw := hw.1 c15
        refine lv_iconst (v := (-1 : Int32)) hx hb dX8_goes_113 (by decide) ?_
        exact hb114 V13 H locs ls (V13 0 18) (1 : Int32) (-1 : Int32) hI (lv_sub hl [0] rfl) hw
      · replace hw := hw.2 c15
        refine lv_iconst (v := (1 : Int32)) hx hb dX8_goes_109 (by decide) ?_
        refine lv_goto (tgt := 114) hx hb dX8_goes_110 (by decide) ?_
        exact hb114 V13 H locs ls (V13 0 18) (1 : Int32) (1 : Int32) hI (lv_sub hl [0] rfl) hw
  have hb10 : ∀ (V : VT) (H : Heap) (locs : List Loc) (ls : Array Slot) (x1 : Int32), WI g 13 (cM g ad) ad V s.heap H locs → lv_has ls 3 [(0, .ref (ad 0)), (1, .int x1)] → wp_X8_goes_b10 K  V x1 → W p l e (headSpec wsX8_goes rm_X8_goes).room s m args below meth c H locs 0 0 (MQ below (va_Qv K (WPost 13 (cM g ad) ad g) (AW ad 13 s.heap.size)) args s 0 0 (AW ad 13 s.heap.size)) (F0 m 10 ls []) := by
    intro V H locs ls x1  hI hl hw
    refine lv_aload_n hx hb dX8_goes_10 rfl (lv_at hl 0 rfl) ?_
    refine lv_dup hx hb dX8_goes_11 rfl ?_
    refine mg_16 hx hb hts hin8 hown hK hI hw_0 dX8_goes_12 ?_
    refine lv_aload_n hx hb dX8_goes_15 rfl (lv_at hl 0 rfl) ?_
    refine mg_17 hx hb hts hin8 hown hK hI hw_1 dX8_goes_16 ?_
    refine lv_iconst (v := (3 : Int32)) hx hb dX8_goes_19 (by decide) ?_
    refine lv_idiv hx hb dX8_goes_20 (by decide) ?_
    refine lv_iconst (v := (1 : Int32)) hx hb dX8_goes_21 (by decide) ?_
    refine lv_iadd hx hb dX8_goes_22 ?_
    refine lv_iadd hx hb dX8_goes_23 ?_
    refine mp_16 hx hb hts hin8 hown hK hI hw_0 dX8_goes_24 (fun V3 H locs eV3 hI => ?_)
    replace hw := hw V3 eV3
    refine lv_aload_n hx hb dX8_goes_27 rfl (lv_at hl 0 rfl) ?_
    refine lv_dup hx hb dX8_goes_28 rfl ?_
    refine mg_20 hx hb hts hin8 hown hK hI hw_2 dX8_goes_29 ?_
    refine lv_iconst (v := (1 : Int32)) hx hb dX8_goes_32 (by decide) ?_
    refine lv_iadd hx hb dX8_goes_33 ?_
    refine mp_20 hx hb hts hin8 hown hK hI hw_2 dX8_goes_34 (fun V4 H locs eV4 hI => ?_)
    replace hw := hw V4 eV4
    refine lv_aload_n hx hb dX8_goes_37 rfl (lv_at hl 0 rfl) ?_
    refine mg_16 hx hb hts hin8 hown hK hI hw_0 dX8_goes_38 ?_
    refine lv_aload_n hx hb dX8_goes_41 rfl (lv_at hl 0 rfl) ?_
    refine mg_5 hx hb hts hin8 hown hK hI hw_3 dX8_goes_42 ?_
    refine lv_iconst (v := (0 : Int32)) hx hb dX8_goes_45 (by decide) ?_
    obtain ⟨h5, hw⟩ := hw
    refine x_iald (k := 5) hx hb hK hI (by decide) rfl h5 dX8_goes_46 ?_
    refine lv_icmp_lt (tgt := 66) hx hb dX8_goes_47 (by decide) (fun c6 => ?_) (fun c6 => ?_)
    · replace hw := hw.1 c6
      refine lv_iload_n hx hb dX8_goes_66 rfl (lv_at hl 1 rfl) ?_
      refine lv_iconst (v := (3 : Int32)) hx hb dX8_goes_67 (by decide) ?_
      refine lv_icmp_eq (tgt := 75) hx hb dX8_goes_68 (by decide) (fun c7 => ?_) (fun c7 => ?_)
      · replace hw := hw.1 c7
        exact hb75 V4 H locs ls  hI (lv_sub hl [0] rfl) hw
      · replace hw := hw.2 c7
        refine lv_aload_n hx hb dX8_goes_71 rfl (lv_at hl 0 rfl) ?_
        refine x_aftv (va_runV (As := []) (rest := []) ⟨hx, hb, hml, hown, hts⟩ (c_X8_grounds l g ad H.size V4  _ hw) (cwV 0 hts gX8_goes_X8_grounds rfl rfl rfl (by decide +kernel) ⟨Nat.le_of_ble_eq_true rfl, Nat.le_of_ble_eq_true rfl⟩) (x_preV (k := 0) hK hE hI (by decide) rfl rfl) rfl rfl hl.1 rfl (lv_room (Nat.le_of_ble_eq_true rfl)) dX8_goes_72 ⟨Nat.zero_le _, Nat.zero_le _⟩) hI (fun V8 H locs hw hI => ?_)
        exact hb75 V8 H locs ls  hI (lv_sub hl [0] rfl) hw
    · replace hw := hw.2 c6
      refine lv_aload_n hx hb dX8_goes_50 rfl (lv_at hl 0 rfl) ?_
      refine lv_aload_n hx hb dX8_goes_51 rfl (lv_at hl 0 rfl) ?_
      refine mg_5 hx hb hts hin8 hown hK hI hw_3 dX8_goes_52 ?_
      refine lv_iconst (v := (0 : Int32)) hx hb dX8_goes_55 (by decide) ?_
      obtain ⟨h9, hw⟩ := hw
      refine x_iald (k := 5) hx hb hK hI (by decide) rfl h9 dX8_goes_56 ?_
      refine mp_16 hx hb hts hin8 hown hK hI hw_0 dX8_goes_57 (fun V10 H locs eV10 hI => ?_)
      replace hw := hw V10 eV10
      refine lv_aload_n hx hb dX8_goes_60 rfl (lv_at hl 0 rfl) ?_
      refine lv_iconst (v := (2 : Int32)) hx hb dX8_goes_61 (by decide) ?_
      refine mp_19 hx hb hts hin8 hown hK hI hw_4 dX8_goes_62 (fun V11 H locs eV11 hI => ?_)
      replace hw := hw V11 eV11
      exact W.vret hx hb hr (x_retv hI hw) hI.2.2.2.2 dX8_goes_65
  have hgo : ∀ (H : Heap) (locs : List Loc), WI g 13 (cM g ad) ad V s.heap H locs → W p l e (headSpec wsX8_goes rm_X8_goes).room s m args below meth c H locs 0 0 (MQ below (va_Qv K (WPost 13 (cM g ad) ad g) (AW ad 13 s.heap.size)) args s 0 0 (AW ad 13 s.heap.size)) (F0 m 0 ls []) := by
    intro H locs hI
    refine lv_iload_n hx hb dX8_goes_0 rfl (lv_at hl 1 rfl) ?_
    refine lv_if_le (tgt := 10) hx hb dX8_goes_1 (by decide) (fun c1 => ?_) (fun c1 => ?_)
    · replace hw := hw.1 c1
      exact hb10 V H locs ls x1 hI (lv_sub hl [0, 1] rfl) hw
    · replace hw := hw.2 c1
      refine lv_aload_n hx hb dX8_goes_4 rfl (lv_at hl 0 rfl) ?_
      refine lv_iload_n hx hb dX8_goes_5 rfl (lv_at hl 1 rfl) ?_
      refine lv_iload_n hx hb dX8_goes_6 rfl (lv_at hl 2 rfl) ?_
      refine x_aftv (va_runV (As := [.int x1, .int x2]) (rest := []) ⟨hx, hb, hml, hown, hts⟩ (c_X8_taps l g ad H.size V x1 x2 _ hw) (cwV 2 hts gX8_goes_X8_taps rfl rfl rfl (by decide +kernel) ⟨Nat.le_of_ble_eq_true rfl, Nat.le_of_ble_eq_true rfl⟩) (x_preV (k := 0) hK hE hI (by decide) rfl rfl) rfl rfl hl.1 rfl (lv_room (Nat.le_of_ble_eq_true rfl)) dX8_goes_7 ⟨Nat.zero_le _, Nat.zero_le _⟩) hI (fun V2 H locs hw hI => ?_)
      exact hb10 V2 H locs ls x1 hI (lv_sub hl [0, 1] rfl) hw
  exact hgo s.heap [] hI
def rm_X8_goesWith : Room := { frames := 3, cells := 0, slots := 0, locals := 66 }
set_option maxHeartbeats 4000000 in
set_option maxRecDepth 100000 in
theorem c_X8_goesWith (l : Launch) (g : GP) (ad : Nat → Nat) (sz : Nat) (V : VT) (x1 : Int32)  (K : VT → Prop) (hw : wp_X8_goesWith V x1 K) : Met l yX8_goesWith wsX8_goesWith rm_X8_goesWith (va_Pc [.ref (ad 0), .int x1] (WPre 13 (cM g ad) ad g V sz)) (va_Qv K (WPost 13 (cM g ad) ad g) (AW ad 13 sz)) 0 0 (AW ad 13 sz) := by
  refine Met.ofW (cc := cX8_goesWith) (maxL := 2) (ret := none) (by decide) rfl ?_
  intro p e s m args below meth c s₁ B hml hv
  obtain ⟨ha, hv⟩ := hv
  obtain rfl := hv.1
  have hI : WI g 13 (cM g ad) ad V s.heap s.heap [] := WI.start hv
  have hK := hv.2.2.1
  have hE := hv.2.2.2.2
  have hx := B.exec
  have hb := B.bytes
  have hr := B.returns
  have hts := atoms_spec (ws := wsX8_goesWith) B.pre
  have hown : s.vm.findClass RX8 = some m.cls := findClass_of_methodNamed B.named
  have hlocks := B.notSynchronized
  have hl := lv_entry ([.ref (ad 0), .int x1]) (n := 2) (Nat.le_of_ble_eq_true rfl)
  have hent : entryFrame m args 2 = F0 m 0 ((lg_sl ([.ref (ad 0), .int x1]) ++ List.replicate (2 - (lg_sl ([.ref (ad 0), .int x1])).length) Slot.unset).toArray) [] := by rw [ha, lg_entry_eq]
  rw [hent]
  generalize (lg_sl ([.ref (ad 0), .int x1]) ++ List.replicate (2 - (lg_sl ([.ref (ad 0), .int x1])).length) Slot.unset).toArray = ls at hl ⊢
  have hl : lv_has ls 2 [(0, .ref (ad 0)), (1, .int x1)] := hl
  obtain ⟨H, hH⟩ : ∃ H : Heap, H = s.heap := ⟨_, rfl⟩
  have hb27 : ∀ (V : VT) (H : Heap) (locs : List Loc) (ls : Array Slot) (s1 : Int32) (s2 : Int32), WI g 13 (cM g ad) ad V s.heap H locs → lv_has ls 2 [] → wp_X8_goesWith_b27 K  V s1 s2 → W p l e (headSpec wsX8_goesWith rm_X8_goesWith).room s m args below meth c H locs 0 0 (MQ below (va_Qv K (WPost 13 (cM g ad) ad g) (AW ad 13 s.heap.size)) args s 0 0 (AW ad 13 s.heap.size)) (F0 m 27 ls [.int s2, .int s1, .ref (ad 0)]) := by
    intro V H locs ls s1 s2  hI hl hw
    refine x_aftv (va_runV (As := [.int s1, .int s2]) (rest := []) ⟨hx, hb, hml, hown, hts⟩ (c_X8_goes l g ad H.size V s1 s2 _ hw) (cwV 2 hts gX8_goesWith_X8_goes rfl rfl rfl (by decide +kernel) ⟨Nat.le_of_ble_eq_true rfl, Nat.le_of_ble_eq_true rfl⟩) (x_preV (k := 0) hK hE hI (by decide) rfl rfl) rfl rfl hl.1 rfl (lv_room (Nat.le_of_ble_eq_true rfl)) dX8_goesWith_27 ⟨Nat.zero_le _, Nat.zero_le _⟩) hI (fun V7 H locs hw hI => ?_)
    exact W.vret hx hb hr (x_retv hI hw) hI.2.2.2.2 dX8_goesWith_30
  have hb14 : ∀ (V : VT) (H : Heap) (locs : List Loc) (ls : Array Slot) (x1 : Int32) (s1 : Int32), WI g 13 (cM g ad) ad V s.heap H locs → lv_has ls 2 [(0, .ref (ad 0)), (1, .int x1)] → wp_X8_goesWith_b14 K  V x1 s1 → W p l e (headSpec wsX8_goesWith rm_X8_goesWith).room s m args below meth c H locs 0 0 (MQ below (va_Qv K (WPost 13 (cM g ad) ad g) (AW ad 13 s.heap.size)) args s 0 0 (AW ad 13 s.heap.size)) (F0 m 14 ls [.int s1, .ref (ad 0)]) := by
    intro V H locs ls x1 s1  hI hl hw
    refine lv_iload_n hx hb dX8_goesWith_14 rfl (lv_at hl 1 rfl) ?_
    refine lv_if_ge (tgt := 22) hx hb dX8_goesWith_15 (by decide) (fun c4 => ?_) (fun c4 => ?_)
    · replace hw := hw.1 c4
      refine lv_aload_n hx hb dX8_goesWith_22 rfl (lv_at hl 0 rfl) ?_
      refine lv_iload_n hx hb dX8_goesWith_23 rfl (lv_at hl 1 rfl) ?_
      refine x_afti (va_runV (As := [.int x1]) (rest := [.int s1, .ref (ad 0)]) ⟨hx, hb, hml, hown, hts⟩ (c_X8_forceAt l g ad H.size V x1 _ hw) (cwV 1 hts gX8_goesWith_X8_forceAt rfl rfl rfl (by decide +kernel) ⟨Nat.le_of_ble_eq_true rfl, Nat.le_of_ble_eq_true rfl⟩) (x_preV (k := 0) hK hE hI (by decide) rfl rfl) rfl rfl hl.1 rfl (lv_room (Nat.le_of_ble_eq_true rfl)) dX8_goesWith_24 ⟨Nat.zero_le _, Nat.zero_le _⟩) hI (fun r6 V5 H locs hw hI => ?_)
      exact hb27 V5 H locs ls s1 r6 hI (lv_sub hl [] rfl) hw
    · replace hw := hw.2 c4
      refine lv_iconst (v := (0 : Int32)) hx hb dX8_goesWith_18 (by decide) ?_
      refine lv_goto (tgt := 27) hx hb dX8_goesWith_19 (by decide) ?_
      exact hb27 V H locs ls s1 (0 : Int32) hI (lv_sub hl [] rfl) hw
  have hgo : ∀ (H : Heap) (locs : List Loc), WI g 13 (cM g ad) ad V s.heap H locs → W p l e (headSpec wsX8_goesWith rm_X8_goesWith).room s m args below meth c H locs 0 0 (MQ below (va_Qv K (WPost 13 (cM g ad) ad g) (AW ad 13 s.heap.size)) args s 0 0 (AW ad 13 s.heap.size)) (F0 m 0 ls []) := by
    intro H locs hI
    refine lv_aload_n hx hb dX8_goesWith_0 rfl (lv_at hl 0 rfl) ?_
    refine lv_iload_n hx hb dX8_goesWith_1 rfl (lv_at hl 1 rfl) ?_
    refine lv_if_ge (tgt := 9) hx hb dX8_goesWith_2 (by decide) (fun c1 => ?_) (fun c1 => ?_)
    · replace hw := hw.1 c1
      refine lv_aload_n hx hb dX8_goesWith_9 rfl (lv_at hl 0 rfl) ?_
      refine lv_iload_n hx hb dX8_goesWith_10 rfl (lv_at hl 1 rfl) ?_
      refine x_afti (va_runV (As := [.int x1]) (rest := [.ref (ad 0)]) ⟨hx, hb, hml, hown, hts⟩ (c_X8_kindAt l g ad H.size V x1 _ hw) (cwV 1 hts gX8_goesWith_X8_kindAt rfl rfl rfl (by decide +kernel) ⟨Nat.le_of_ble_eq_true rfl, Nat.le_of_ble_eq_true rfl⟩) (x_preV (k := 0) hK hE hI (by decide) rfl rfl) rfl rfl hl.1 rfl (lv_room (Nat.le_of_ble_eq_true rfl)) dX8_goesWith_11 ⟨Nat.zero_le _, Nat.zero_le _⟩) hI (fun r3 V2 H locs hw hI => ?_)
      exact hb14 V2 H locs ls x1 r3 hI (lv_sub hl [0, 1] rfl) hw
    · replace hw := hw.2 c1
      refine lv_iconst (v := (0 : Int32)) hx hb dX8_goesWith_5 (by decide) ?_
      refine lv_goto (tgt := 14) hx hb dX8_goesWith_6 (by decide) ?_
      exact hb14 V H locs ls x1 (0 : Int32) hI (lv_sub hl [0, 1] rfl) hw
  exact hgo s.heap [] hI
def rm_X8_notes : Room := { frames := 0, cells := 0, slots := 0, locals := 0 }
set_option maxHeartbeats 4000000 in
set_option maxRecDepth 100000 in
theorem c_X8_notes (l : Launch) (g : GP) (ad : Nat → Nat) (sz : Nat) (V : VT)   (K : VT → Prop) (hw : wp_X8_notes V  K) : Met l yX8_notes wsX8_notes rm_X8_notes (va_Pc [.ref (ad 0)] (WPre 13 (cM g ad) ad g V sz)) (va_Qv K (WPost 13 (cM g ad) ad g) (AW ad 13 sz)) 0 0 (AW ad 13 sz) := by
  refine Met.ofW (cc := cX8_notes) (maxL := 3) (ret := none) (by decide) rfl ?_
  intro p e s m args below meth c s₁ B hml hv
  obtain ⟨ha, hv⟩ := hv
  obtain rfl := hv.1
  have hI : WI g 13 (cM g ad) ad V s.heap s.heap [] := WI.start hv
  have hK := hv.2.2.1
  have hE := hv.2.2.2.2
  have hx := B.exec
  have hb := B.bytes
  have hr := B.returns
  have hts := atoms_spec (ws := wsX8_notes) B.pre
  have hown : s.vm.findClass RX8 = some m.cls := findClass_of_methodNamed B.named
  have hlocks := B.notSynchronized
  have hw_0 := hts (.fieldLink RX8 147 "HoopLaneModel" "undos" "I") (by decide +kernel)
  have hw_1 := hts (.fieldLink RX8 31 "HoopLaneModel" "undone" "[I") (by decide +kernel)
  have hw_2 := hts (.fieldLink RX8 150 "HoopLaneModel" "yard" "I") (by decide +kernel)
  have hw_3 := hts (.fieldLink RX8 153 "HoopLaneModel" "pace" "I") (by decide +kernel)
  have hw_4 := hts (.fieldLink RX8 156 "HoopLaneModel" "lean" "I") (by decide +kernel)
  have hw_5 := hts (.fieldLink RX8 159 "HoopLaneModel" "end" "I") (by decide +kernel)
  have hw_6 := hts (.fieldLink RX8 144 "HoopLaneModel" "moment" "I") (by decide +kernel)
  have hw_7 := hts (.fieldLink RX8 22 "HoopLaneModel" "lane" "[I") (by decide +kernel)
  have hin8 : ∀ w ∈ wsX80, w ∈ wsX8_notes := by decide +kernel
  have hl := lv_entry ([.ref (ad 0)]) (n := 3) (Nat.le_of_ble_eq_true rfl)
  have hent : entryFrame m args 3 = F0 m 0 ((lg_sl ([.ref (ad 0)]) ++ List.replicate (3 - (lg_sl ([.ref (ad 0)])).length) Slot.unset).toArray) [] := by rw [ha, lg_entry_eq]
  rw [hent]
  generalize (lg_sl ([.ref (ad 0)]) ++ List.replicate (3 - (lg_sl ([.ref (ad 0)])).length) Slot.unset).toArray = ls at hl ⊢
  have hl : lv_has ls 3 [(0, .ref (ad 0))] := hl
  obtain ⟨H, hH⟩ : ∃ H : Heap, H = s.heap := ⟨_, rfl⟩
  have hL114 : ∀ (n114 : Nat) (V : VT) (H : Heap) (locs : List Loc) (ls : Array Slot) (x1 : Int32) (x2 : Int32), WI g 13 (cM g ad) ad V s.heap H locs → lv_has ls 3 [(0, .ref (ad 0)), (1, .int x1), (2, .int x2)] → wp_X8_notes_L114 K  n114 V x1 x2 → W p l e (headSpec wsX8_notes rm_X8_notes).room s m args below meth c H locs 0 0 (MQ below (va_Qv K (WPost 13 (cM g ad) ad g) (AW ad 13 s.heap.size)) args s 0 0 (AW ad 13 s.heap.size)) (F0 m 114 ls []) := by
    intro n114
    induction n114 with
    | zero => intro V H locs ls x1 x2  hI hl hw; exact False.elim hw
    | succ n114 ihL114 =>
      intro V H locs ls x1 x2  hI hl hw
      refine lv_iload_n hx hb dX8_notes_114 rfl (lv_at hl 2 rfl) ?_
      refine lv_bipush (v := (24 : Int32)) hx hb dX8_notes_115 (by decide) ?_
      refine lv_icmp_ge (tgt := 144) hx hb dX8_notes_117 (by decide) (fun c17 => ?_) (fun c17 => ?_)
      · replace hw := hw.1 c17
        refine lv_aload_n hx hb dX8_notes_144 rfl (lv_at hl 0 rfl) ?_
        refine lv_dup hx hb dX8_notes_145 rfl ?_
        refine mg_22 hx hb hts hin8 hown hK hI hw_0 dX8_notes_146 ?_
        refine lv_iconst (v := (1 : Int32)) hx hb dX8_notes_149 (by decide) ?_
        refine lv_iadd hx hb dX8_notes_150 ?_
        refine mp_22 hx hb hts hin8 hown hK hI hw_0 dX8_notes_151 (fun V18 H locs eV18 hI => ?_)
        replace hw := hw V18 eV18
        exact W.vret hx hb hr (x_retv hI hw) hI.2.2.2.2 dX8_notes_154
      · replace hw := hw.2 c17
        refine lv_aload_n hx hb dX8_notes_120 rfl (lv_at hl 0 rfl) ?_
        refine mg_21 hx hb hts hin8 hown hK hI hw_1 dX8_notes_121 ?_
        refine lv_iload_n hx hb dX8_notes_124 rfl (lv_at hl 1 rfl) ?_
        refine lv_iconst (v := (5 : Int32)) hx hb dX8_notes_125 (by decide) ?_
        refine lv_iadd hx hb dX8_notes_126 ?_
        refine lv_iload_n hx hb dX8_notes_127 rfl (lv_at hl 2 rfl) ?_
        refine lv_iadd hx hb dX8_notes_128 ?_
        refine lv_aload_n hx hb dX8_notes_129 rfl (lv_at hl 0 rfl) ?_
        refine mg_5 hx hb hts hin8 hown hK hI hw_7 dX8_notes_130 ?_
        refine lv_iconst (v := (4 : Int32)) hx hb dX8_notes_133 (by decide) ?_
        refine lv_iload_n hx hb dX8_notes_134 rfl (lv_at hl 2 rfl) ?_
        refine lv_iadd hx hb dX8_notes_135 ?_
        obtain ⟨h19, hw⟩ := hw
        refine x_iald (k := 5) hx hb hK hI (by decide) rfl h19 dX8_notes_136 ?_
        obtain ⟨h20, hw⟩ := hw
        refine x_iastV (k := 8) hx hb hK hI (cM_loc g ad) (by decide) (fun _ => rfl) h20 dX8_notes_137 (fun V21 H locs eV21 hI => ?_)
        replace hw := hw V21 eV21
        refine lv_iinc (v := (x2 + (1 : Int32))) (lv' := [(2, .int (x2 + (1 : Int32))), (0, .ref (ad 0)), (1, .int x1)]) hx hb dX8_notes_138 hl (k := 2) rfl rfl (by decide) rfl (fun ls hl => ?_)
        refine lv_goto (tgt := 114) hx hb dX8_notes_141 (by decide) ?_
        exact ihL114 V21 H locs ls x1 (x2 + (1 : Int32)) hI (lv_sub hl [1, 2, 0] rfl) hw
  have hb46 : ∀ (V : VT) (H : Heap) (locs : List Loc) (ls : Array Slot) , WI g 13 (cM g ad) ad V s.heap H locs → lv_has ls 3 [(0, .ref (ad 0))] → wp_X8_notes_b46 K  V  → W p l e (headSpec wsX8_notes rm_X8_notes).room s m args below meth c H locs 0 0 (MQ below (va_Qv K (WPost 13 (cM g ad) ad g) (AW ad 13 s.heap.size)) args s 0 0 (AW ad 13 s.heap.size)) (F0 m 46 ls []) := by
    intro V H locs ls   hI hl hw
    refine lv_bipush (v := (29 : Int32)) hx hb dX8_notes_46 (by decide) ?_
    refine lv_aload_n hx hb dX8_notes_48 rfl (lv_at hl 0 rfl) ?_
    refine mg_22 hx hb hts hin8 hown hK hI hw_0 dX8_notes_49 ?_
    refine lv_imul hx hb dX8_notes_52 ?_
    refine lv_istore_n (lv' := [(1, .int ((29 : Int32) * (V 0 22))), (0, .ref (ad 0))]) hx hb dX8_notes_53 rfl hl (by decide) rfl (fun ls hl => ?_)
    refine lv_aload_n hx hb dX8_notes_54 rfl (lv_at hl 1 rfl) ?_
    refine mg_21 hx hb hts hin8 hown hK hI hw_1 dX8_notes_55 ?_
    refine lv_iload_n hx hb dX8_notes_58 rfl (lv_at hl 0 rfl) ?_
    refine lv_aload_n hx hb dX8_notes_59 rfl (lv_at hl 1 rfl) ?_
    refine mg_16 hx hb hts hin8 hown hK hI hw_2 dX8_notes_60 ?_
    obtain ⟨h2, hw⟩ := hw
    refine x_iastV (k := 8) hx hb hK hI (cM_loc g ad) (by decide) (fun _ => rfl) h2 dX8_notes_63 (fun V3 H locs eV3 hI => ?_)
    replace hw := hw V3 eV3
    refine lv_aload_n hx hb dX8_notes_64 rfl (lv_at hl 1 rfl) ?_
    refine mg_21 hx hb hts hin8 hown hK hI hw_1 dX8_notes_65 ?_
    refine lv_iload_n hx hb dX8_notes_68 rfl (lv_at hl 0 rfl) ?_
    refine lv_iconst (v := (1 : Int32)) hx hb dX8_notes_69 (by decide) ?_
    refine lv_iadd hx hb dX8_notes_70 ?_
    refine lv_aload_n hx hb dX8_notes_71 rfl (lv_at hl 1 rfl) ?_
    refine mg_17 hx hb hts hin8 hown hK hI hw_3 dX8_notes_72 ?_
    obtain ⟨h4, hw⟩ := hw
    refine x_iastV (k := 8) hx hb hK hI (cM_loc g ad) (by decide) (fun _ => rfl) h4 dX8_notes_75 (fun V5 H locs eV5 hI => ?_)
    replace hw := hw V5 eV5
    refine lv_aload_n hx hb dX8_notes_76 rfl (lv_at hl 1 rfl) ?_
    refine mg_21 hx hb hts hin8 hown hK hI hw_1 dX8_notes_77 ?_
    refine lv_iload_n hx hb dX8_notes_80 rfl (lv_at hl 0 rfl) ?_
    refine lv_iconst (v := (2 : Int32)) hx hb dX8_notes_81 (by decide) ?_
    refine lv_iadd hx hb dX8_notes_82 ?_
    refine lv_aload_n hx hb dX8_notes_83 rfl (lv_at hl 1 rfl) ?_
    refine mg_18 hx hb hts hin8 hown hK hI hw_4 dX8_notes_84 ?_
    obtain ⟨h6, hw⟩ := hw
    refine x_iastV (k := 8) hx hb hK hI (cM_loc g ad) (by decide) (fun _ => rfl) h6 dX8_notes_87 (fun V7 H locs eV7 hI => ?_)
    replace hw := hw V7 eV7
    refine lv_aload_n hx hb dX8_notes_88 rfl (lv_at hl 1 rfl) ?_
    refine mg_21 hx hb hts hin8 hown hK hI hw_1 dX8_notes_89 ?_
    refine lv_iload_n hx hb dX8_notes_92 rfl (lv_at hl 0 rfl) ?_
    refine lv_iconst (v := (3 : Int32)) hx hb dX8_notes_93 (by decide) ?_
    refine lv_iadd hx hb dX8_notes_94 ?_
    refine lv_aload_n hx hb dX8_notes_95 rfl (lv_at hl 1 rfl) ?_
    refine mg_19 hx hb hts hin8 hown hK hI hw_5 dX8_notes_96 ?_
    obtain ⟨h8, hw⟩ := hw
    refine x_iastV (k := 8) hx hb hK hI (cM_loc g ad) (by decide) (fun _ => rfl) h8 dX8_notes_99 (fun V9 H locs eV9 hI => ?_)
    replace hw := hw V9 eV9
    refine lv_aload_n hx hb dX8_notes_100 rfl (lv_at hl 1 rfl) ?_
    refine mg_21 hx hb hts hin8 hown hK hI hw_1 dX8_notes_101 ?_
    refine lv_iload_n hx hb dX8_notes_104 rfl (lv_at hl 0 rfl) ?_
    refine lv_iconst (v := (4 : Int32)) hx hb dX8_notes_105 (by decide) ?_
    refine lv_iadd hx hb dX8_notes_106 ?_
    refine lv_aload_n hx hb dX8_notes_107 rfl (lv_at hl 1 rfl) ?_
    refine mg_20 hx hb hts hin8 hown hK hI hw_6 dX8_notes_108 ?_
    obtain ⟨h10, hw⟩ := hw
    refine x_iastV (k := 8) hx hb hK hI (cM_loc g ad) (by decide) (fun _ => rfl) h10 dX8_notes_111 (fun V11 H locs eV11 hI => ?_)
    replace hw := hw V11 eV11
    refine lv_iconst (v := (0 : Int32)) hx hb dX8_notes_112 (by decide) ?_
    refine lv_istore_n (lv' := [(2, .int (0 : Int32)), (1, .int ((29 : Int32) * (V 0 22))), (0, .ref (ad 0))]) hx hb dX8_notes_113 rfl hl (by decide) rfl (fun ls hl => ?_)
    obtain ⟨n114, hw⟩ := hw
    exact hL114 n114 V11 H locs ls ((29 : Int32) * (V 0 22)) (0 : Int32) hI (lv_sub hl [2, 1, 0] rfl) hw
  have hL12 : ∀ (n12 : Nat) (V : VT) (H : Heap) (locs : List Loc) (ls : Array Slot) (x1 : Int32), WI g 13 (cM g ad) ad V s.heap H locs → lv_has ls 3 [(0, .ref (ad 0)), (1, .int x1)] → wp_X8_notes_L12 K  n12 V x1 → W p l e (headSpec wsX8_notes rm_X8_notes).room s m args below meth c H locs 0 0 (MQ below (va_Qv K (WPost 13 (cM g ad) ad g) (AW ad 13 s.heap.size)) args s 0 0 (AW ad 13 s.heap.size)) (F0 m 12 ls []) := by
    intro n12
    induction n12 with
    | zero => intro V H locs ls x1  hI hl hw; exact False.elim hw
    | succ n12 ihL12 =>
      intro V H locs ls x1  hI hl hw
      refine lv_iload_n hx hb dX8_notes_12 rfl (lv_at hl 1 rfl) ?_
      refine lv_sipush (v := (696 : Int32)) hx hb dX8_notes_13 (by decide) ?_
      refine lv_icmp_ge (tgt := 40) hx hb dX8_notes_16 (by decide) (fun c12 => ?_) (fun c12 => ?_)
      · replace hw := hw.1 c12
        refine lv_aload_n hx hb dX8_notes_40 rfl (lv_at hl 0 rfl) ?_
        refine lv_bipush (v := (23 : Int32)) hx hb dX8_notes_41 (by decide) ?_
        refine mp_22 hx hb hts hin8 hown hK hI hw_0 dX8_notes_43 (fun V13 H locs eV13 hI => ?_)
        replace hw := hw V13 eV13
        exact hb46 V13 H locs ls  hI (lv_sub hl [0] rfl) hw
      · replace hw := hw.2 c12
        refine lv_aload_n hx hb dX8_notes_19 rfl (lv_at hl 0 rfl) ?_
        refine mg_21 hx hb hts hin8 hown hK hI hw_1 dX8_notes_20 ?_
        refine lv_iload_n hx hb dX8_notes_23 rfl (lv_at hl 1 rfl) ?_
        refine lv_bipush (v := (29 : Int32)) hx hb dX8_notes_24 (by decide) ?_
        refine lv_isub hx hb dX8_notes_26 ?_
        refine lv_aload_n hx hb dX8_notes_27 rfl (lv_at hl 0 rfl) ?_
        refine mg_21 hx hb hts hin8 hown hK hI hw_1 dX8_notes_28 ?_
        refine lv_iload_n hx hb dX8_notes_31 rfl (lv_at hl 1 rfl) ?_
        obtain ⟨h14, hw⟩ := hw
        refine x_iald (k := 8) hx hb hK hI (by decide) rfl h14 dX8_notes_32 ?_
        obtain ⟨h15, hw⟩ := hw
        refine x_iastV (k := 8) hx hb hK hI (cM_loc g ad) (by decide) (fun _ => rfl) h15 dX8_notes_33 (fun V16 H locs eV16 hI => ?_)
        replace hw := hw V16 eV16
        refine lv_iinc (v := (x1 + (1 : Int32))) (lv' := [(1, .int (x1 + (1 : Int32))), (0, .ref (ad 0))]) hx hb dX8_notes_34 hl (k := 1) rfl rfl (by decide) rfl (fun ls hl => ?_)
        refine lv_goto (tgt := 12) hx hb dX8_notes_37 (by decide) ?_
        exact ihL12 V16 H locs ls (x1 + (1 : Int32)) hI (lv_sub hl [1, 0] rfl) hw
  have hgo : ∀ (H : Heap) (locs : List Loc), WI g 13 (cM g ad) ad V s.heap H locs → W p l e (headSpec wsX8_notes rm_X8_notes).room s m args below meth c H locs 0 0 (MQ below (va_Qv K (WPost 13 (cM g ad) ad g) (AW ad 13 s.heap.size)) args s 0 0 (AW ad 13 s.heap.size)) (F0 m 0 ls []) := by
    intro H locs hI
    refine lv_aload_n hx hb dX8_notes_0 rfl (lv_at hl 0 rfl) ?_
    refine mg_22 hx hb hts hin8 hown hK hI hw_0 dX8_notes_1 ?_
    refine lv_bipush (v := (24 : Int32)) hx hb dX8_notes_4 (by decide) ?_
    refine lv_icmp_ne (tgt := 46) hx hb dX8_notes_6 (by decide) (fun c1 => ?_) (fun c1 => ?_)
    · replace hw := hw.1 c1
      exact hb46 V H locs ls  hI (lv_sub hl [0] rfl) hw
    · replace hw := hw.2 c1
      refine lv_bipush (v := (29 : Int32)) hx hb dX8_notes_9 (by decide) ?_
      refine lv_istore_n (lv' := [(1, .int (29 : Int32)), (0, .ref (ad 0))]) hx hb dX8_notes_11 rfl hl (by decide) rfl (fun ls hl => ?_)
      obtain ⟨n12, hw⟩ := hw
      exact hL12 n12 V H locs ls (29 : Int32) hI (lv_sub hl [1, 0] rfl) hw
  exact hgo s.heap [] hI
def rm_X8_undo : Room := { frames := 1, cells := 0, slots := 0, locals := 24 }
set_option maxHeartbeats 4000000 in
set_option maxRecDepth 100000 in
theorem c_X8_undo (l : Launch) (g : GP) (ad : Nat → Nat) (sz : Nat) (V : VT)   (K : Int32 → VT → Prop) (hw : wp_X8_undo V  K) : Met l yX8_undo wsX8_undo rm_X8_undo (va_Pc [.ref (ad 0)] (WPre 13 (cM g ad) ad g V sz)) (va_Qi K (WPost 13 (cM g ad) ad g) (AW ad 13 sz)) 0 0 (AW ad 13 sz) := by
  refine Met.ofW (cc := cX8_undo) (maxL := 3) (ret := (some .int)) (by decide) rfl ?_
  intro p e s m args below meth c s₁ B hml hv
  obtain ⟨ha, hv⟩ := hv
  obtain rfl := hv.1
  have hI : WI g 13 (cM g ad) ad V s.heap s.heap [] := WI.start hv
  have hK := hv.2.2.1
  have hE := hv.2.2.2.2
  have hx := B.exec
  have hb := B.bytes
  have hr := B.returns
  have hts := atoms_spec (ws := wsX8_undo) B.pre
  have hown : s.vm.findClass RX8 = some m.cls := findClass_of_methodNamed B.named
  have hlocks := B.notSynchronized
  have hw_0 := hts (.fieldLink RX8 147 "HoopLaneModel" "undos" "I") (by decide +kernel)
  have hw_1 := hts (.fieldLink RX8 31 "HoopLaneModel" "undone" "[I") (by decide +kernel)
  have hw_2 := hts (.fieldLink RX8 144 "HoopLaneModel" "moment" "I") (by decide +kernel)
  have hw_3 := hts (.constant RX8 184 (-1000002)) (by decide +kernel)
  have hw_4 := hts (.fieldLink RX8 22 "HoopLaneModel" "lane" "[I") (by decide +kernel)
  have hin8 : ∀ w ∈ wsX80, w ∈ wsX8_undo := by decide +kernel
  have hl := lv_entry ([.ref (ad 0)]) (n := 3) (Nat.le_of_ble_eq_true rfl)
  have hent : entryFrame m args 3 = F0 m 0 ((lg_sl ([.ref (ad 0)]) ++ List.replicate (3 - (lg_sl ([.ref (ad 0)])).length) Slot.unset).toArray) [] := by rw [ha, lg_entry_eq]
  rw [hent]
  generalize (lg_sl ([.ref (ad 0)]) ++ List.replicate (3 - (lg_sl ([.ref (ad 0)])).length) Slot.unset).toArray = ls at hl ⊢
  have hl : lv_has ls 3 [(0, .ref (ad 0))] := hl
  obtain ⟨H, hH⟩ : ∃ H : Heap, H = s.heap := ⟨_, rfl⟩
  have hL76 : ∀ (n76 : Nat) (V : VT) (H : Heap) (locs : List Loc) (ls : Array Slot) (x1 : Int32) (x2 : Int32), WI g 13 (cM g ad) ad V s.heap H locs → lv_has ls 3 [(0, .ref (ad 0)), (1, .int x1), (2, .int x2)] → wp_X8_undo_L76 K  n76 V x1 x2 → W p l e (headSpec wsX8_undo rm_X8_undo).room s m args below meth c H locs 0 0 (MQ below (va_Qi K (WPost 13 (cM g ad) ad g) (AW ad 13 s.heap.size)) args s 0 0 (AW ad 13 s.heap.size)) (F0 m 76 ls []) := by
    intro n76
    induction n76 with
    | zero => intro V H locs ls x1 x2  hI hl hw; exact False.elim hw
    | succ n76 ihL76 =>
      intro V H locs ls x1 x2  hI hl hw
      refine lv_iload_n hx hb dX8_undo_76 rfl (lv_at hl 2 rfl) ?_
      refine lv_bipush (v := (24 : Int32)) hx hb dX8_undo_77 (by decide) ?_
      refine lv_icmp_ge (tgt := 106) hx hb dX8_undo_79 (by decide) (fun c10 => ?_) (fun c10 => ?_)
      · replace hw := hw.1 c10
        refine lv_aload_n hx hb dX8_undo_106 rfl (lv_at hl 0 rfl) ?_
        refine mg_22 hx hb hts hin8 hown hK hI hw_0 dX8_undo_107 ?_
        exact W.iret (v := (V 0 22)) hx hb hr (x_reti hI hw) hI.2.2.2.2 dX8_undo_110
      · replace hw := hw.2 c10
        refine lv_aload_n hx hb dX8_undo_82 rfl (lv_at hl 0 rfl) ?_
        refine mg_5 hx hb hts hin8 hown hK hI hw_4 dX8_undo_83 ?_
        refine lv_iconst (v := (4 : Int32)) hx hb dX8_undo_86 (by decide) ?_
        refine lv_iload_n hx hb dX8_undo_87 rfl (lv_at hl 2 rfl) ?_
        refine lv_iadd hx hb dX8_undo_88 ?_
        refine lv_aload_n hx hb dX8_undo_89 rfl (lv_at hl 0 rfl) ?_
        refine mg_21 hx hb hts hin8 hown hK hI hw_1 dX8_undo_90 ?_
        refine lv_iload_n hx hb dX8_undo_93 rfl (lv_at hl 1 rfl) ?_
        refine lv_iconst (v := (5 : Int32)) hx hb dX8_undo_94 (by decide) ?_
        refine lv_iadd hx hb dX8_undo_95 ?_
        refine lv_iload_n hx hb dX8_undo_96 rfl (lv_at hl 2 rfl) ?_
        refine lv_iadd hx hb dX8_undo_97 ?_
        obtain ⟨h11, hw⟩ := hw
        refine x_iald (k := 8) hx hb hK hI (by decide) rfl h11 dX8_undo_98 ?_
        obtain ⟨h12, hw⟩ := hw
        refine x_iastV (k := 5) hx hb hK hI (cM_loc g ad) (by decide) (fun _ => rfl) h12 dX8_undo_99 (fun V13 H locs eV13 hI => ?_)
        replace hw := hw V13 eV13
        refine lv_iinc (v := (x2 + (1 : Int32))) (lv' := [(2, .int (x2 + (1 : Int32))), (0, .ref (ad 0)), (1, .int x1)]) hx hb dX8_undo_100 hl (k := 2) rfl rfl (by decide) rfl (fun ls hl => ?_)
        refine lv_goto (tgt := 76) hx hb dX8_undo_103 (by decide) ?_
        exact ihL76 V13 H locs ls x1 (x2 + (1 : Int32)) hI (lv_sub hl [1, 2, 0] rfl) hw
  have hgo : ∀ (H : Heap) (locs : List Loc), WI g 13 (cM g ad) ad V s.heap H locs → W p l e (headSpec wsX8_undo rm_X8_undo).room s m args below meth c H locs 0 0 (MQ below (va_Qi K (WPost 13 (cM g ad) ad g) (AW ad 13 s.heap.size)) args s 0 0 (AW ad 13 s.heap.size)) (F0 m 0 ls []) := by
    intro H locs hI
    refine lv_aload_n hx hb dX8_undo_0 rfl (lv_at hl 0 rfl) ?_
    refine mg_22 hx hb hts hin8 hown hK hI hw_0 dX8_undo_1 ?_
    refine lv_if_ne (tgt := 10) hx hb dX8_undo_4 (by decide) (fun c1 => ?_) (fun c1 => ?_)
    · replace hw := hw.1 c1
      refine lv_aload_n hx hb dX8_undo_10 rfl (lv_at hl 0 rfl) ?_
      refine lv_dup hx hb dX8_undo_11 rfl ?_
      refine mg_22 hx hb hts hin8 hown hK hI hw_0 dX8_undo_12 ?_
      refine lv_iconst (v := (1 : Int32)) hx hb dX8_undo_15 (by decide) ?_
      refine lv_isub hx hb dX8_undo_16 ?_
      refine mp_22 hx hb hts hin8 hown hK hI hw_0 dX8_undo_17 (fun V2 H locs eV2 hI => ?_)
      replace hw := hw V2 eV2
      refine lv_bipush (v := (29 : Int32)) hx hb dX8_undo_20 (by decide) ?_
      refine lv_aload_n hx hb dX8_undo_22 rfl (lv_at hl 0 rfl) ?_
      refine mg_22 hx hb hts hin8 hown hK hI hw_0 dX8_undo_23 ?_
      refine lv_imul hx hb dX8_undo_26 ?_
      refine lv_istore_n (lv' := [(1, .int ((29 : Int32) * (V2 0 22))), (0, .ref (ad 0))]) hx hb dX8_undo_27 rfl hl (by decide) rfl (fun ls hl => ?_)
      refine lv_aload_n hx hb dX8_undo_28 rfl (lv_at hl 1 rfl) ?_
      refine lv_aload_n hx hb dX8_undo_29 rfl (lv_at hl 1 rfl) ?_
      refine mg_21 hx hb hts hin8 hown hK hI hw_1 dX8_undo_30 ?_
      refine lv_iload_n hx hb dX8_undo_33 rfl (lv_at hl 0 rfl) ?_
      obtain ⟨h3, hw⟩ := hw
      refine x_iald (k := 8) hx hb hK hI (by decide) rfl h3 dX8_undo_34 ?_
      refine lv_aload_n hx hb dX8_undo_35 rfl (lv_at hl 1 rfl) ?_
      refine mg_21 hx hb hts hin8 hown hK hI hw_1 dX8_undo_36 ?_
      refine lv_iload_n hx hb dX8_undo_39 rfl (lv_at hl 0 rfl) ?_
      refine lv_iconst (v := (1 : Int32)) hx hb dX8_undo_40 (by decide) ?_
      refine lv_iadd hx hb dX8_undo_41 ?_
      obtain ⟨h4, hw⟩ := hw
      refine x_iald (k := 8) hx hb hK hI (by decide) rfl h4 dX8_undo_42 ?_
      refine lv_aload_n hx hb dX8_undo_43 rfl (lv_at hl 1 rfl) ?_
      refine mg_21 hx hb hts hin8 hown hK hI hw_1 dX8_undo_44 ?_
      refine lv_iload_n hx hb dX8_undo_47 rfl (lv_at hl 0 rfl) ?_
      refine lv_iconst (v := (2 : Int32)) hx hb dX8_undo_48 (by decide) ?_
      refine lv_iadd hx hb dX8_undo_49 ?_
      obtain ⟨h5, hw⟩ := hw
      refine x_iald (k := 8) hx hb hK hI (by decide) rfl h5 dX8_undo_50 ?_
      refine lv_aload_n hx hb dX8_undo_51 rfl (lv_at hl 1 rfl) ?_
      refine mg_21 hx hb hts hin8 hown hK hI hw_1 dX8_undo_52 ?_
      refine lv_iload_n hx hb dX8_undo_55 rfl (lv_at hl 0 rfl) ?_
      refine lv_iconst (v := (3 : Int32)) hx hb dX8_undo_56 (by decide) ?_
      refine lv_iadd hx hb dX8_undo_57 ?_
      obtain ⟨h6, hw⟩ := hw
      refine x_iald (k := 8) hx hb hK hI (by decide) rfl h6 dX8_undo_58 ?_
      refine x_aftv (va_runV (As := [.int (V2 8 (((29 : Int32) * (V2 0 22))).toNatClampNeg), .int (V2 8 ((((29 : Int32) * (V2 0 22)) + (1 : Int32))).toNatClampNeg), .int (V2 8 ((((29 : Int32) * (V2 0 22)) + (2 : Int32))).toNatClampNeg), .int (V2 8 ((((29 : Int32) * (V2 0 22)) + (3 : Int32))).toNatClampNeg)]) (rest := []) ⟨hx, hb, hml, hown, hts⟩ (c_X8_puts l g ad H.size V2 (V2 8 (((29 : Int32) * (V2 0 22))).toNatClampNeg) (V2 8 ((((29 : Int32) * (V2 0 22)) + (1 : Int32))).toNatClampNeg) (V2 8 ((((29 : Int32) * (V2 0 22)) + (2 : Int32))).toNatClampNeg) (V2 8 ((((29 : Int32) * (V2 0 22)) + (3 : Int32))).toNatClampNeg) _ hw) (cwV 4 hts gX8_undo_X8_puts rfl rfl rfl (by decide +kernel) ⟨Nat.le_of_ble_eq_true rfl, Nat.le_of_ble_eq_true rfl⟩) (x_preV (k := 0) hK hE hI (by decide) rfl rfl) rfl rfl hl.1 rfl (lv_room (Nat.le_of_ble_eq_true rfl)) dX8_undo_59 ⟨Nat.zero_le _, Nat.zero_le _⟩) hI (fun V7 H locs hw hI => ?_)
      refine lv_aload_n hx hb dX8_undo_62 rfl (lv_at hl 1 rfl) ?_
      refine lv_aload_n hx hb dX8_undo_63 rfl (lv_at hl 1 rfl) ?_
      refine mg_21 hx hb hts hin8 hown hK hI hw_1 dX8_undo_64 ?_
      refine lv_iload_n hx hb dX8_undo_67 rfl (lv_at hl 0 rfl) ?_
      refine lv_iconst (v := (4 : Int32)) hx hb dX8_undo_68 (by decide) ?_
      refine lv_iadd hx hb dX8_undo_69 ?_
      obtain ⟨h8, hw⟩ := hw
      refine x_iald (k := 8) hx hb hK hI (by decide) rfl h8 dX8_undo_70 ?_
      refine mp_20 hx hb hts hin8 hown hK hI hw_2 dX8_undo_71 (fun V9 H locs eV9 hI => ?_)
      replace hw := hw V9 eV9
      refine lv_iconst (v := (0 : Int32)) hx hb dX8_undo_74 (by decide) ?_
      refine lv_istore_n (lv' := [(2, .int (0 : Int32)), (1, .int ((29 : Int32) * (V2 0 22))), (0, .ref (ad 0))]) hx hb dX8_undo_75 rfl hl (by decide) rfl (fun ls hl => ?_)
      obtain ⟨n76, hw⟩ := hw
      exact hL76 n76 V9 H locs ls ((29 : Int32) * (V2 0 22)) (0 : Int32) hI (lv_sub hl [2, 1, 0] rfl) hw
    · replace hw := hw.2 c1
      refine lv_ldc (v := (-1000002 : Int32)) hx hb hown hw_3 dX8_undo_7 ?_
      exact W.iret (v := (-1000002 : Int32)) hx hb hr (x_reti hI hw) hI.2.2.2.2 dX8_undo_9
  exact hgo s.heap [] hI
def rm_X8_moment : Room := { frames := 4, cells := 0, slots := 0, locals := 87 }
set_option maxHeartbeats 4000000 in
set_option maxRecDepth 100000 in
theorem c_X8_moment (l : Launch) (g : GP) (ad : Nat → Nat) (sz : Nat) (V : VT) (x1 : Int32)  (K : Int32 → VT → Prop) (hw : wp_X8_moment V x1 K) : Met l yX8_moment wsX8_moment rm_X8_moment (va_Pc [.ref (ad 0), .int x1] (WPre 13 (cM g ad) ad g V sz)) (va_Qi K (WPost 13 (cM g ad) ad g) (AW ad 13 sz)) 0 0 (AW ad 13 sz) := by
  refine Met.ofW (cc := cX8_moment) (maxL := 2) (ret := (some .int)) (by decide) rfl ?_
  intro p e s m args below meth c s₁ B hml hv
  obtain ⟨ha, hv⟩ := hv
  obtain rfl := hv.1
  have hI : WI g 13 (cM g ad) ad V s.heap s.heap [] := WI.start hv
  have hK := hv.2.2.1
  have hE := hv.2.2.2.2
  have hx := B.exec
  have hb := B.bytes
  have hr := B.returns
  have hts := atoms_spec (ws := wsX8_moment) B.pre
  have hown : s.vm.findClass RX8 = some m.cls := findClass_of_methodNamed B.named
  have hlocks := B.notSynchronized
  have hw_0 := hts (.fieldLink RX8 136 "HoopLaneModel" "isLane" "Z") (by decide +kernel)
  have hw_1 := hts (.constant RX8 64 (-1000001)) (by decide +kernel)
  have hw_2 := hts (.constant RX8 184 (-1000002)) (by decide +kernel)
  have hw_3 := hts (.fieldLink RX8 159 "HoopLaneModel" "end" "I") (by decide +kernel)
  have hw_4 := hts (.fieldLink RX8 144 "HoopLaneModel" "moment" "I") (by decide +kernel)
  have hw_5 := hts (.fieldLink RX8 150 "HoopLaneModel" "yard" "I") (by decide +kernel)
  have hw_6 := hts (.constant RX8 81 (-1000003)) (by decide +kernel)
  have hin8 : ∀ w ∈ wsX80, w ∈ wsX8_moment := by decide +kernel
  have hl := lv_entry ([.ref (ad 0), .int x1]) (n := 2) (Nat.le_of_ble_eq_true rfl)
  have hent : entryFrame m args 2 = F0 m 0 ((lg_sl ([.ref (ad 0), .int x1]) ++ List.replicate (2 - (lg_sl ([.ref (ad 0), .int x1])).length) Slot.unset).toArray) [] := by rw [ha, lg_entry_eq]
  rw [hent]
  generalize (lg_sl ([.ref (ad 0), .int x1]) ++ List.replicate (2 - (lg_sl ([.ref (ad 0), .int x1])).length) Slot.unset).toArray = ls at hl ⊢
  have hl : lv_has ls 2 [(0, .ref (ad 0)), (1, .int x1)] := hl
  obtain ⟨H, hH⟩ : ∃ H : Heap, H = s.heap := ⟨_, rfl⟩
  have hb26 : ∀ (V : VT) (H : Heap) (locs : List Loc) (ls : Array Slot) (x1 : Int32), WI g 13 (cM g ad) ad V s.heap H locs → lv_has ls 2 [(0, .ref (ad 0)), (1, .int x1)] → wp_X8_moment_b26 K  V x1 → W p l e (headSpec wsX8_moment rm_X8_moment).room s m args below meth c H locs 0 0 (MQ below (va_Qi K (WPost 13 (cM g ad) ad g) (AW ad 13 s.heap.size)) args s 0 0 (AW ad 13 s.heap.size)) (F0 m 26 ls []) := by
    intro V H locs ls x1  hI hl hw
    refine lv_aload_n hx hb dX8_moment_26 rfl (lv_at hl 0 rfl) ?_
    refine mg_19 hx hb hts hin8 hown hK hI hw_3 dX8_moment_27 ?_
    refine lv_if_eq (tgt := 36) hx hb dX8_moment_30 (by decide) (fun c6 => ?_) (fun c6 => ?_)
    · replace hw := hw.1 c6
      refine lv_aload_n hx hb dX8_moment_36 rfl (lv_at hl 0 rfl) ?_
      refine mg_20 hx hb hts hin8 hown hK hI hw_4 dX8_moment_37 ?_
      refine lv_sipush (v := (999 : Int32)) hx hb dX8_moment_40 (by decide) ?_
      refine lv_icmp_ne (tgt := 49) hx hb dX8_moment_43 (by decide) (fun c7 => ?_) (fun c7 => ?_)
      · replace hw := hw.1 c7
        refine lv_aload_n hx hb dX8_moment_49 rfl (lv_at hl 0 rfl) ?_
        refine x_aftv (va_runV (As := []) (rest := []) ⟨hx, hb, hml, hown, hts⟩ (c_X8_notes l g ad H.size V  _ hw) (cwV 0 hts gX8_moment_X8_notes rfl rfl rfl (by decide +kernel) ⟨Nat.le_of_ble_eq_true rfl, Nat.le_of_ble_eq_true rfl⟩) (x_preV (k := 0) hK hE hI (by decide) rfl rfl) rfl rfl hl.1 rfl (lv_room (Nat.le_of_ble_eq_true rfl)) dX8_moment_50 ⟨Nat.zero_le _, Nat.zero_le _⟩) hI (fun V8 H locs hw hI => ?_)
        refine lv_aload_n hx hb dX8_moment_53 rfl (lv_at hl 0 rfl) ?_
        refine lv_iload_n hx hb dX8_moment_54 rfl (lv_at hl 1 rfl) ?_
        refine x_aftv (va_runV (As := [.int x1]) (rest := []) ⟨hx, hb, hml, hown, hts⟩ (c_X8_goesWith l g ad H.size V8 x1 _ hw) (cwV 1 hts gX8_moment_X8_goesWith rfl rfl rfl (by decide +kernel) ⟨Nat.le_of_ble_eq_true rfl, Nat.le_of_ble_eq_true rfl⟩) (x_preV (k := 0) hK hE hI (by decide) rfl rfl) rfl rfl hl.1 rfl (lv_room (Nat.le_of_ble_eq_true rfl)) dX8_moment_55 ⟨Nat.zero_le _, Nat.zero_le _⟩) hI (fun V9 H locs hw hI => ?_)
        refine lv_aload_n hx hb dX8_moment_58 rfl (lv_at hl 0 rfl) ?_
        refine mg_16 hx hb hts hin8 hown hK hI hw_5 dX8_moment_59 ?_
        exact W.iret (v := (V9 0 16)) hx hb hr (x_reti hI hw) hI.2.2.2.2 dX8_moment_62
      · replace hw := hw.2 c7
        refine lv_ldc (v := (-1000003 : Int32)) hx hb hown hw_6 dX8_moment_46 ?_
        exact W.iret (v := (-1000003 : Int32)) hx hb hr (x_reti hI hw) hI.2.2.2.2 dX8_moment_48
    · replace hw := hw.2 c6
      refine lv_ldc (v := (-1000002 : Int32)) hx hb hown hw_2 dX8_moment_33 ?_
      exact W.iret (v := (-1000002 : Int32)) hx hb hr (x_reti hI hw) hI.2.2.2.2 dX8_moment_35
  have hgo : ∀ (H : Heap) (locs : List Loc), WI g 13 (cM g ad) ad V s.heap H locs → W p l e (headSpec wsX8_moment rm_X8_moment).room s m args below meth c H locs 0 0 (MQ below (va_Qi K (WPost 13 (cM g ad) ad g) (AW ad 13 s.heap.size)) args s 0 0 (AW ad 13 s.heap.size)) (F0 m 0 ls []) := by
    intro H locs hI
    refine lv_aload_n hx hb dX8_moment_0 rfl (lv_at hl 0 rfl) ?_
    refine mg_15 hx hb hts hin8 hown hK hI hw_0 dX8_moment_1 ?_
    refine lv_if_ne (tgt := 10) hx hb dX8_moment_4 (by decide) (fun c1 => ?_) (fun c1 => ?_)
    · replace hw := hw.1 c1
      refine lv_iload_n hx hb dX8_moment_10 rfl (lv_at hl 1 rfl) ?_
      refine lv_iconst (v := (-1 : Int32)) hx hb dX8_moment_11 (by decide) ?_
      refine lv_icmp_eq (tgt := 26) hx hb dX8_moment_12 (by decide) (fun c2 => ?_) (fun c2 => ?_)
      · replace hw := hw.1 c2
        exact hb26 V H locs ls x1 hI (lv_sub hl [0, 1] rfl) hw
      · replace hw := hw.2 c2
        refine lv_aload_n hx hb dX8_moment_15 rfl (lv_at hl 0 rfl) ?_
        refine lv_iload_n hx hb dX8_moment_16 rfl (lv_at hl 1 rfl) ?_
        refine x_afti (va_runV (As := [.int x1]) (rest := []) ⟨hx, hb, hml, hown, hts⟩ (c_X8_isTap l g ad H.size V x1 _ hw) (cwV 1 hts gX8_moment_X8_isTap rfl rfl rfl (by decide +kernel) ⟨Nat.le_of_ble_eq_true rfl, Nat.le_of_ble_eq_true rfl⟩) (x_preV (k := 0) hK hE hI (by decide) rfl rfl) rfl rfl hl.1 rfl (lv_room (Nat.le_of_ble_eq_true rfl)) dX8_moment_17 ⟨Nat.zero_le _, Nat.zero_le _⟩) hI (fun r4 V3 H locs hw hI => ?_)
        refine lv_if_ne (tgt := 26) hx hb dX8_moment_20 (by decide) (fun c5 => ?_) (fun c5 => ?_)
        · replace hw := hw.1 c5
          exact hb26 V3 H locs ls x1 hI (lv_sub hl [0, 1] rfl) hw
        · replace hw := hw.2 c5
          refine lv_ldc (v := (-1000001 : Int32)) hx hb hown hw_1 dX8_moment_23 ?_
          exact W.iret (v := (-1000001 : Int32)) hx hb hr (x_reti hI hw) hI.2.2.2.2 dX8_moment_25
    · replace hw := hw.2 c1
      refine lv_ldc (v := (-1000002 : Int32)) hx hb hown hw_2 dX8_moment_7 ?_
      exact W.iret (v := (-1000002 : Int32)) hx hb hr (x_reti hI hw) hI.2.2.2.2 dX8_moment_9
  exact hgo s.heap [] hI
def rm_X8_setUp : Room := { frames := 1, cells := 0, slots := 0, locals := 25 }
set_option maxHeartbeats 4000000 in
set_option maxRecDepth 100000 in
theorem c_X8_setUp (l : Launch) (g : GP) (ad : Nat → Nat) (sz : Nat) (V : VT) (x1 : Int32) (x2 : Int32) (x3 : Int32)  (K : Int32 → VT → Prop) (hw : wp_X8_setUp V x1 x2 x3 K) : Met l yX8_setUp wsX8_setUp rm_X8_setUp (va_Pc [.ref (ad 0), .int x1, .int x2, .int x3] (WPre 13 (cM g ad) ad g V sz)) (va_Qi K (WPost 13 (cM g ad) ad g) (AW ad 13 sz)) 0 0 (AW ad 13 sz) := by
  refine Met.ofW (cc := cX8_setUp) (maxL := 5) (ret := (some .int)) (by decide) rfl ?_
  intro p e s m args below meth c s₁ B hml hv
  obtain ⟨ha, hv⟩ := hv
  obtain rfl := hv.1
  have hI : WI g 13 (cM g ad) ad V s.heap s.heap [] := WI.start hv
  have hK := hv.2.2.1
  have hE := hv.2.2.2.2
  have hx := B.exec
  have hb := B.bytes
  have hr := B.returns
  have hts := atoms_spec (ws := wsX8_setUp) B.pre
  have hown : s.vm.findClass RX8 = some m.cls := findClass_of_methodNamed B.named
  have hlocks := B.notSynchronized
  have hw_0 := hts (.fieldLink RX8 136 "HoopLaneModel" "isLane" "Z") (by decide +kernel)
  have hw_1 := hts (.fieldLink RX8 22 "HoopLaneModel" "lane" "[I") (by decide +kernel)
  have hw_2 := hts (.constant RX8 64 (-1000001)) (by decide +kernel)
  have hw_3 := hts (.constantLong RX8 194 (9)) (by decide +kernel)
  have hw_4 := hts (.constantLong RX8 196 (-5)) (by decide +kernel)
  have hw_5 := hts (.constantLong RX8 198 (5)) (by decide +kernel)
  have hw_6 := hts (.fieldLink RX8 150 "HoopLaneModel" "yard" "I") (by decide +kernel)
  have hw_7 := hts (.constant RX8 184 (-1000002)) (by decide +kernel)
  have hin8 : ∀ w ∈ wsX80, w ∈ wsX8_setUp := by decide +kernel
  have hl := lv_entry ([.ref (ad 0), .int x1, .int x2, .int x3]) (n := 5) (Nat.le_of_ble_eq_true rfl)
  have hent : entryFrame m args 5 = F0 m 0 ((lg_sl ([.ref (ad 0), .int x1, .int x2, .int x3]) ++ List.replicate (5 - (lg_sl ([.ref (ad 0), .int x1, .int x2, .int x3])).length) Slot.unset).toArray) [] := by rw [ha, lg_entry_eq]
  rw [hent]
  generalize (lg_sl ([.ref (ad 0), .int x1, .int x2, .int x3]) ++ List.replicate (5 - (lg_sl ([.ref (ad 0), .int x1, .int x2, .int x3])).length) Slot.unset).toArray = ls at hl ⊢
  have hl : lv_has ls 5 [(0, .ref (ad 0)), (1, .int x1), (2, .int x2), (3, .int x3)] := hl
  obtain ⟨H, hH⟩ : ∃ H : Heap, H = s.heap := ⟨_, rfl⟩
  have hgo : ∀ (H : Heap) (locs : List Loc), WI g 13 (cM g ad) ad V s.heap H locs → W p l e (headSpec wsX8_setUp rm_X8_setUp).room s m args below meth c H locs 0 0 (MQ below (va_Qi K (WPost 13 (cM g ad) ad g) (AW ad 13 s.heap.size)) args s 0 0 (AW ad 13 s.heap.size)) (F0 m 0 ls []) := by
    intro H locs hI
    refine lv_aload_n hx hb dX8_setUp_0 rfl (lv_at hl 0 rfl) ?_
    refine mg_15 hx hb hts hin8 hown hK hI hw_0 dX8_setUp_1 ?_
    refine lv_if_ne (tgt := 10) hx hb dX8_setUp_4 (by decide) (fun c1 => ?_) (fun c1 => ?_)
    · replace hw := hw.1 c1
      refine lv_iload_n hx hb dX8_setUp_10 rfl (lv_at hl 1 rfl) ?_
      refine lv_i2l (v := (x1).toInt64) hx hb dX8_setUp_11 rfl ?_
      refine lv_lconst (v := (0 : Int64)) hx hb dX8_setUp_12 (by decide) ?_
      refine lv_aload_n hx hb dX8_setUp_13 rfl (lv_at hl 0 rfl) ?_
      refine mg_5 hx hb hts hin8 hown hK hI hw_1 dX8_setUp_14 ?_
      refine lv_iconst (v := (0 : Int32)) hx hb dX8_setUp_17 (by decide) ?_
      obtain ⟨h2, hw⟩ := hw
      refine x_iald (k := 5) hx hb hK hI (by decide) rfl h2 dX8_setUp_18 ?_
      refine lv_iconst (v := (1 : Int32)) hx hb dX8_setUp_19 (by decide) ?_
      refine lv_isub hx hb dX8_setUp_20 ?_
      refine lv_i2l (v := (((V 5 ((0 : Int32)).toNatClampNeg) - (1 : Int32))).toInt64) hx hb dX8_setUp_21 rfl ?_
      refine x_afti (va_runS (As := [.long ((x1).toInt64), .long (0 : Int64), .long ((((V 5 ((0 : Int32)).toNatClampNeg) - (1 : Int32))).toInt64)]) (rest := []) ⟨hx, hb, hml, hown, hts⟩ (c_X8_in l g ad H.size V ((x1).toInt64) (0 : Int64) ((((V 5 ((0 : Int32)).toNatClampNeg) - (1 : Int32))).toInt64) _ hw) (cwS 3 hts gX8_setUp_X8_in rfl rfl rfl (by decide +kernel) ⟨Nat.le_of_ble_eq_true rfl, Nat.le_of_ble_eq_true rfl⟩) (x_preS hK hE hI) rfl rfl hl.1 rfl (lv_room (Nat.le_of_ble_eq_true rfl)) dX8_setUp_22 ⟨Nat.zero_le _, Nat.zero_le _⟩) hI (fun r4 V3 H locs hw hI => ?_)
      refine lv_if_eq (tgt := 77) hx hb dX8_setUp_25 (by decide) (fun c5 => ?_) (fun c5 => ?_)
      · replace hw := hw.1 c5
        refine lv_ldc (v := (-1000001 : Int32)) hx hb hown hw_2 dX8_setUp_77 ?_
        exact W.iret (v := (-1000001 : Int32)) hx hb hr (x_reti hI hw) hI.2.2.2.2 dX8_setUp_79
      · replace hw := hw.2 c5
        refine lv_iload_n hx hb dX8_setUp_28 rfl (lv_at hl 2 rfl) ?_
        refine lv_i2l (v := (x2).toInt64) hx hb dX8_setUp_29 rfl ?_
        refine lv_lconst (v := (1 : Int64)) hx hb dX8_setUp_30 (by decide) ?_
        refine lv_ldc2 (v := (9 : Int64)) hx hb hown hw_3 dX8_setUp_31 ?_
        refine x_afti (va_runS (As := [.long ((x2).toInt64), .long (1 : Int64), .long (9 : Int64)]) (rest := []) ⟨hx, hb, hml, hown, hts⟩ (c_X8_in l g ad H.size V3 ((x2).toInt64) (1 : Int64) (9 : Int64) _ hw) (cwS 3 hts gX8_setUp_X8_in rfl rfl rfl (by decide +kernel) ⟨Nat.le_of_ble_eq_true rfl, Nat.le_of_ble_eq_true rfl⟩) (x_preS hK hE hI) rfl rfl hl.1 rfl (lv_room (Nat.le_of_ble_eq_true rfl)) dX8_setUp_34 ⟨Nat.zero_le _, Nat.zero_le _⟩) hI (fun r7 V6 H locs hw hI => ?_)
        refine lv_if_eq (tgt := 77) hx hb dX8_setUp_37 (by decide) (fun c8 => ?_) (fun c8 => ?_)
        · replace hw := hw.1 c8
          refine lv_ldc (v := (-1000001 : Int32)) hx hb hown hw_2 dX8_setUp_77 ?_
          exact W.iret (v := (-1000001 : Int32)) hx hb hr (x_reti hI hw) hI.2.2.2.2 dX8_setUp_79
        · replace hw := hw.2 c8
          refine lv_iload_n hx hb dX8_setUp_40 rfl (lv_at hl 3 rfl) ?_
          refine lv_i2l (v := (x3).toInt64) hx hb dX8_setUp_41 rfl ?_
          refine lv_ldc2 (v := (-5 : Int64)) hx hb hown hw_4 dX8_setUp_42 ?_
          refine lv_ldc2 (v := (5 : Int64)) hx hb hown hw_5 dX8_setUp_45 ?_
          refine x_afti (va_runS (As := [.long ((x3).toInt64), .long (-5 : Int64), .long (5 : Int64)]) (rest := []) ⟨hx, hb, hml, hown, hts⟩ (c_X8_in l g ad H.size V6 ((x3).toInt64) (-5 : Int64) (5 : Int64) _ hw) (cwS 3 hts gX8_setUp_X8_in rfl rfl rfl (by decide +kernel) ⟨Nat.le_of_ble_eq_true rfl, Nat.le_of_ble_eq_true rfl⟩) (x_preS hK hE hI) rfl rfl hl.1 rfl (lv_room (Nat.le_of_ble_eq_true rfl)) dX8_setUp_48 ⟨Nat.zero_le _, Nat.zero_le _⟩) hI (fun r10 V9 H locs hw hI => ?_)
          refine lv_if_eq (tgt := 77) hx hb dX8_setUp_51 (by decide) (fun c11 => ?_) (fun c11 => ?_)
          · replace hw := hw.1 c11
            refine lv_ldc (v := (-1000001 : Int32)) hx hb hown hw_2 dX8_setUp_77 ?_
            exact W.iret (v := (-1000001 : Int32)) hx hb hr (x_reti hI hw) hI.2.2.2.2 dX8_setUp_79
          · replace hw := hw.2 c11
            refine lv_iload_n hx hb dX8_setUp_54 rfl (lv_at hl 3 rfl) ?_
            refine lv_i2l (v := (x3).toInt64) hx hb dX8_setUp_55 rfl ?_
            refine lv_aload_n hx hb dX8_setUp_56 rfl (lv_at hl 0 rfl) ?_
            refine mg_5 hx hb hts hin8 hown hK hI hw_1 dX8_setUp_57 ?_
            refine lv_iconst (v := (2 : Int32)) hx hb dX8_setUp_60 (by decide) ?_
            obtain ⟨h12, hw⟩ := hw
            refine x_iald (k := 5) hx hb hK hI (by decide) rfl h12 dX8_setUp_61 ?_
            refine lv_ineg hx hb dX8_setUp_62 ?_
            refine lv_i2l (v := ((-(V9 5 ((2 : Int32)).toNatClampNeg))).toInt64) hx hb dX8_setUp_63 rfl ?_
            refine lv_aload_n hx hb dX8_setUp_64 rfl (lv_at hl 0 rfl) ?_
            refine mg_5 hx hb hts hin8 hown hK hI hw_1 dX8_setUp_65 ?_
            refine lv_iconst (v := (2 : Int32)) hx hb dX8_setUp_68 (by decide) ?_
            obtain ⟨h13, hw⟩ := hw
            refine x_iald (k := 5) hx hb hK hI (by decide) rfl h13 dX8_setUp_69 ?_
            refine lv_i2l (v := ((V9 5 ((2 : Int32)).toNatClampNeg)).toInt64) hx hb dX8_setUp_70 rfl ?_
            refine x_afti (va_runS (As := [.long ((x3).toInt64), .long (((-(V9 5 ((2 : Int32)).toNatClampNeg))).toInt64), .long (((V9 5 ((2 : Int32)).toNatClampNeg)).toInt64)]) (rest := []) ⟨hx, hb, hml, hown, hts⟩ (c_X8_in l g ad H.size V9 ((x3).toInt64) (((-(V9 5 ((2 : Int32)).toNatClampNeg))).toInt64) (((V9 5 ((2 : Int32)).toNatClampNeg)).toInt64) _ hw) (cwS 3 hts gX8_setUp_X8_in rfl rfl rfl (by decide +kernel) ⟨Nat.le_of_ble_eq_true rfl, Nat.le_of_ble_eq_true rfl⟩) (x_preS hK hE hI) rfl rfl hl.1 rfl (lv_room (Nat.le_of_ble_eq_true rfl)) dX8_setUp_71 ⟨Nat.zero_le _, Nat.zero_le _⟩) hI (fun r15 V14 H locs hw hI => ?_)
            refine lv_if_ne (tgt := 80) hx hb dX8_setUp_74 (by decide) (fun c16 => ?_) (fun c16 => ?_)
            · replace hw := hw.1 c16
              refine lv_aload_n hx hb dX8_setUp_80 rfl (lv_at hl 0 rfl) ?_
              refine x_aftv (va_runV (As := []) (rest := []) ⟨hx, hb, hml, hown, hts⟩ (c_X8_notes l g ad H.size V14  _ hw) (cwV 0 hts gX8_setUp_X8_notes rfl rfl rfl (by decide +kernel) ⟨Nat.le_of_ble_eq_true rfl, Nat.le_of_ble_eq_true rfl⟩) (x_preV (k := 0) hK hE hI (by decide) rfl rfl) rfl rfl hl.1 rfl (lv_room (Nat.le_of_ble_eq_true rfl)) dX8_setUp_81 ⟨Nat.zero_le _, Nat.zero_le _⟩) hI (fun V17 H locs hw hI => ?_)
              refine lv_aload_n hx hb dX8_setUp_84 rfl (lv_at hl 0 rfl) ?_
              refine mg_16 hx hb hts hin8 hown hK hI hw_6 dX8_setUp_85 ?_
              refine lv_istore (lv' := [(4, .int (V17 0 16)), (0, .ref (ad 0)), (1, .int x1), (2, .int x2), (3, .int x3)]) hx hb dX8_setUp_88 hl (by decide) rfl (fun ls hl => ?_)
              refine lv_aload_n hx hb dX8_setUp_90 rfl (lv_at hl 1 rfl) ?_
              refine lv_iload_n hx hb dX8_setUp_91 rfl (lv_at hl 2 rfl) ?_
              refine lv_iload_n hx hb dX8_setUp_92 rfl (lv_at hl 3 rfl) ?_
              refine lv_iload_n hx hb dX8_setUp_93 rfl (lv_at hl 4 rfl) ?_
              refine lv_iconst (v := (0 : Int32)) hx hb dX8_setUp_94 (by decide) ?_
              refine x_aftv (va_runV (As := [.int x1, .int x2, .int x3, .int (0 : Int32)]) (rest := []) ⟨hx, hb, hml, hown, hts⟩ (c_X8_puts l g ad H.size V17 x1 x2 x3 (0 : Int32) _ hw) (cwV 4 hts gX8_setUp_X8_puts rfl rfl rfl (by decide +kernel) ⟨Nat.le_of_ble_eq_true rfl, Nat.le_of_ble_eq_true rfl⟩) (x_preV (k := 0) hK hE hI (by decide) rfl rfl) rfl rfl hl.1 rfl (lv_room (Nat.le_of_ble_eq_true rfl)) dX8_setUp_95 ⟨Nat.zero_le _, Nat.zero_le _⟩) hI (fun V18 H locs hw hI => ?_)
              refine lv_iload hx hb dX8_setUp_98 (lv_at hl 0 rfl) ?_
              exact W.iret (v := (V17 0 16)) hx hb hr (x_reti hI hw) hI.2.2.2.2 dX8_setUp_100
            · replace hw := hw.2 c16
              refine lv_ldc (v := (-1000001 : Int32)) hx hb hown hw_2 dX8_setUp_77 ?_
              exact W.iret (v := (-1000001 : Int32)) hx hb hr (x_reti hI hw) hI.2.2.2.2 dX8_setUp_79
    · replace hw := hw.2 c1
      refine lv_ldc (v := (-1000002 : Int32)) hx hb hown hw_7 dX8_setUp_7 ?_
      exact W.iret (v := (-1000002 : Int32)) hx hb hr (x_reti hI hw) hI.2.2.2.2 dX8_setUp_9
  exact hgo s.heap [] hI
def rm_X8_lay : Room := { frames := 1, cells := 0, slots := 0, locals := 25 }
set_option maxHeartbeats 4000000 in
set_option maxRecDepth 100000 in
theorem c_X8_lay (l : Launch) (g : GP) (ad : Nat → Nat) (sz : Nat) (V : VT) (x1 : Int32) (x2 : Int32)  (K : Int32 → VT → Prop) (hw : wp_X8_lay V x1 x2 K) : Met l yX8_lay wsX8_lay rm_X8_lay (va_Pc [.ref (ad 0), .int x1, .int x2] (WPre 13 (cM g ad) ad g V sz)) (va_Qi K (WPost 13 (cM g ad) ad g) (AW ad 13 sz)) 0 0 (AW ad 13 sz) := by
  refine Met.ofW (cc := cX8_lay) (maxL := 4) (ret := (some .int)) (by decide) rfl ?_
  intro p e s m args below meth c s₁ B hml hv
  obtain ⟨ha, hv⟩ := hv
  obtain rfl := hv.1
  have hI : WI g 13 (cM g ad) ad V s.heap s.heap [] := WI.start hv
  have hK := hv.2.2.1
  have hE := hv.2.2.2.2
  have hx := B.exec
  have hb := B.bytes
  have hr := B.returns
  have hts := atoms_spec (ws := wsX8_lay) B.pre
  have hown : s.vm.findClass RX8 = some m.cls := findClass_of_methodNamed B.named
  have hlocks := B.notSynchronized
  have hw_0 := hts (.fieldLink RX8 136 "HoopLaneModel" "isLane" "Z") (by decide +kernel)
  have hw_1 := hts (.fieldLink RX8 22 "HoopLaneModel" "lane" "[I") (by decide +kernel)
  have hw_2 := hts (.constant RX8 64 (-1000001)) (by decide +kernel)
  have hw_3 := hts (.constantLong RX8 198 (5)) (by decide +kernel)
  have hw_4 := hts (.constant RX8 184 (-1000002)) (by decide +kernel)
  have hin8 : ∀ w ∈ wsX80, w ∈ wsX8_lay := by decide +kernel
  have hl := lv_entry ([.ref (ad 0), .int x1, .int x2]) (n := 4) (Nat.le_of_ble_eq_true rfl)
  have hent : entryFrame m args 4 = F0 m 0 ((lg_sl ([.ref (ad 0), .int x1, .int x2]) ++ List.replicate (4 - (lg_sl ([.ref (ad 0), .int x1, .int x2])).length) Slot.unset).toArray) [] := by rw [ha, lg_entry_eq]
  rw [hent]
  generalize (lg_sl ([.ref (ad 0), .int x1, .int x2]) ++ List.replicate (4 - (lg_sl ([.ref (ad 0), .int x1, .int x2])).length) Slot.unset).toArray = ls at hl ⊢
  have hl : lv_has ls 4 [(0, .ref (ad 0)), (1, .int x1), (2, .int x2)] := hl
  obtain ⟨H, hH⟩ : ∃ H : Heap, H = s.heap := ⟨_, rfl⟩
  have hgo : ∀ (H : Heap) (locs : List Loc), WI g 13 (cM g ad) ad V s.heap H locs → W p l e (headSpec wsX8_lay rm_X8_lay).room s m args below meth c H locs 0 0 (MQ below (va_Qi K (WPost 13 (cM g ad) ad g) (AW ad 13 s.heap.size)) args s 0 0 (AW ad 13 s.heap.size)) (F0 m 0 ls []) := by
    intro H locs hI
    refine lv_aload_n hx hb dX8_lay_0 rfl (lv_at hl 0 rfl) ?_
    refine mg_15 hx hb hts hin8 hown hK hI hw_0 dX8_lay_1 ?_
    refine lv_if_ne (tgt := 10) hx hb dX8_lay_4 (by decide) (fun c1 => ?_) (fun c1 => ?_)
    · replace hw := hw.1 c1
      refine lv_iload_n hx hb dX8_lay_10 rfl (lv_at hl 1 rfl) ?_
      refine lv_i2l (v := (x1).toInt64) hx hb dX8_lay_11 rfl ?_
      refine lv_lconst (v := (0 : Int64)) hx hb dX8_lay_12 (by decide) ?_
      refine lv_aload_n hx hb dX8_lay_13 rfl (lv_at hl 0 rfl) ?_
      refine mg_5 hx hb hts hin8 hown hK hI hw_1 dX8_lay_14 ?_
      refine lv_iconst (v := (0 : Int32)) hx hb dX8_lay_17 (by decide) ?_
      obtain ⟨h2, hw⟩ := hw
      refine x_iald (k := 5) hx hb hK hI (by decide) rfl h2 dX8_lay_18 ?_
      refine lv_iconst (v := (1 : Int32)) hx hb dX8_lay_19 (by decide) ?_
      refine lv_isub hx hb dX8_lay_20 ?_
      refine lv_i2l (v := (((V 5 ((0 : Int32)).toNatClampNeg) - (1 : Int32))).toInt64) hx hb dX8_lay_21 rfl ?_
      refine x_afti (va_runS (As := [.long ((x1).toInt64), .long (0 : Int64), .long ((((V 5 ((0 : Int32)).toNatClampNeg) - (1 : Int32))).toInt64)]) (rest := []) ⟨hx, hb, hml, hown, hts⟩ (c_X8_in l g ad H.size V ((x1).toInt64) (0 : Int64) ((((V 5 ((0 : Int32)).toNatClampNeg) - (1 : Int32))).toInt64) _ hw) (cwS 3 hts gX8_lay_X8_in rfl rfl rfl (by decide +kernel) ⟨Nat.le_of_ble_eq_true rfl, Nat.le_of_ble_eq_true rfl⟩) (x_preS hK hE hI) rfl rfl hl.1 rfl (lv_room (Nat.le_of_ble_eq_true rfl)) dX8_lay_22 ⟨Nat.zero_le _, Nat.zero_le _⟩) hI (fun r4 V3 H locs hw hI => ?_)
      refine lv_if_eq (tgt := 40) hx hb dX8_lay_25 (by decide) (fun c5 => ?_) (fun c5 => ?_)
      · replace hw := hw.1 c5
        refine lv_ldc (v := (-1000001 : Int32)) hx hb hown hw_2 dX8_lay_40 ?_
        exact W.iret (v := (-1000001 : Int32)) hx hb hr (x_reti hI hw) hI.2.2.2.2 dX8_lay_42
      · replace hw := hw.2 c5
        refine lv_iload_n hx hb dX8_lay_28 rfl (lv_at hl 2 rfl) ?_
        refine lv_i2l (v := (x2).toInt64) hx hb dX8_lay_29 rfl ?_
        refine lv_lconst (v := (0 : Int64)) hx hb dX8_lay_30 (by decide) ?_
        refine lv_ldc2 (v := (5 : Int64)) hx hb hown hw_3 dX8_lay_31 ?_
        refine x_afti (va_runS (As := [.long ((x2).toInt64), .long (0 : Int64), .long (5 : Int64)]) (rest := []) ⟨hx, hb, hml, hown, hts⟩ (c_X8_in l g ad H.size V3 ((x2).toInt64) (0 : Int64) (5 : Int64) _ hw) (cwS 3 hts gX8_lay_X8_in rfl rfl rfl (by decide +kernel) ⟨Nat.le_of_ble_eq_true rfl, Nat.le_of_ble_eq_true rfl⟩) (x_preS hK hE hI) rfl rfl hl.1 rfl (lv_room (Nat.le_of_ble_eq_true rfl)) dX8_lay_34 ⟨Nat.zero_le _, Nat.zero_le _⟩) hI (fun r7 V6 H locs hw hI => ?_)
        refine lv_if_ne (tgt := 43) hx hb dX8_lay_37 (by decide) (fun c8 => ?_) (fun c8 => ?_)
        · replace hw := hw.1 c8
          refine lv_aload_n hx hb dX8_lay_43 rfl (lv_at hl 0 rfl) ?_
          refine x_aftv (va_runV (As := []) (rest := []) ⟨hx, hb, hml, hown, hts⟩ (c_X8_notes l g ad H.size V6  _ hw) (cwV 0 hts gX8_lay_X8_notes rfl rfl rfl (by decide +kernel) ⟨Nat.le_of_ble_eq_true rfl, Nat.le_of_ble_eq_true rfl⟩) (x_preV (k := 0) hK hE hI (by decide) rfl rfl) rfl rfl hl.1 rfl (lv_room (Nat.le_of_ble_eq_true rfl)) dX8_lay_44 ⟨Nat.zero_le _, Nat.zero_le _⟩) hI (fun V9 H locs hw hI => ?_)
          refine lv_aload_n hx hb dX8_lay_47 rfl (lv_at hl 0 rfl) ?_
          refine mg_5 hx hb hts hin8 hown hK hI hw_1 dX8_lay_48 ?_
          refine lv_iconst (v := (4 : Int32)) hx hb dX8_lay_51 (by decide) ?_
          refine lv_iload_n hx hb dX8_lay_52 rfl (lv_at hl 1 rfl) ?_
          refine lv_iadd hx hb dX8_lay_53 ?_
          obtain ⟨h10, hw⟩ := hw
          refine x_iald (k := 5) hx hb hK hI (by decide) rfl h10 dX8_lay_54 ?_
          refine lv_istore_n (lv' := [(3, .int (V9 5 (((4 : Int32) + x1)).toNatClampNeg)), (0, .ref (ad 0)), (1, .int x1), (2, .int x2)]) hx hb dX8_lay_55 rfl hl (by decide) rfl (fun ls hl => ?_)
          refine lv_aload_n hx hb dX8_lay_56 rfl (lv_at hl 1 rfl) ?_
          refine mg_5 hx hb hts hin8 hown hK hI hw_1 dX8_lay_57 ?_
          refine lv_iconst (v := (4 : Int32)) hx hb dX8_lay_60 (by decide) ?_
          refine lv_iload_n hx hb dX8_lay_61 rfl (lv_at hl 2 rfl) ?_
          refine lv_iadd hx hb dX8_lay_62 ?_
          refine lv_iload_n hx hb dX8_lay_63 rfl (lv_at hl 3 rfl) ?_
          obtain ⟨h11, hw⟩ := hw
          refine x_iastV (k := 5) hx hb hK hI (cM_loc g ad) (by decide) (fun _ => rfl) h11 dX8_lay_64 (fun V12 H locs eV12 hI => ?_)
          replace hw := hw V12 eV12
          refine lv_iload_n hx hb dX8_lay_65 rfl (lv_at hl 0 rfl) ?_
          exact W.iret (v := (V9 5 (((4 : Int32) + x1)).toNatClampNeg)) hx hb hr (x_reti hI hw) hI.2.2.2.2 dX8_lay_66
        · replace hw := hw.2 c8
          refine lv_ldc (v := (-1000001 : Int32)) hx hb hown hw_2 dX8_lay_40 ?_
          exact W.iret (v := (-1000001 : Int32)) hx hb hr (x_reti hI hw) hI.2.2.2.2 dX8_lay_42
    · replace hw := hw.2 c1
      refine lv_ldc (v := (-1000002 : Int32)) hx hb hown hw_4 dX8_lay_7 ?_
      exact W.iret (v := (-1000002 : Int32)) hx hb hr (x_reti hI hw) hI.2.2.2.2 dX8_lay_9
  exact hgo s.heap [] hI
def rm_X8_hoopOf : Room := { frames := 0, cells := 0, slots := 0, locals := 0 }
set_option maxHeartbeats 4000000 in
set_option maxRecDepth 100000 in
theorem c_X8_hoopOf (l : Launch) (g : GP) (ad : Nat → Nat) (sz : Nat) (V : VT) (x1 : Int32)  (K : Int32 → VT → Prop) (hw : wp_X8_hoopOf V x1 K) : Met l yX8_hoopOf wsX8_hoopOf rm_X8_hoopOf (va_Pc [.ref (ad 0), .int x1] (WPre 13 (cM g ad) ad g V sz)) (va_Qi K (WPost 13 (cM g ad) ad g) (AW ad 13 sz)) 0 0 (AW ad 13 sz) := by
  refine Met.ofW (cc := cX8_hoopOf) (maxL := 2) (ret := (some .int)) (by decide) rfl ?_
  intro p e s m args below meth c s₁ B hml hv
  obtain ⟨ha, hv⟩ := hv
  obtain rfl := hv.1
  have hI : WI g 13 (cM g ad) ad V s.heap s.heap [] := WI.start hv
  have hK := hv.2.2.1
  have hE := hv.2.2.2.2
  have hx := B.exec
  have hb := B.bytes
  have hr := B.returns
  have hts := atoms_spec (ws := wsX8_hoopOf) B.pre
  have hown : s.vm.findClass RX8 = some m.cls := findClass_of_methodNamed B.named
  have hlocks := B.notSynchronized
  have hw_0 := hts (.fieldLink RX8 144 "HoopLaneModel" "moment" "I") (by decide +kernel)
  have hw_1 := hts (.fieldLink RX8 159 "HoopLaneModel" "end" "I") (by decide +kernel)
  have hw_2 := hts (.fieldLink RX8 156 "HoopLaneModel" "lean" "I") (by decide +kernel)
  have hw_3 := hts (.fieldLink RX8 153 "HoopLaneModel" "pace" "I") (by decide +kernel)
  have hw_4 := hts (.fieldLink RX8 150 "HoopLaneModel" "yard" "I") (by decide +kernel)
  have hin8 : ∀ w ∈ wsX80, w ∈ wsX8_hoopOf := by decide +kernel
  have hl := lv_entry ([.ref (ad 0), .int x1]) (n := 2) (Nat.le_of_ble_eq_true rfl)
  have hent : entryFrame m args 2 = F0 m 0 ((lg_sl ([.ref (ad 0), .int x1]) ++ List.replicate (2 - (lg_sl ([.ref (ad 0), .int x1])).length) Slot.unset).toArray) [] := by rw [ha, lg_entry_eq]
  rw [hent]
  generalize (lg_sl ([.ref (ad 0), .int x1]) ++ List.replicate (2 - (lg_sl ([.ref (ad 0), .int x1])).length) Slot.unset).toArray = ls at hl ⊢
  have hl : lv_has ls 2 [(0, .ref (ad 0)), (1, .int x1)] := hl
  obtain ⟨H, hH⟩ : ∃ H : Heap, H = s.heap := ⟨_, rfl⟩
  have hgo : ∀ (H : Heap) (locs : List Loc), WI g 13 (cM g ad) ad V s.heap H locs → W p l e (headSpec wsX8_hoopOf rm_X8_hoopOf).room s m args below meth c H locs 0 0 (MQ below (va_Qi K (WPost 13 (cM g ad) ad g) (AW ad 13 s.heap.size)) args s 0 0 (AW ad 13 s.heap.size)) (F0 m 0 ls []) := by
    intro H locs hI
    refine lv_iload_n hx hb dX8_hoopOf_0 rfl (lv_at hl 1 rfl) ?_
    refine lv_if_ne (tgt := 11) hx hb dX8_hoopOf_1 (by decide) (fun c1 => ?_) (fun c1 => ?_)
    · replace hw := hw.1 c1
      refine lv_iload_n hx hb dX8_hoopOf_11 rfl (lv_at hl 1 rfl) ?_
      refine lv_iconst (v := (1 : Int32)) hx hb dX8_hoopOf_12 (by decide) ?_
      refine lv_icmp_ne (tgt := 23) hx hb dX8_hoopOf_13 (by decide) (fun c2 => ?_) (fun c2 => ?_)
      · replace hw := hw.1 c2
        refine lv_iload_n hx hb dX8_hoopOf_23 rfl (lv_at hl 1 rfl) ?_
        refine lv_iconst (v := (2 : Int32)) hx hb dX8_hoopOf_24 (by decide) ?_
        refine lv_icmp_ne (tgt := 35) hx hb dX8_hoopOf_25 (by decide) (fun c3 => ?_) (fun c3 => ?_)
        · replace hw := hw.1 c3
          refine lv_iload_n hx hb dX8_hoopOf_35 rfl (lv_at hl 1 rfl) ?_
          refine lv_iconst (v := (3 : Int32)) hx hb dX8_hoopOf_36 (by decide) ?_
          refine lv_icmp_ne (tgt := 47) hx hb dX8_hoopOf_37 (by decide) (fun c4 => ?_) (fun c4 => ?_)
          · replace hw := hw.1 c4
            refine lv_aload_n hx hb dX8_hoopOf_47 rfl (lv_at hl 0 rfl) ?_
            refine mg_20 hx hb hts hin8 hown hK hI hw_0 dX8_hoopOf_48 ?_
            exact W.iret (v := (V 0 20)) hx hb hr (x_reti hI hw) hI.2.2.2.2 dX8_hoopOf_51
          · replace hw := hw.2 c4
            refine lv_aload_n hx hb dX8_hoopOf_40 rfl (lv_at hl 0 rfl) ?_
            refine mg_19 hx hb hts hin8 hown hK hI hw_1 dX8_hoopOf_41 ?_
            refine lv_goto (tgt := 51) hx hb dX8_hoopOf_44 (by decide) ?_
            exact W.iret (v := (V 0 19)) hx hb hr (x_reti hI hw) hI.2.2.2.2 dX8_hoopOf_51
        · replace hw := hw.2 c3
          refine lv_aload_n hx hb dX8_hoopOf_28 rfl (lv_at hl 0 rfl) ?_
          refine mg_18 hx hb hts hin8 hown hK hI hw_2 dX8_hoopOf_29 ?_
          refine lv_goto (tgt := 51) hx hb dX8_hoopOf_32 (by decide) ?_
          exact W.iret (v := (V 0 18)) hx hb hr (x_reti hI hw) hI.2.2.2.2 dX8_hoopOf_51
      · replace hw := hw.2 c2
        refine lv_aload_n hx hb dX8_hoopOf_16 rfl (lv_at hl 0 rfl) ?_
        refine mg_17 hx hb hts hin8 hown hK hI hw_3 dX8_hoopOf_17 ?_
        refine lv_goto (tgt := 51) hx hb dX8_hoopOf_20 (by decide) ?_
        exact W.iret (v := (V 0 17)) hx hb hr (x_reti hI hw) hI.2.2.2.2 dX8_hoopOf_51
    · replace hw := hw.2 c1
      refine lv_aload_n hx hb dX8_hoopOf_4 rfl (lv_at hl 0 rfl) ?_
      refine mg_16 hx hb hts hin8 hown hK hI hw_4 dX8_hoopOf_5 ?_
      refine lv_goto (tgt := 51) hx hb dX8_hoopOf_8 (by decide) ?_
      exact W.iret (v := (V 0 16)) hx hb hr (x_reti hI hw) hI.2.2.2.2 dX8_hoopOf_51
  exact hgo s.heap [] hI
