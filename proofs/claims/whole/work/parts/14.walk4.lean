def rm_X6_readNumber : Room := { frames := 1, cells := 0, slots := 0, locals := 22 }
set_option maxHeartbeats 4000000 in
set_option maxRecDepth 100000 in
theorem c_X6_readNumber (l : Launch) (g : GP) (ad : Nat → Nat) (sz : Nat) (V : VT) (x1 : Int32) (x2 : Int32)  (K : Int32 → VT → Prop) (hw : wp_X6_readNumber V x1 x2 K) : Met l yX6_readNumber wsX6_readNumber rm_X6_readNumber (va_Pc [.ref (ad 3), .int x1, .int x2] (WPre 76 (cX g ad) ad g V sz)) (va_Qi K (WPost 76 (cX g ad) ad g) (AW ad 76 sz)) 0 0 (AW ad 76 sz) := by
  refine Met.ofW (cc := cX6_readNumber) (maxL := 5) (ret := (some .int)) (by decide) rfl ?_
  intro p e s m args below meth c s₁ B hml hv
  obtain ⟨ha, hv⟩ := hv
  obtain rfl := hv.1
  have hI : WI g 76 (cX g ad) ad V s.heap s.heap [] := WI.start hv
  have hK := hv.2.2.1
  have hE := hv.2.2.2.2
  have hx := B.exec
  have hb := B.bytes
  have hr := B.returns
  have hts := atoms_spec (ws := wsX6_readNumber) B.pre
  have hown : s.vm.findClass RX6 = some m.cls := findClass_of_methodNamed B.named
  have hlocks := B.notSynchronized
  have hw_0 := hts (.fieldLink RX6 19 "HoopLane$Tape" "at" "I") (by decide +kernel)
  have hw_1 := hts (.fieldLink RX6 15 "HoopLane$Tape" "size" "I") (by decide +kernel)
  have hw_2 := hts (.fieldLink RX6 9 "HoopLane$Tape" "bytes" "[I") (by decide +kernel)
  have hw_3 := hts (.initialized RX7) (by decide +kernel)
  have hw_4 := hts (.static yX7_isOut) (by decide +kernel)
  have hw_5 := hts (.fieldLink RX6 22 "HoopLane$Tape" "fault" "I") (by decide +kernel)
  have hin6 : ∀ w ∈ wsX60, w ∈ wsX6_readNumber := by decide +kernel
  have hl := lv_entry ([.ref (ad 3), .int x1, .int x2]) (n := 5) (Nat.le_of_ble_eq_true rfl)
  have hent : entryFrame m args 5 = F0 m 0 ((lg_sl ([.ref (ad 3), .int x1, .int x2]) ++ List.replicate (5 - (lg_sl ([.ref (ad 3), .int x1, .int x2])).length) Slot.unset).toArray) [] := by rw [ha, lg_entry_eq]
  rw [hent]
  generalize (lg_sl ([.ref (ad 3), .int x1, .int x2]) ++ List.replicate (5 - (lg_sl ([.ref (ad 3), .int x1, .int x2])).length) Slot.unset).toArray = ls at hl ⊢
  have hl : lv_has ls 5 [(0, .ref (ad 3)), (1, .int x1), (2, .int x2)] := hl
  obtain ⟨H, hH⟩ : ∃ H : Heap, H = s.heap := ⟨_, rfl⟩
  have hb105 : ∀ (V : VT) (H : Heap) (locs : List Loc) (ls : Array Slot) (x3 : Int32) (x4 : Int32), WI g 76 (cX g ad) ad V s.heap H locs → lv_has ls 5 [(0, .ref (ad 3)), (3, .int x3), (4, .int x4)] → wp_X6_readNumber_b105 K  V x3 x4 → W p l e (headSpec wsX6_readNumber rm_X6_readNumber).room s m args below meth c H locs 0 0 (MQ below (va_Qi K (WPost 76 (cX g ad) ad g) (AW ad 76 s.heap.size)) args s 0 0 (AW ad 76 s.heap.size)) (F0 m 105 ls []) := by
    intro V H locs ls x3 x4  hI hl hw
    refine lv_aload_n hx hb dX6_readNumber_105 rfl (lv_at hl 0 rfl) ?_
    refine xg6_3 (k := 3) hx hb hts hin6 hown hK hI (by decide) hw_5 dX6_readNumber_106 ?_
    refine lv_if_ne (tgt := 118) hx hb dX6_readNumber_109 (by decide) (fun c14 => ?_) (fun c14 => ?_)
    · replace hw := hw.1 c14
      refine lv_iload_n hx hb dX6_readNumber_118 rfl (lv_at hl 1 rfl) ?_
      exact W.iret (v := x3) hx hb hr (x_reti hI hw) hI.2.2.2.2 dX6_readNumber_119
    · replace hw := hw.2 c14
      refine lv_aload_n hx hb dX6_readNumber_112 rfl (lv_at hl 0 rfl) ?_
      refine lv_iload hx hb dX6_readNumber_113 (lv_at hl 2 rfl) ?_
      refine xp6_2 (k := 3) hx hb hts hin6 hown hK hI (by decide) hw_0 dX6_readNumber_115 (fun V15 H locs eV15 hI => ?_)
      replace hw := hw V15 eV15
      refine lv_iload_n hx hb dX6_readNumber_118 rfl (lv_at hl 1 rfl) ?_
      exact W.iret (v := x3) hx hb hr (x_reti hI hw) hI.2.2.2.2 dX6_readNumber_119
  have hb83 : ∀ (V : VT) (H : Heap) (locs : List Loc) (ls : Array Slot) (x3 : Int32) (x4 : Int32), WI g 76 (cX g ad) ad V s.heap H locs → lv_has ls 5 [(0, .ref (ad 3)), (3, .int x3), (4, .int x4)] → wp_X6_readNumber_b83 K  V x3 x4 → W p l e (headSpec wsX6_readNumber rm_X6_readNumber).room s m args below meth c H locs 0 0 (MQ below (va_Qi K (WPost 76 (cX g ad) ad g) (AW ad 76 s.heap.size)) args s 0 0 (AW ad 76 s.heap.size)) (F0 m 83 ls []) := by
    intro V H locs ls x3 x4  hI hl hw
    refine lv_aload_n hx hb dX6_readNumber_83 rfl (lv_at hl 0 rfl) ?_
    refine lv_iconst (v := (1 : Int32)) hx hb dX6_readNumber_84 (by decide) ?_
    refine x_aftv (va_runV (As := [.int (1 : Int32)]) (rest := []) ⟨hx, hb, hml, hown, hts⟩ (c_X6_fail l g ad H.size V (1 : Int32) _ hw) (cwV 1 hts gX6_readNumber_X6_fail rfl rfl rfl (by decide +kernel) ⟨Nat.le_of_ble_eq_true rfl, Nat.le_of_ble_eq_true rfl⟩) (x_preV (k := 3) hK hE hI (by decide) (cX_6 (by decide)) rfl) rfl rfl hl.1 rfl (lv_room (Nat.le_of_ble_eq_true rfl)) dX6_readNumber_85 ⟨Nat.zero_le _, Nat.zero_le _⟩) hI (fun V13 H locs hw hI => ?_)
    refine lv_goto (tgt := 105) hx hb dX6_readNumber_88 (by decide) ?_
    exact hb105 V13 H locs ls x3 x4 hI (lv_sub hl [0, 1, 2] rfl) hw
  have hb63 : ∀ (V : VT) (H : Heap) (locs : List Loc) (ls : Array Slot) (x1 : Int32) (x2 : Int32) (x3 : Int32) (x4 : Int32), WI g 76 (cX g ad) ad V s.heap H locs → lv_has ls 5 [(0, .ref (ad 3)), (1, .int x1), (2, .int x2), (3, .int x3), (4, .int x4)] → wp_X6_readNumber_b63 K  V x1 x2 x3 x4 → W p l e (headSpec wsX6_readNumber rm_X6_readNumber).room s m args below meth c H locs 0 0 (MQ below (va_Qi K (WPost 76 (cX g ad) ad g) (AW ad 76 s.heap.size)) args s 0 0 (AW ad 76 s.heap.size)) (F0 m 63 ls []) := by
    intro V H locs ls x1 x2 x3 x4  hI hl hw
    refine lv_iload hx hb dX6_readNumber_63 (lv_at hl 4 rfl) ?_
    refine lv_aload_n hx hb dX6_readNumber_65 rfl (lv_at hl 0 rfl) ?_
    refine xg6_2 (k := 3) hx hb hts hin6 hown hK hI (by decide) hw_0 dX6_readNumber_66 ?_
    refine lv_icmp_eq (tgt := 83) hx hb dX6_readNumber_69 (by decide) (fun c7 => ?_) (fun c7 => ?_)
    · replace hw := hw.1 c7
      exact hb83 V H locs ls x3 x4 hI (lv_sub hl [0, 3, 4] rfl) hw
    · replace hw := hw.2 c7
      refine lv_iload hx hb dX6_readNumber_72 (lv_at hl 4 rfl) ?_
      refine lv_aload_n hx hb dX6_readNumber_74 rfl (lv_at hl 0 rfl) ?_
      refine xg6_2 (k := 3) hx hb hts hin6 hown hK hI (by decide) hw_0 dX6_readNumber_75 ?_
      refine lv_iconst (v := (2 : Int32)) hx hb dX6_readNumber_78 (by decide) ?_
      refine lv_iadd hx hb dX6_readNumber_79 ?_
      refine lv_icmp_le (tgt := 91) hx hb dX6_readNumber_80 (by decide) (fun c8 => ?_) (fun c8 => ?_)
      · replace hw := hw.1 c8
        refine lv_iload_n hx hb dX6_readNumber_91 rfl (lv_at hl 3 rfl) ?_
        refine lv_iload_n hx hb dX6_readNumber_92 rfl (lv_at hl 1 rfl) ?_
        refine lv_iload_n hx hb dX6_readNumber_93 rfl (lv_at hl 2 rfl) ?_
        refine x_afti (va_runSN (As := [.int x3, .int x1, .int x2]) (rest := []) ⟨hx, hb, hml, hown, hts⟩ (c_X7_isOut l g ad H.size V x3 x1 x2 _ hw) ⟨va_cnB 3 hts gX6_readNumber_X7_isOut_n97 rfl rfl rfl (hE.1 _ (List.mem_of_getElem? (i := 4) rfl)) hw_3 (by decide +kernel) ⟨Nat.le_of_ble_eq_true rfl, Nat.le_of_ble_eq_true rfl⟩, hw_4, trivial⟩ (x_preS hK hE hI) rfl rfl hl.1 rfl (lv_room (Nat.le_of_ble_eq_true rfl)) dX6_readNumber_94 ⟨Nat.zero_le _, Nat.zero_le _⟩) hI (fun r10 V9 H locs hw hI => ?_)
        refine lv_if_eq (tgt := 105) hx hb dX6_readNumber_97 (by decide) (fun c11 => ?_) (fun c11 => ?_)
        · replace hw := hw.1 c11
          exact hb105 V9 H locs ls x3 x4 hI (lv_sub hl [0, 3, 4] rfl) hw
        · replace hw := hw.2 c11
          refine lv_aload_n hx hb dX6_readNumber_100 rfl (lv_at hl 0 rfl) ?_
          refine lv_iconst (v := (2 : Int32)) hx hb dX6_readNumber_101 (by decide) ?_
          refine x_aftv (va_runV (As := [.int (2 : Int32)]) (rest := []) ⟨hx, hb, hml, hown, hts⟩ (c_X6_fail l g ad H.size V9 (2 : Int32) _ hw) (cwV 1 hts gX6_readNumber_X6_fail rfl rfl rfl (by decide +kernel) ⟨Nat.le_of_ble_eq_true rfl, Nat.le_of_ble_eq_true rfl⟩) (x_preV (k := 3) hK hE hI (by decide) (cX_6 (by decide)) rfl) rfl rfl hl.1 rfl (lv_room (Nat.le_of_ble_eq_true rfl)) dX6_readNumber_102 ⟨Nat.zero_le _, Nat.zero_le _⟩) hI (fun V12 H locs hw hI => ?_)
          exact hb105 V12 H locs ls x3 x4 hI (lv_sub hl [0, 3, 4] rfl) hw
      · replace hw := hw.2 c8
        exact hb83 V H locs ls x3 x4 hI (lv_sub hl [0, 3, 4] rfl) hw
  have hL8 : ∀ (n8 : Nat) (V : VT) (H : Heap) (locs : List Loc) (ls : Array Slot) (x1 : Int32) (x2 : Int32) (x3 : Int32) (x4 : Int32), WI g 76 (cX g ad) ad V s.heap H locs → lv_has ls 5 [(0, .ref (ad 3)), (1, .int x1), (2, .int x2), (3, .int x3), (4, .int x4)] → wp_X6_readNumber_L8 K  n8 V x1 x2 x3 x4 → W p l e (headSpec wsX6_readNumber rm_X6_readNumber).room s m args below meth c H locs 0 0 (MQ below (va_Qi K (WPost 76 (cX g ad) ad g) (AW ad 76 s.heap.size)) args s 0 0 (AW ad 76 s.heap.size)) (F0 m 8 ls []) := by
    intro n8
    induction n8 with
    | zero => intro V H locs ls x1 x2 x3 x4  hI hl hw; exact False.elim hw
    | succ n8 ihL8 =>
      intro V H locs ls x1 x2 x3 x4  hI hl hw
      refine lv_iload hx hb dX6_readNumber_8 (lv_at hl 4 rfl) ?_
      refine lv_aload_n hx hb dX6_readNumber_10 rfl (lv_at hl 0 rfl) ?_
      refine xg6_1 (k := 3) hx hb hts hin6 hown hK hI (by decide) hw_1 dX6_readNumber_11 ?_
      refine lv_icmp_ge (tgt := 63) hx hb dX6_readNumber_14 (by decide) (fun c1 => ?_) (fun c1 => ?_)
      · replace hw := hw.1 c1
        exact hb63 V H locs ls x1 x2 x3 x4 hI (lv_sub hl [0, 1, 2, 3, 4] rfl) hw
      · replace hw := hw.2 c1
        refine lv_aload_n hx hb dX6_readNumber_17 rfl (lv_at hl 0 rfl) ?_
        refine xg6_0 (k := 3) hx hb hts hin6 hown hK hI (by decide) hw_2 dX6_readNumber_18 ?_
        refine lv_iload hx hb dX6_readNumber_21 (lv_at hl 4 rfl) ?_
        obtain ⟨h2, hw⟩ := hw
        refine x_iald (k := 4) hx hb hK hI (by decide) (cX_9 (by decide) (by decide)) h2 dX6_readNumber_23 ?_
        refine lv_bipush (v := (48 : Int32)) hx hb dX6_readNumber_24 (by decide) ?_
        refine lv_icmp_lt (tgt := 63) hx hb dX6_readNumber_26 (by decide) (fun c3 => ?_) (fun c3 => ?_)
        · replace hw := hw.1 c3
          exact hb63 V H locs ls x1 x2 x3 x4 hI (lv_sub hl [0, 1, 2, 3, 4] rfl) hw
        · replace hw := hw.2 c3
          refine lv_aload_n hx hb dX6_readNumber_29 rfl (lv_at hl 0 rfl) ?_
          refine xg6_0 (k := 3) hx hb hts hin6 hown hK hI (by decide) hw_2 dX6_readNumber_30 ?_
          refine lv_iload hx hb dX6_readNumber_33 (lv_at hl 4 rfl) ?_
          obtain ⟨h4, hw⟩ := hw
          refine x_iald (k := 4) hx hb hK hI (by decide) (cX_9 (by decide) (by decide)) h4 dX6_readNumber_35 ?_
          refine lv_bipush (v := (57 : Int32)) hx hb dX6_readNumber_36 (by decide) ?_
          refine lv_icmp_gt (tgt := 63) hx hb dX6_readNumber_38 (by decide) (fun c5 => ?_) (fun c5 => ?_)
          · replace hw := hw.1 c5
            exact hb63 V H locs ls x1 x2 x3 x4 hI (lv_sub hl [0, 1, 2, 3, 4] rfl) hw
          · replace hw := hw.2 c5
            refine lv_iload_n hx hb dX6_readNumber_41 rfl (lv_at hl 3 rfl) ?_
            refine lv_bipush (v := (10 : Int32)) hx hb dX6_readNumber_42 (by decide) ?_
            refine lv_imul hx hb dX6_readNumber_44 ?_
            refine lv_aload_n hx hb dX6_readNumber_45 rfl (lv_at hl 0 rfl) ?_
            refine xg6_0 (k := 3) hx hb hts hin6 hown hK hI (by decide) hw_2 dX6_readNumber_46 ?_
            refine lv_iload hx hb dX6_readNumber_49 (lv_at hl 4 rfl) ?_
            obtain ⟨h6, hw⟩ := hw
            refine x_iald (k := 4) hx hb hK hI (by decide) (cX_9 (by decide) (by decide)) h6 dX6_readNumber_51 ?_
            refine lv_iadd hx hb dX6_readNumber_52 ?_
            refine lv_bipush (v := (48 : Int32)) hx hb dX6_readNumber_53 (by decide) ?_
            refine lv_isub hx hb dX6_readNumber_55 ?_
            refine lv_istore_n (lv' := [(3, .int (((x3 * (10 : Int32)) + (V 4 (x4).toNatClampNeg)) - (48 : Int32))), (0, .ref (ad 3)), (1, .int x1), (2, .int x2), (4, .int x4)]) hx hb dX6_readNumber_56 rfl hl (by decide) rfl (fun ls hl => ?_)
            refine lv_iinc (v := (x4 + (1 : Int32))) (lv' := [(4, .int (x4 + (1 : Int32))), (3, .int (((x3 * (10 : Int32)) + (V 4 (x4).toNatClampNeg)) - (48 : Int32))), (0, .ref (ad 3)), (1, .int x1), (2, .int x2)]) hx hb dX6_readNumber_57 hl (k := 4) rfl rfl (by decide) rfl (fun ls hl => ?_)
            refine lv_goto (tgt := 8) hx hb dX6_readNumber_60 (by decide) ?_
            exact ihL8 V H locs ls x1 x2 (((x3 * (10 : Int32)) + (V 4 (x4).toNatClampNeg)) - (48 : Int32)) (x4 + (1 : Int32)) hI (lv_sub hl [2, 3, 4, 1, 0] rfl) hw
  have hgo : ∀ (H : Heap) (locs : List Loc), WI g 76 (cX g ad) ad V s.heap H locs → W p l e (headSpec wsX6_readNumber rm_X6_readNumber).room s m args below meth c H locs 0 0 (MQ below (va_Qi K (WPost 76 (cX g ad) ad g) (AW ad 76 s.heap.size)) args s 0 0 (AW ad 76 s.heap.size)) (F0 m 0 ls []) := by
    intro H locs hI
    refine lv_iconst (v := (0 : Int32)) hx hb dX6_readNumber_0 (by decide) ?_
    refine lv_istore_n (lv' := [(3, .int (0 : Int32)), (0, .ref (ad 3)), (1, .int x1), (2, .int x2)]) hx hb dX6_readNumber_1 rfl hl (by decide) rfl (fun ls hl => ?_)
    refine lv_aload_n hx hb dX6_readNumber_2 rfl (lv_at hl 1 rfl) ?_
    refine xg6_2 (k := 3) hx hb hts hin6 hown hK hI (by decide) hw_0 dX6_readNumber_3 ?_
    refine lv_istore (lv' := [(4, .int (V 3 2)), (3, .int (0 : Int32)), (0, .ref (ad 3)), (1, .int x1), (2, .int x2)]) hx hb dX6_readNumber_6 hl (by decide) rfl (fun ls hl => ?_)
    obtain ⟨n8, hw⟩ := hw
    exact hL8 n8 V H locs ls x1 x2 (0 : Int32) (V 3 2) hI (lv_sub hl [2, 3, 4, 1, 0] rfl) hw
  exact hgo s.heap [] hI
def rm_X6_readLaw : Room := { frames := 2, cells := 0, slots := 0, locals := 46 }
set_option maxHeartbeats 4000000 in
set_option maxRecDepth 100000 in
theorem c_X6_readLaw (l : Launch) (g : GP) (ad : Nat → Nat) (sz : Nat) (V : VT) (k1 : Nat) (hk1 : kX k1 = 3) (K : VT → Prop) (hw : wp_X6_readLaw V k1 K) : Met l yX6_readLaw wsX6_readLaw rm_X6_readLaw (va_Pc [.ref (ad 3), .ref (ad k1)] (WPre 76 (cX g ad) ad g V sz)) (va_Qv K (WPost 76 (cX g ad) ad g) (AW ad 76 sz)) 0 0 (AW ad 76 sz) := by
  refine Met.ofW (cc := cX6_readLaw) (maxL := 4) (ret := none) (by decide) rfl ?_
  intro p e s m args below meth c s₁ B hml hv
  obtain ⟨ha, hv⟩ := hv
  obtain rfl := hv.1
  have hI : WI g 76 (cX g ad) ad V s.heap s.heap [] := WI.start hv
  have hK := hv.2.2.1
  have hE := hv.2.2.2.2
  have hx := B.exec
  have hb := B.bytes
  have hr := B.returns
  have hts := atoms_spec (ws := wsX6_readLaw) B.pre
  have hown : s.vm.findClass RX6 = some m.cls := findClass_of_methodNamed B.named
  have hlocks := B.notSynchronized
  have hw_0 := hts (.fieldLink RX6 43 "HoopLane$Lane" "holds" "I") (by decide +kernel)
  have hw_1 := hts (.fieldLink RX6 48 "HoopLane$Lane" "drag" "I") (by decide +kernel)
  have hw_2 := hts (.fieldLink RX6 51 "HoopLane$Lane" "hoop" "LHoopLane$Hoop;") (by decide +kernel)
  have hw_3 := hts (.fieldLink RX6 61 "HoopLane$Lane" "moment" "I") (by decide +kernel)
  have hin3 : ∀ w ∈ wsX30, w ∈ wsX6_readLaw := by decide +kernel
  have hl := lv_entry ([.ref (ad 3), .ref (ad k1)]) (n := 4) (Nat.le_of_ble_eq_true rfl)
  have hent : entryFrame m args 4 = F0 m 0 ((lg_sl ([.ref (ad 3), .ref (ad k1)]) ++ List.replicate (4 - (lg_sl ([.ref (ad 3), .ref (ad k1)])).length) Slot.unset).toArray) [] := by rw [ha, lg_entry_eq]
  rw [hent]
  generalize (lg_sl ([.ref (ad 3), .ref (ad k1)]) ++ List.replicate (4 - (lg_sl ([.ref (ad 3), .ref (ad k1)])).length) Slot.unset).toArray = ls at hl ⊢
  have hl : lv_has ls 4 [(0, .ref (ad 3)), (1, .ref (ad k1))] := hl
  obtain ⟨H, hH⟩ : ∃ H : Heap, H = s.heap := ⟨_, rfl⟩
  have hgo : ∀ (H : Heap) (locs : List Loc), WI g 76 (cX g ad) ad V s.heap H locs → W p l e (headSpec wsX6_readLaw rm_X6_readLaw).room s m args below meth c H locs 0 0 (MQ below (va_Qv K (WPost 76 (cX g ad) ad g) (AW ad 76 s.heap.size)) args s 0 0 (AW ad 76 s.heap.size)) (F0 m 0 ls []) := by
    intro H locs hI
    refine lv_aload_n hx hb dX6_readLaw_0 rfl (lv_at hl 0 rfl) ?_
    refine lv_bipush (v := (104 : Int32)) hx hb dX6_readLaw_1 (by decide) ?_
    refine x_aftv (va_runV (As := [.int (104 : Int32)]) (rest := []) ⟨hx, hb, hml, hown, hts⟩ (c_X6_readSign l g ad H.size V (104 : Int32) _ hw) (cwV 1 hts gX6_readLaw_X6_readSign rfl rfl rfl (by decide +kernel) ⟨Nat.le_of_ble_eq_true rfl, Nat.le_of_ble_eq_true rfl⟩) (x_preV (k := 3) hK hE hI (by decide) (cX_6 (by decide)) rfl) rfl rfl hl.1 rfl (lv_room (Nat.le_of_ble_eq_true rfl)) dX6_readLaw_3 ⟨Nat.zero_le _, Nat.zero_le _⟩) hI (fun V1 H locs hw hI => ?_)
    refine lv_aload_n hx hb dX6_readLaw_6 rfl (lv_at hl 0 rfl) ?_
    refine lv_iconst (v := (1 : Int32)) hx hb dX6_readLaw_7 (by decide) ?_
    refine lv_bipush (v := (9 : Int32)) hx hb dX6_readLaw_8 (by decide) ?_
    refine x_afti (va_runV (As := [.int (1 : Int32), .int (9 : Int32)]) (rest := []) ⟨hx, hb, hml, hown, hts⟩ (c_X6_readNumber l g ad H.size V1 (1 : Int32) (9 : Int32) _ hw) (cwV 2 hts gX6_readLaw_X6_readNumber rfl rfl rfl (by decide +kernel) ⟨Nat.le_of_ble_eq_true rfl, Nat.le_of_ble_eq_true rfl⟩) (x_preV (k := 3) hK hE hI (by decide) (cX_6 (by decide)) rfl) rfl rfl hl.1 rfl (lv_room (Nat.le_of_ble_eq_true rfl)) dX6_readLaw_10 ⟨Nat.zero_le _, Nat.zero_le _⟩) hI (fun r3 V2 H locs hw hI => ?_)
    refine lv_istore_n (lv' := [(2, .int r3), (0, .ref (ad 3)), (1, .ref (ad k1))]) hx hb dX6_readLaw_13 rfl hl (by decide) rfl (fun ls hl => ?_)
    refine lv_aload_n hx hb dX6_readLaw_14 rfl (lv_at hl 1 rfl) ?_
    refine lv_bipush (v := (44 : Int32)) hx hb dX6_readLaw_15 (by decide) ?_
    refine x_aftv (va_runV (As := [.int (44 : Int32)]) (rest := []) ⟨hx, hb, hml, hown, hts⟩ (c_X6_readSign l g ad H.size V2 (44 : Int32) _ hw) (cwV 1 hts gX6_readLaw_X6_readSign rfl rfl rfl (by decide +kernel) ⟨Nat.le_of_ble_eq_true rfl, Nat.le_of_ble_eq_true rfl⟩) (x_preV (k := 3) hK hE hI (by decide) (cX_6 (by decide)) rfl) rfl rfl hl.1 rfl (lv_room (Nat.le_of_ble_eq_true rfl)) dX6_readLaw_17 ⟨Nat.zero_le _, Nat.zero_le _⟩) hI (fun V4 H locs hw hI => ?_)
    refine lv_aload_n hx hb dX6_readLaw_20 rfl (lv_at hl 1 rfl) ?_
    refine lv_iconst (v := (0 : Int32)) hx hb dX6_readLaw_21 (by decide) ?_
    refine lv_iconst (v := (4 : Int32)) hx hb dX6_readLaw_22 (by decide) ?_
    refine x_afti (va_runV (As := [.int (0 : Int32), .int (4 : Int32)]) (rest := []) ⟨hx, hb, hml, hown, hts⟩ (c_X6_readNumber l g ad H.size V4 (0 : Int32) (4 : Int32) _ hw) (cwV 2 hts gX6_readLaw_X6_readNumber rfl rfl rfl (by decide +kernel) ⟨Nat.le_of_ble_eq_true rfl, Nat.le_of_ble_eq_true rfl⟩) (x_preV (k := 3) hK hE hI (by decide) (cX_6 (by decide)) rfl) rfl rfl hl.1 rfl (lv_room (Nat.le_of_ble_eq_true rfl)) dX6_readLaw_23 ⟨Nat.zero_le _, Nat.zero_le _⟩) hI (fun r6 V5 H locs hw hI => ?_)
    refine lv_iconst (v := (2 : Int32)) hx hb dX6_readLaw_26 (by decide) ?_
    refine lv_isub hx hb dX6_readLaw_27 ?_
    refine lv_istore_n (lv' := [(3, .int (r6 - (2 : Int32))), (2, .int r3), (0, .ref (ad 3)), (1, .ref (ad k1))]) hx hb dX6_readLaw_28 rfl hl (by decide) rfl (fun ls hl => ?_)
    refine lv_aload_n hx hb dX6_readLaw_29 rfl (lv_at hl 2 rfl) ?_
    refine lv_bipush (v := (44 : Int32)) hx hb dX6_readLaw_30 (by decide) ?_
    refine x_aftv (va_runV (As := [.int (44 : Int32)]) (rest := []) ⟨hx, hb, hml, hown, hts⟩ (c_X6_readSign l g ad H.size V5 (44 : Int32) _ hw) (cwV 1 hts gX6_readLaw_X6_readSign rfl rfl rfl (by decide +kernel) ⟨Nat.le_of_ble_eq_true rfl, Nat.le_of_ble_eq_true rfl⟩) (x_preV (k := 3) hK hE hI (by decide) (cX_6 (by decide)) rfl) rfl rfl hl.1 rfl (lv_room (Nat.le_of_ble_eq_true rfl)) dX6_readLaw_32 ⟨Nat.zero_le _, Nat.zero_le _⟩) hI (fun V7 H locs hw hI => ?_)
    refine lv_aload_n hx hb dX6_readLaw_35 rfl (lv_at hl 3 rfl) ?_
    refine lv_aload_n hx hb dX6_readLaw_36 rfl (lv_at hl 2 rfl) ?_
    refine lv_iconst (v := (1 : Int32)) hx hb dX6_readLaw_37 (by decide) ?_
    refine lv_iconst (v := (5 : Int32)) hx hb dX6_readLaw_38 (by decide) ?_
    refine x_afti (va_runV (As := [.int (1 : Int32), .int (5 : Int32)]) (rest := [.ref (ad k1)]) ⟨hx, hb, hml, hown, hts⟩ (c_X6_readNumber l g ad H.size V7 (1 : Int32) (5 : Int32) _ hw) (cwV 2 hts gX6_readLaw_X6_readNumber rfl rfl rfl (by decide +kernel) ⟨Nat.le_of_ble_eq_true rfl, Nat.le_of_ble_eq_true rfl⟩) (x_preV (k := 3) hK hE hI (by decide) (cX_6 (by decide)) rfl) rfl rfl hl.1 rfl (lv_room (Nat.le_of_ble_eq_true rfl)) dX6_readLaw_39 ⟨Nat.zero_le _, Nat.zero_le _⟩) hI (fun r9 V8 H locs hw hI => ?_)
    refine xp3_6 (k := k1) hx hb hts hin3 hown hK hI hk1 hw_0 dX6_readLaw_42 (fun V10 H locs eV10 hI => ?_)
    replace hw := hw V10 eV10
    refine lv_aload_n hx hb dX6_readLaw_45 rfl (lv_at hl 2 rfl) ?_
    refine lv_bipush (v := (44 : Int32)) hx hb dX6_readLaw_46 (by decide) ?_
    refine x_aftv (va_runV (As := [.int (44 : Int32)]) (rest := []) ⟨hx, hb, hml, hown, hts⟩ (c_X6_readSign l g ad H.size V10 (44 : Int32) _ hw) (cwV 1 hts gX6_readLaw_X6_readSign rfl rfl rfl (by decide +kernel) ⟨Nat.le_of_ble_eq_true rfl, Nat.le_of_ble_eq_true rfl⟩) (x_preV (k := 3) hK hE hI (by decide) (cX_6 (by decide)) rfl) rfl rfl hl.1 rfl (lv_room (Nat.le_of_ble_eq_true rfl)) dX6_readLaw_48 ⟨Nat.zero_le _, Nat.zero_le _⟩) hI (fun V11 H locs hw hI => ?_)
    refine lv_aload_n hx hb dX6_readLaw_51 rfl (lv_at hl 3 rfl) ?_
    refine lv_aload_n hx hb dX6_readLaw_52 rfl (lv_at hl 2 rfl) ?_
    refine lv_iconst (v := (0 : Int32)) hx hb dX6_readLaw_53 (by decide) ?_
    refine lv_iconst (v := (3 : Int32)) hx hb dX6_readLaw_54 (by decide) ?_
    refine x_afti (va_runV (As := [.int (0 : Int32), .int (3 : Int32)]) (rest := [.ref (ad k1)]) ⟨hx, hb, hml, hown, hts⟩ (c_X6_readNumber l g ad H.size V11 (0 : Int32) (3 : Int32) _ hw) (cwV 2 hts gX6_readLaw_X6_readNumber rfl rfl rfl (by decide +kernel) ⟨Nat.le_of_ble_eq_true rfl, Nat.le_of_ble_eq_true rfl⟩) (x_preV (k := 3) hK hE hI (by decide) (cX_6 (by decide)) rfl) rfl rfl hl.1 rfl (lv_room (Nat.le_of_ble_eq_true rfl)) dX6_readLaw_55 ⟨Nat.zero_le _, Nat.zero_le _⟩) hI (fun r13 V12 H locs hw hI => ?_)
    refine xp3_7 (k := k1) hx hb hts hin3 hown hK hI hk1 hw_1 dX6_readLaw_58 (fun V14 H locs eV14 hI => ?_)
    replace hw := hw V14 eV14
    refine lv_aload_n hx hb dX6_readLaw_61 rfl (lv_at hl 2 rfl) ?_
    refine lv_bipush (v := (59 : Int32)) hx hb dX6_readLaw_62 (by decide) ?_
    refine x_aftv (va_runV (As := [.int (59 : Int32)]) (rest := []) ⟨hx, hb, hml, hown, hts⟩ (c_X6_readSign l g ad H.size V14 (59 : Int32) _ hw) (cwV 1 hts gX6_readLaw_X6_readSign rfl rfl rfl (by decide +kernel) ⟨Nat.le_of_ble_eq_true rfl, Nat.le_of_ble_eq_true rfl⟩) (x_preV (k := 3) hK hE hI (by decide) (cX_6 (by decide)) rfl) rfl rfl hl.1 rfl (lv_room (Nat.le_of_ble_eq_true rfl)) dX6_readLaw_64 ⟨Nat.zero_le _, Nat.zero_le _⟩) hI (fun V15 H locs hw hI => ?_)
    refine lv_aload_n hx hb dX6_readLaw_67 rfl (lv_at hl 3 rfl) ?_
    refine xg3_3 (k := k1) hx hb hts hin3 hown hK hI hk1 hw_2 dX6_readLaw_68 ?_
    refine lv_iconst (v := (0 : Int32)) hx hb dX6_readLaw_71 (by decide) ?_
    refine lv_iload_n hx hb dX6_readLaw_72 rfl (lv_at hl 1 rfl) ?_
    refine lv_iload_n hx hb dX6_readLaw_73 rfl (lv_at hl 0 rfl) ?_
    refine x_aftv (va_runV (As := [.int (0 : Int32), .int r3, .int (r6 - (2 : Int32))]) (rest := []) ⟨hx, hb, hml, hown, hts⟩ (c_X2_stand l g ad H.size V15 (k1 + 4) (0 : Int32) r3 (r6 - (2 : Int32)) (kX_3s hk1).2.2.2.2.2.2 _ hw) (cwV 3 hts gX6_readLaw_X2_stand rfl rfl rfl (by decide +kernel) ⟨Nat.le_of_ble_eq_true rfl, Nat.le_of_ble_eq_true rfl⟩) (x_preV (k := k1 + 4) hK hE hI (kX_lt (kX_3s hk1).2.2.2.2.2.2 (by decide)) (cX_2 (kX_3s hk1).2.2.2.2.2.2) rfl) rfl rfl hl.1 rfl (lv_room (Nat.le_of_ble_eq_true rfl)) dX6_readLaw_74 ⟨Nat.zero_le _, Nat.zero_le _⟩) hI (fun V16 H locs hw hI => ?_)
    refine lv_aload_n hx hb dX6_readLaw_77 rfl (lv_at hl 3 rfl) ?_
    refine lv_iconst (v := (0 : Int32)) hx hb dX6_readLaw_78 (by decide) ?_
    refine xp3_8 (k := k1) hx hb hts hin3 hown hK hI hk1 hw_3 dX6_readLaw_79 (fun V17 H locs eV17 hI => ?_)
    replace hw := hw V17 eV17
    exact W.vret hx hb hr (x_retv hI hw) hI.2.2.2.2 dX6_readLaw_82
  exact hgo s.heap [] hI
def rm_X6_lookUp : Room := { frames := 0, cells := 0, slots := 0, locals := 0 }
set_option maxHeartbeats 4000000 in
set_option maxRecDepth 100000 in
theorem c_X6_lookUp (l : Launch) (g : GP) (ad : Nat → Nat) (sz : Nat) (V : VT) (q1 : Nat) (hq1 : q1 < 2) (K : Int32 → VT → Prop) (hw : wp_X6_lookUp V q1 K) : Met l yX6_lookUp wsX6_lookUp rm_X6_lookUp (va_Pc [.ref (ad 3), .ref (stA g q1)] (WPre 76 (cX g ad) ad g V sz)) (va_Qi K (WPost 76 (cX g ad) ad g) (AW ad 76 sz)) 0 0 (AW ad 76 sz) := by
  refine Met.ofW (cc := cX6_lookUp) (maxL := 3) (ret := (some .int)) (by decide) rfl ?_
  intro p e s m args below meth c s₁ B hml hv
  obtain ⟨ha, hv⟩ := hv
  obtain rfl := hv.1
  have hI : WI g 76 (cX g ad) ad V s.heap s.heap [] := WI.start hv
  have hK := hv.2.2.1
  have hE := hv.2.2.2.2
  have hx := B.exec
  have hb := B.bytes
  have hr := B.returns
  have hts := atoms_spec (ws := wsX6_lookUp) B.pre
  have hown : s.vm.findClass RX6 = some m.cls := findClass_of_methodNamed B.named
  have hlocks := B.notSynchronized
  have hw_0 := hts (.fieldLink RX6 19 "HoopLane$Tape" "at" "I") (by decide +kernel)
  have hw_1 := hts (.fieldLink RX6 15 "HoopLane$Tape" "size" "I") (by decide +kernel)
  have hw_2 := hts (.fieldLink RX6 9 "HoopLane$Tape" "bytes" "[I") (by decide +kernel)
  have hin6 : ∀ w ∈ wsX60, w ∈ wsX6_lookUp := by decide +kernel
  have hl := lv_entry ([.ref (ad 3), .ref (stA g q1)]) (n := 3) (Nat.le_of_ble_eq_true rfl)
  have hent : entryFrame m args 3 = F0 m 0 ((lg_sl ([.ref (ad 3), .ref (stA g q1)]) ++ List.replicate (3 - (lg_sl ([.ref (ad 3), .ref (stA g q1)])).length) Slot.unset).toArray) [] := by rw [ha, lg_entry_eq]
  rw [hent]
  generalize (lg_sl ([.ref (ad 3), .ref (stA g q1)]) ++ List.replicate (3 - (lg_sl ([.ref (ad 3), .ref (stA g q1)])).length) Slot.unset).toArray = ls at hl ⊢
  have hl : lv_has ls 3 [(0, .ref (ad 3)), (1, .ref (stA g q1))] := hl
  obtain ⟨H, hH⟩ : ∃ H : Heap, H = s.heap := ⟨_, rfl⟩
  have hL2 : ∀ (n2 : Nat) (V : VT) (H : Heap) (locs : List Loc) (ls : Array Slot) (q1 : Nat) (x2 : Int32), q1 < 2 → WI g 76 (cX g ad) ad V s.heap H locs → lv_has ls 3 [(0, .ref (ad 3)), (1, .ref (stA g q1)), (2, .int x2)] → wp_X6_lookUp_L2 K  n2 V q1 x2 → W p l e (headSpec wsX6_lookUp rm_X6_lookUp).room s m args below meth c H locs 0 0 (MQ below (va_Qi K (WPost 76 (cX g ad) ad g) (AW ad 76 s.heap.size)) args s 0 0 (AW ad 76 s.heap.size)) (F0 m 2 ls []) := by
    intro n2
    induction n2 with
    | zero => intro V H locs ls q1 x2 hq1 hI hl hw; exact False.elim hw
    | succ n2 ihL2 =>
      intro V H locs ls q1 x2 hq1 hI hl hw
      refine lv_iload_n hx hb dX6_lookUp_2 rfl (lv_at hl 2 rfl) ?_
      refine lv_aload_n hx hb dX6_lookUp_3 rfl (lv_at hl 1 rfl) ?_
      refine va_tlen hx hb (EX_tc hE hq1) hI.2.2 (v := nI (stN q1)) rfl dX6_lookUp_4 ?_
      refine lv_icmp_ge (tgt := 42) hx hb dX6_lookUp_5 (by decide) (fun c1 => ?_) (fun c1 => ?_)
      · replace hw := hw.1 c1
        refine lv_iconst (v := (-1 : Int32)) hx hb dX6_lookUp_42 (by decide) ?_
        exact W.iret (v := (-1 : Int32)) hx hb hr (x_reti hI hw) hI.2.2.2.2 dX6_lookUp_43
      · replace hw := hw.2 c1
        refine lv_aload_n hx hb dX6_lookUp_8 rfl (lv_at hl 0 rfl) ?_
        refine xg6_2 (k := 3) hx hb hts hin6 hown hK hI (by decide) hw_0 dX6_lookUp_9 ?_
        refine lv_aload_n hx hb dX6_lookUp_12 rfl (lv_at hl 0 rfl) ?_
        refine xg6_1 (k := 3) hx hb hts hin6 hown hK hI (by decide) hw_1 dX6_lookUp_13 ?_
        refine lv_icmp_ge (tgt := 42) hx hb dX6_lookUp_16 (by decide) (fun c2 => ?_) (fun c2 => ?_)
        · replace hw := hw.1 c2
          refine lv_iconst (v := (-1 : Int32)) hx hb dX6_lookUp_42 (by decide) ?_
          exact W.iret (v := (-1 : Int32)) hx hb hr (x_reti hI hw) hI.2.2.2.2 dX6_lookUp_43
        · replace hw := hw.2 c2
          refine lv_aload_n hx hb dX6_lookUp_19 rfl (lv_at hl 0 rfl) ?_
          refine xg6_0 (k := 3) hx hb hts hin6 hown hK hI (by decide) hw_2 dX6_lookUp_20 ?_
          refine lv_aload_n hx hb dX6_lookUp_23 rfl (lv_at hl 0 rfl) ?_
          refine xg6_2 (k := 3) hx hb hts hin6 hown hK hI (by decide) hw_0 dX6_lookUp_24 ?_
          obtain ⟨h3, hw⟩ := hw
          refine x_iald (k := 4) hx hb hK hI (by decide) (cX_9 (by decide) (by decide)) h3 dX6_lookUp_27 ?_
          refine lv_aload_n hx hb dX6_lookUp_28 rfl (lv_at hl 1 rfl) ?_
          refine lv_iload_n hx hb dX6_lookUp_29 rfl (lv_at hl 2 rfl) ?_
          obtain ⟨h4, hw⟩ := hw
          refine va_tc hx hb (EX_tc hE hq1) hI.2.2 (v := .int (stF q1 (x2).toNatClampNeg)) h4 rfl dX6_lookUp_30 ?_
          refine lv_icmp_ne (tgt := 36) hx hb dX6_lookUp_31 (by decide) (fun c5 => ?_) (fun c5 => ?_)
          · replace hw := hw.1 c5
            refine lv_iinc (v := (x2 + (1 : Int32))) (lv' := [(2, .int (x2 + (1 : Int32))), (0, .ref (ad 3)), (1, .ref (stA g q1))]) hx hb dX6_lookUp_36 hl (k := 2) rfl rfl (by decide) rfl (fun ls hl => ?_)
            refine lv_goto (tgt := 2) hx hb dX6_lookUp_39 (by decide) ?_
            exact ihL2 V H locs ls q1 (x2 + (1 : Int32)) hq1 hI (lv_sub hl [1, 2, 0] rfl) hw
          · replace hw := hw.2 c5
            refine lv_iload_n hx hb dX6_lookUp_34 rfl (lv_at hl 2 rfl) ?_
            exact W.iret (v := x2) hx hb hr (x_reti hI hw) hI.2.2.2.2 dX6_lookUp_35
  have hgo : ∀ (H : Heap) (locs : List Loc), WI g 76 (cX g ad) ad V s.heap H locs → W p l e (headSpec wsX6_lookUp rm_X6_lookUp).room s m args below meth c H locs 0 0 (MQ below (va_Qi K (WPost 76 (cX g ad) ad g) (AW ad 76 s.heap.size)) args s 0 0 (AW ad 76 s.heap.size)) (F0 m 0 ls []) := by
    intro H locs hI
    refine lv_iconst (v := (0 : Int32)) hx hb dX6_lookUp_0 (by decide) ?_
    refine lv_istore_n (lv' := [(2, .int (0 : Int32)), (0, .ref (ad 3)), (1, .ref (stA g q1))]) hx hb dX6_lookUp_1 rfl hl (by decide) rfl (fun ls hl => ?_)
    obtain ⟨n2, hw⟩ := hw
    exact hL2 n2 V H locs ls q1 (0 : Int32) hq1 hI (lv_sub hl [1, 2, 0] rfl) hw
  exact hgo s.heap [] hI
def rm_X6_readGrounds : Room := { frames := 2, cells := 0, slots := 0, locals := 42 }
set_option maxHeartbeats 4000000 in
set_option maxRecDepth 100000 in
theorem c_X6_readGrounds (l : Launch) (g : GP) (ad : Nat → Nat) (sz : Nat) (V : VT) (k1 : Nat) (hk1 : kX k1 = 3) (K : VT → Prop) (hw : wp_X6_readGrounds V k1 K) : Met l yX6_readGrounds wsX6_readGrounds rm_X6_readGrounds (va_Pc [.ref (ad 3), .ref (ad k1)] (WPre 76 (cX g ad) ad g V sz)) (va_Qv K (WPost 76 (cX g ad) ad g) (AW ad 76 sz)) 0 0 (AW ad 76 sz) := by
  refine Met.ofW (cc := cX6_readGrounds) (maxL := 3) (ret := none) (by decide) rfl ?_
  intro p e s m args below meth c s₁ B hml hv
  obtain ⟨ha, hv⟩ := hv
  obtain rfl := hv.1
  have hI : WI g 76 (cX g ad) ad V s.heap s.heap [] := WI.start hv
  have hK := hv.2.2.1
  have hE := hv.2.2.2.2
  have hx := B.exec
  have hb := B.bytes
  have hr := B.returns
  have hts := atoms_spec (ws := wsX6_readGrounds) B.pre
  have hown : s.vm.findClass RX6 = some m.cls := findClass_of_methodNamed B.named
  have hlocks := B.notSynchronized
  have hw_0 := hts (.fieldLink RX6 64 "HoopLane$Lane" "yards" "I") (by decide +kernel)
  have hw_1 := hts (.fieldLink RX6 67 "HoopLane$Tape" "GROUNDS" "[C") (by decide +kernel)
  have hw_2 := hts (.fieldLink RX6 22 "HoopLane$Tape" "fault" "I") (by decide +kernel)
  have hw_3 := hts (.fieldLink RX6 75 "HoopLane$Lane" "grounds" "[I") (by decide +kernel)
  have hw_4 := hts (.fieldLink RX6 19 "HoopLane$Tape" "at" "I") (by decide +kernel)
  have hin3 : ∀ w ∈ wsX30, w ∈ wsX6_readGrounds := by decide +kernel
  have hin6 : ∀ w ∈ wsX60, w ∈ wsX6_readGrounds := by decide +kernel
  have hl := lv_entry ([.ref (ad 3), .ref (ad k1)]) (n := 3) (Nat.le_of_ble_eq_true rfl)
  have hent : entryFrame m args 3 = F0 m 0 ((lg_sl ([.ref (ad 3), .ref (ad k1)]) ++ List.replicate (3 - (lg_sl ([.ref (ad 3), .ref (ad k1)])).length) Slot.unset).toArray) [] := by rw [ha, lg_entry_eq]
  rw [hent]
  generalize (lg_sl ([.ref (ad 3), .ref (ad k1)]) ++ List.replicate (3 - (lg_sl ([.ref (ad 3), .ref (ad k1)])).length) Slot.unset).toArray = ls at hl ⊢
  have hl : lv_has ls 3 [(0, .ref (ad 3)), (1, .ref (ad k1))] := hl
  obtain ⟨H, hH⟩ : ∃ H : Heap, H = s.heap := ⟨_, rfl⟩
  have hb92 : ∀ (V : VT) (H : Heap) (locs : List Loc) (ls : Array Slot) , WI g 76 (cX g ad) ad V s.heap H locs → lv_has ls 3 [(0, .ref (ad 3))] → wp_X6_readGrounds_b92 K  V  → W p l e (headSpec wsX6_readGrounds rm_X6_readGrounds).room s m args below meth c H locs 0 0 (MQ below (va_Qv K (WPost 76 (cX g ad) ad g) (AW ad 76 s.heap.size)) args s 0 0 (AW ad 76 s.heap.size)) (F0 m 92 ls []) := by
    intro V H locs ls   hI hl hw
    refine lv_aload_n hx hb dX6_readGrounds_92 rfl (lv_at hl 0 rfl) ?_
    refine lv_bipush (v := (59 : Int32)) hx hb dX6_readGrounds_93 (by decide) ?_
    refine x_aftv (va_runV (As := [.int (59 : Int32)]) (rest := []) ⟨hx, hb, hml, hown, hts⟩ (c_X6_readSign l g ad H.size V (59 : Int32) _ hw) (cwV 1 hts gX6_readGrounds_X6_readSign rfl rfl rfl (by decide +kernel) ⟨Nat.le_of_ble_eq_true rfl, Nat.le_of_ble_eq_true rfl⟩) (x_preV (k := 3) hK hE hI (by decide) (cX_6 (by decide)) rfl) rfl rfl hl.1 rfl (lv_room (Nat.le_of_ble_eq_true rfl)) dX6_readGrounds_95 ⟨Nat.zero_le _, Nat.zero_le _⟩) hI (fun V16 H locs hw hI => ?_)
    exact W.vret hx hb hr (x_retv hI hw) hI.2.2.2.2 dX6_readGrounds_98
  have hb80 : ∀ (V : VT) (H : Heap) (locs : List Loc) (ls : Array Slot) (k1 : Nat), kX k1 = 3 → WI g 76 (cX g ad) ad V s.heap H locs → lv_has ls 3 [(0, .ref (ad 3)), (1, .ref (ad k1))] → wp_X6_readGrounds_b80 K  V k1 → W p l e (headSpec wsX6_readGrounds rm_X6_readGrounds).room s m args below meth c H locs 0 0 (MQ below (va_Qv K (WPost 76 (cX g ad) ad g) (AW ad 76 s.heap.size)) args s 0 0 (AW ad 76 s.heap.size)) (F0 m 80 ls []) := by
    intro V H locs ls k1 hk1 hI hl hw
    refine lv_aload_n hx hb dX6_readGrounds_80 rfl (lv_at hl 1 rfl) ?_
    refine xg3_4 (k := k1) hx hb hts hin3 hown hK hI hk1 hw_0 dX6_readGrounds_81 ?_
    refine lv_if_ne (tgt := 92) hx hb dX6_readGrounds_84 (by decide) (fun c14 => ?_) (fun c14 => ?_)
    · replace hw := hw.1 c14
      exact hb92 V H locs ls  hI (lv_sub hl [0] rfl) hw
    · replace hw := hw.2 c14
      refine lv_aload_n hx hb dX6_readGrounds_87 rfl (lv_at hl 0 rfl) ?_
      refine lv_iconst (v := (1 : Int32)) hx hb dX6_readGrounds_88 (by decide) ?_
      refine x_aftv (va_runV (As := [.int (1 : Int32)]) (rest := []) ⟨hx, hb, hml, hown, hts⟩ (c_X6_fail l g ad H.size V (1 : Int32) _ hw) (cwV 1 hts gX6_readGrounds_X6_fail rfl rfl rfl (by decide +kernel) ⟨Nat.le_of_ble_eq_true rfl, Nat.le_of_ble_eq_true rfl⟩) (x_preV (k := 3) hK hE hI (by decide) (cX_6 (by decide)) rfl) rfl rfl hl.1 rfl (lv_room (Nat.le_of_ble_eq_true rfl)) dX6_readGrounds_89 ⟨Nat.zero_le _, Nat.zero_le _⟩) hI (fun V15 H locs hw hI => ?_)
      exact hb92 V15 H locs ls  hI (lv_sub hl [0] rfl) hw
  have hL19 : ∀ (n19 : Nat) (V : VT) (H : Heap) (locs : List Loc) (ls : Array Slot) (k1 : Nat) (x2 : Int32), kX k1 = 3 → WI g 76 (cX g ad) ad V s.heap H locs → lv_has ls 3 [(0, .ref (ad 3)), (1, .ref (ad k1)), (2, .int x2)] → wp_X6_readGrounds_L19 K  n19 V k1 x2 → W p l e (headSpec wsX6_readGrounds rm_X6_readGrounds).room s m args below meth c H locs 0 0 (MQ below (va_Qv K (WPost 76 (cX g ad) ad g) (AW ad 76 s.heap.size)) args s 0 0 (AW ad 76 s.heap.size)) (F0 m 19 ls []) := by
    intro n19
    induction n19 with
    | zero => intro V H locs ls k1 x2 hk1 hI hl hw; exact False.elim hw
    | succ n19 ihL19 =>
      intro V H locs ls k1 x2 hk1 hI hl hw
      refine lv_aload_n hx hb dX6_readGrounds_19 rfl (lv_at hl 0 rfl) ?_
      refine xg6_3 (k := 3) hx hb hts hin6 hown hK hI (by decide) hw_2 dX6_readGrounds_20 ?_
      refine lv_if_ne (tgt := 80) hx hb dX6_readGrounds_23 (by decide) (fun c5 => ?_) (fun c5 => ?_)
      · replace hw := hw.1 c5
        exact hb80 V H locs ls k1 hk1 hI (lv_sub hl [0, 1] rfl) hw
      · replace hw := hw.2 c5
        refine lv_iload_n hx hb dX6_readGrounds_26 rfl (lv_at hl 2 rfl) ?_
        refine lv_if_lt (tgt := 80) hx hb dX6_readGrounds_27 (by decide) (fun c6 => ?_) (fun c6 => ?_)
        · replace hw := hw.1 c6
          exact hb80 V H locs ls k1 hk1 hI (lv_sub hl [0, 1] rfl) hw
        · replace hw := hw.2 c6
          refine lv_aload_n hx hb dX6_readGrounds_30 rfl (lv_at hl 1 rfl) ?_
          refine xg3_4 (k := k1) hx hb hts hin3 hown hK hI hk1 hw_0 dX6_readGrounds_31 ?_
          refine lv_bipush (v := (24 : Int32)) hx hb dX6_readGrounds_34 (by decide) ?_
          refine lv_icmp_ge (tgt := 80) hx hb dX6_readGrounds_36 (by decide) (fun c7 => ?_) (fun c7 => ?_)
          · replace hw := hw.1 c7
            exact hb80 V H locs ls k1 hk1 hI (lv_sub hl [0, 1] rfl) hw
          · replace hw := hw.2 c7
            refine lv_aload_n hx hb dX6_readGrounds_39 rfl (lv_at hl 1 rfl) ?_
            refine xg3_0 (k := k1) hx hb hts hin3 hown hK hI hk1 hw_3 dX6_readGrounds_40 ?_
            refine lv_aload_n hx hb dX6_readGrounds_43 rfl (lv_at hl 1 rfl) ?_
            refine xg3_4 (k := k1) hx hb hts hin3 hown hK hI hk1 hw_0 dX6_readGrounds_44 ?_
            refine lv_iload_n hx hb dX6_readGrounds_47 rfl (lv_at hl 2 rfl) ?_
            obtain ⟨h8, hw⟩ := hw
            refine x_iastV (k := k1 + 1) hx hb hK hI (cX_loc g ad) (kX_lt (kX_3s hk1).1 (by decide)) (fun _ => cX_9 (kX_3s hk1).1 (kX_3s hk1).2.1) h8 dX6_readGrounds_48 (fun V9 H locs eV9 hI => ?_)
            replace hw := hw V9 eV9
            refine lv_aload_n hx hb dX6_readGrounds_49 rfl (lv_at hl 1 rfl) ?_
            refine lv_dup hx hb dX6_readGrounds_50 rfl ?_
            refine xg3_4 (k := k1) hx hb hts hin3 hown hK hI hk1 hw_0 dX6_readGrounds_51 ?_
            refine lv_iconst (v := (1 : Int32)) hx hb dX6_readGrounds_54 (by decide) ?_
            refine lv_iadd hx hb dX6_readGrounds_55 ?_
            refine xp3_4 (k := k1) hx hb hts hin3 hown hK hI hk1 hw_0 dX6_readGrounds_56 (fun V10 H locs eV10 hI => ?_)
            replace hw := hw V10 eV10
            refine lv_aload_n hx hb dX6_readGrounds_59 rfl (lv_at hl 0 rfl) ?_
            refine lv_dup hx hb dX6_readGrounds_60 rfl ?_
            refine xg6_2 (k := 3) hx hb hts hin6 hown hK hI (by decide) hw_4 dX6_readGrounds_61 ?_
            refine lv_iconst (v := (1 : Int32)) hx hb dX6_readGrounds_64 (by decide) ?_
            refine lv_iadd hx hb dX6_readGrounds_65 ?_
            refine xp6_2 (k := 3) hx hb hts hin6 hown hK hI (by decide) hw_4 dX6_readGrounds_66 (fun V11 H locs eV11 hI => ?_)
            replace hw := hw V11 eV11
            refine lv_aload_n hx hb dX6_readGrounds_69 rfl (lv_at hl 0 rfl) ?_
            refine va_gets hx hb hE.2.1.1 hI.2.2 hown hw_1 (fun _ h => h) dX6_readGrounds_70 ?_
            refine x_afti (va_runV (As := [.ref (stA g 0)]) (rest := []) ⟨hx, hb, hml, hown, hts⟩ (c_X6_lookUp l g ad H.size V11 0 (by decide) _ hw) (cwV 1 hts gX6_readGrounds_X6_lookUp rfl rfl rfl (by decide +kernel) ⟨Nat.le_of_ble_eq_true rfl, Nat.le_of_ble_eq_true rfl⟩) (x_preV (k := 3) hK hE hI (by decide) (cX_6 (by decide)) rfl) rfl rfl hl.1 rfl (lv_room (Nat.le_of_ble_eq_true rfl)) dX6_readGrounds_73 ⟨Nat.zero_le _, Nat.zero_le _⟩) hI (fun r13 V12 H locs hw hI => ?_)
            refine lv_istore_n (lv' := [(2, .int r13), (0, .ref (ad 3)), (1, .ref (ad k1))]) hx hb dX6_readGrounds_76 rfl hl (by decide) rfl (fun ls hl => ?_)
            refine lv_goto (tgt := 19) hx hb dX6_readGrounds_77 (by decide) ?_
            exact ihL19 V12 H locs ls k1 r13 hk1 hI (lv_sub hl [1, 2, 0] rfl) hw
  have hgo : ∀ (H : Heap) (locs : List Loc), WI g 76 (cX g ad) ad V s.heap H locs → W p l e (headSpec wsX6_readGrounds rm_X6_readGrounds).room s m args below meth c H locs 0 0 (MQ below (va_Qv K (WPost 76 (cX g ad) ad g) (AW ad 76 s.heap.size)) args s 0 0 (AW ad 76 s.heap.size)) (F0 m 0 ls []) := by
    intro H locs hI
    refine lv_aload_n hx hb dX6_readGrounds_0 rfl (lv_at hl 0 rfl) ?_
    refine lv_bipush (v := (103 : Int32)) hx hb dX6_readGrounds_1 (by decide) ?_
    refine x_aftv (va_runV (As := [.int (103 : Int32)]) (rest := []) ⟨hx, hb, hml, hown, hts⟩ (c_X6_readSign l g ad H.size V (103 : Int32) _ hw) (cwV 1 hts gX6_readGrounds_X6_readSign rfl rfl rfl (by decide +kernel) ⟨Nat.le_of_ble_eq_true rfl, Nat.le_of_ble_eq_true rfl⟩) (x_preV (k := 3) hK hE hI (by decide) (cX_6 (by decide)) rfl) rfl rfl hl.1 rfl (lv_room (Nat.le_of_ble_eq_true rfl)) dX6_readGrounds_3 ⟨Nat.zero_le _, Nat.zero_le _⟩) hI (fun V1 H locs hw hI => ?_)
    refine lv_aload_n hx hb dX6_readGrounds_6 rfl (lv_at hl 1 rfl) ?_
    refine lv_iconst (v := (0 : Int32)) hx hb dX6_readGrounds_7 (by decide) ?_
    refine xp3_4 (k := k1) hx hb hts hin3 hown hK hI hk1 hw_0 dX6_readGrounds_8 (fun V2 H locs eV2 hI => ?_)
    replace hw := hw V2 eV2
    refine lv_aload_n hx hb dX6_readGrounds_11 rfl (lv_at hl 0 rfl) ?_
    refine va_gets hx hb hE.2.1.1 hI.2.2 hown hw_1 (fun _ h => h) dX6_readGrounds_12 ?_
    refine x_afti (va_runV (As := [.ref (stA g 0)]) (rest := []) ⟨hx, hb, hml, hown, hts⟩ (c_X6_lookUp l g ad H.size V2 0 (by decide) _ hw) (cwV 1 hts gX6_readGrounds_X6_lookUp rfl rfl rfl (by decide +kernel) ⟨Nat.le_of_ble_eq_true rfl, Nat.le_of_ble_eq_true rfl⟩) (x_preV (k := 3) hK hE hI (by decide) (cX_6 (by decide)) rfl) rfl rfl hl.1 rfl (lv_room (Nat.le_of_ble_eq_true rfl)) dX6_readGrounds_15 ⟨Nat.zero_le _, Nat.zero_le _⟩) hI (fun r4 V3 H locs hw hI => ?_)
    refine lv_istore_n (lv' := [(2, .int r4), (0, .ref (ad 3)), (1, .ref (ad k1))]) hx hb dX6_readGrounds_18 rfl hl (by decide) rfl (fun ls hl => ?_)
    obtain ⟨n19, hw⟩ := hw
    exact hL19 n19 V3 H locs ls k1 r4 hk1 hI (lv_sub hl [1, 2, 0] rfl) hw
  exact hgo s.heap [] hI
def rm_X6_readTap : Room := { frames := 2, cells := 0, slots := 0, locals := 46 }
set_option maxHeartbeats 4000000 in
set_option maxRecDepth 100000 in
theorem c_X6_readTap (l : Launch) (g : GP) (ad : Nat → Nat) (sz : Nat) (V : VT) (k1 : Nat) (hk1 : kX k1 = 3) (K : VT → Prop) (hw : wp_X6_readTap V k1 K) : Met l yX6_readTap wsX6_readTap rm_X6_readTap (va_Pc [.ref (ad 3), .ref (ad k1)] (WPre 76 (cX g ad) ad g V sz)) (va_Qv K (WPost 76 (cX g ad) ad g) (AW ad 76 sz)) 0 0 (AW ad 76 sz) := by
  refine Met.ofW (cc := cX6_readTap) (maxL := 3) (ret := none) (by decide) rfl ?_
  intro p e s m args below meth c s₁ B hml hv
  obtain ⟨ha, hv⟩ := hv
  obtain rfl := hv.1
  have hI : WI g 76 (cX g ad) ad V s.heap s.heap [] := WI.start hv
  have hK := hv.2.2.1
  have hE := hv.2.2.2.2
  have hx := B.exec
  have hb := B.bytes
  have hr := B.returns
  have hts := atoms_spec (ws := wsX6_readTap) B.pre
  have hown : s.vm.findClass RX6 = some m.cls := findClass_of_methodNamed B.named
  have hlocks := B.notSynchronized
  have hw_0 := hts (.fieldLink RX6 88 "HoopLane$Tape" "SORTS" "[C") (by decide +kernel)
  have hw_1 := hts (.fieldLink RX6 82 "HoopLane$Lane" "taps" "I") (by decide +kernel)
  have hw_2 := hts (.fieldLink RX6 19 "HoopLane$Tape" "at" "I") (by decide +kernel)
  have hw_3 := hts (.fieldLink RX6 91 "HoopLane$Lane" "kinds" "[I") (by decide +kernel)
  have hw_4 := hts (.fieldLink RX6 94 "HoopLane$Lane" "forces" "[I") (by decide +kernel)
  have hin3 : ∀ w ∈ wsX30, w ∈ wsX6_readTap := by decide +kernel
  have hin6 : ∀ w ∈ wsX60, w ∈ wsX6_readTap := by decide +kernel
  have hl := lv_entry ([.ref (ad 3), .ref (ad k1)]) (n := 3) (Nat.le_of_ble_eq_true rfl)
  have hent : entryFrame m args 3 = F0 m 0 ((lg_sl ([.ref (ad 3), .ref (ad k1)]) ++ List.replicate (3 - (lg_sl ([.ref (ad 3), .ref (ad k1)])).length) Slot.unset).toArray) [] := by rw [ha, lg_entry_eq]
  rw [hent]
  generalize (lg_sl ([.ref (ad 3), .ref (ad k1)]) ++ List.replicate (3 - (lg_sl ([.ref (ad 3), .ref (ad k1)])).length) Slot.unset).toArray = ls at hl ⊢
  have hl : lv_has ls 3 [(0, .ref (ad 3)), (1, .ref (ad k1))] := hl
  obtain ⟨H, hH⟩ : ∃ H : Heap, H = s.heap := ⟨_, rfl⟩
  have hgo : ∀ (H : Heap) (locs : List Loc), WI g 76 (cX g ad) ad V s.heap H locs → W p l e (headSpec wsX6_readTap rm_X6_readTap).room s m args below meth c H locs 0 0 (MQ below (va_Qv K (WPost 76 (cX g ad) ad g) (AW ad 76 s.heap.size)) args s 0 0 (AW ad 76 s.heap.size)) (F0 m 0 ls []) := by
    intro H locs hI
    refine lv_aload_n hx hb dX6_readTap_0 rfl (lv_at hl 0 rfl) ?_
    refine va_gets hx hb hE.2.2.1.1 hI.2.2 hown hw_0 (fun _ h => h) dX6_readTap_1 ?_
    refine x_afti (va_runV (As := [.ref (stA g 1)]) (rest := []) ⟨hx, hb, hml, hown, hts⟩ (c_X6_lookUp l g ad H.size V 1 (by decide) _ hw) (cwV 1 hts gX6_readTap_X6_lookUp rfl rfl rfl (by decide +kernel) ⟨Nat.le_of_ble_eq_true rfl, Nat.le_of_ble_eq_true rfl⟩) (x_preV (k := 3) hK hE hI (by decide) (cX_6 (by decide)) rfl) rfl rfl hl.1 rfl (lv_room (Nat.le_of_ble_eq_true rfl)) dX6_readTap_4 ⟨Nat.zero_le _, Nat.zero_le _⟩) hI (fun r2 V1 H locs hw hI => ?_)
    refine lv_istore_n (lv' := [(2, .int r2), (0, .ref (ad 3)), (1, .ref (ad k1))]) hx hb dX6_readTap_7 rfl hl (by decide) rfl (fun ls hl => ?_)
    refine lv_iload_n hx hb dX6_readTap_8 rfl (lv_at hl 0 rfl) ?_
    refine lv_if_ge (tgt := 18) hx hb dX6_readTap_9 (by decide) (fun c3 => ?_) (fun c3 => ?_)
    · replace hw := hw.1 c3
      refine lv_aload_n hx hb dX6_readTap_18 rfl (lv_at hl 2 rfl) ?_
      refine xg3_5 (k := k1) hx hb hts hin3 hown hK hI hk1 hw_1 dX6_readTap_19 ?_
      refine lv_iconst (v := (5 : Int32)) hx hb dX6_readTap_22 (by decide) ?_
      refine lv_icmp_lt (tgt := 32) hx hb dX6_readTap_23 (by decide) (fun c4 => ?_) (fun c4 => ?_)
      · replace hw := hw.1 c4
        refine lv_aload_n hx hb dX6_readTap_32 rfl (lv_at hl 1 rfl) ?_
        refine lv_dup hx hb dX6_readTap_33 rfl ?_
        refine xg6_2 (k := 3) hx hb hts hin6 hown hK hI (by decide) hw_2 dX6_readTap_34 ?_
        refine lv_iconst (v := (1 : Int32)) hx hb dX6_readTap_37 (by decide) ?_
        refine lv_iadd hx hb dX6_readTap_38 ?_
        refine xp6_2 (k := 3) hx hb hts hin6 hown hK hI (by decide) hw_2 dX6_readTap_39 (fun V5 H locs eV5 hI => ?_)
        replace hw := hw V5 eV5
        refine lv_aload_n hx hb dX6_readTap_42 rfl (lv_at hl 2 rfl) ?_
        refine xg3_1 (k := k1) hx hb hts hin3 hown hK hI hk1 hw_3 dX6_readTap_43 ?_
        refine lv_aload_n hx hb dX6_readTap_46 rfl (lv_at hl 2 rfl) ?_
        refine xg3_5 (k := k1) hx hb hts hin3 hown hK hI hk1 hw_1 dX6_readTap_47 ?_
        refine lv_iconst (v := (1 : Int32)) hx hb dX6_readTap_50 (by decide) ?_
        refine lv_iload_n hx hb dX6_readTap_51 rfl (lv_at hl 0 rfl) ?_
        refine lv_iadd hx hb dX6_readTap_52 ?_
        obtain ⟨h6, hw⟩ := hw
        refine x_iastV (k := k1 + 2) hx hb hK hI (cX_loc g ad) (kX_lt (kX_3s hk1).2.2.1 (by decide)) (fun _ => cX_9 (kX_3s hk1).2.2.1 (kX_3s hk1).2.2.2.1) h6 dX6_readTap_53 (fun V7 H locs eV7 hI => ?_)
        replace hw := hw V7 eV7
        refine lv_aload_n hx hb dX6_readTap_54 rfl (lv_at hl 2 rfl) ?_
        refine xg3_2 (k := k1) hx hb hts hin3 hown hK hI hk1 hw_4 dX6_readTap_55 ?_
        refine lv_aload_n hx hb dX6_readTap_58 rfl (lv_at hl 2 rfl) ?_
        refine xg3_5 (k := k1) hx hb hts hin3 hown hK hI hk1 hw_1 dX6_readTap_59 ?_
        refine lv_aload_n hx hb dX6_readTap_62 rfl (lv_at hl 1 rfl) ?_
        refine lv_iconst (v := (1 : Int32)) hx hb dX6_readTap_63 (by decide) ?_
        refine lv_iconst (v := (5 : Int32)) hx hb dX6_readTap_64 (by decide) ?_
        refine x_afti (va_runV (As := [.int (1 : Int32), .int (5 : Int32)]) (rest := [.int (V7 k1 5), .ref (ad (k1 + 3))]) ⟨hx, hb, hml, hown, hts⟩ (c_X6_readNumber l g ad H.size V7 (1 : Int32) (5 : Int32) _ hw) (cwV 2 hts gX6_readTap_X6_readNumber rfl rfl rfl (by decide +kernel) ⟨Nat.le_of_ble_eq_true rfl, Nat.le_of_ble_eq_true rfl⟩) (x_preV (k := 3) hK hE hI (by decide) (cX_6 (by decide)) rfl) rfl rfl hl.1 rfl (lv_room (Nat.le_of_ble_eq_true rfl)) dX6_readTap_65 ⟨Nat.zero_le _, Nat.zero_le _⟩) hI (fun r9 V8 H locs hw hI => ?_)
        obtain ⟨h10, hw⟩ := hw
        refine x_iastV (k := k1 + 3) hx hb hK hI (cX_loc g ad) (kX_lt (kX_3s hk1).2.2.2.2.1 (by decide)) (fun _ => cX_9 (kX_3s hk1).2.2.2.2.1 (kX_3s hk1).2.2.2.2.2.1) h10 dX6_readTap_68 (fun V11 H locs eV11 hI => ?_)
        replace hw := hw V11 eV11
        refine lv_aload_n hx hb dX6_readTap_69 rfl (lv_at hl 2 rfl) ?_
        refine lv_dup hx hb dX6_readTap_70 rfl ?_
        refine xg3_5 (k := k1) hx hb hts hin3 hown hK hI hk1 hw_1 dX6_readTap_71 ?_
        refine lv_iconst (v := (1 : Int32)) hx hb dX6_readTap_74 (by decide) ?_
        refine lv_iadd hx hb dX6_readTap_75 ?_
        refine xp3_5 (k := k1) hx hb hts hin3 hown hK hI hk1 hw_1 dX6_readTap_76 (fun V12 H locs eV12 hI => ?_)
        replace hw := hw V12 eV12
        refine lv_aload_n hx hb dX6_readTap_79 rfl (lv_at hl 1 rfl) ?_
        refine lv_bipush (v := (59 : Int32)) hx hb dX6_readTap_80 (by decide) ?_
        refine x_aftv (va_runV (As := [.int (59 : Int32)]) (rest := []) ⟨hx, hb, hml, hown, hts⟩ (c_X6_readSign l g ad H.size V12 (59 : Int32) _ hw) (cwV 1 hts gX6_readTap_X6_readSign rfl rfl rfl (by decide +kernel) ⟨Nat.le_of_ble_eq_true rfl, Nat.le_of_ble_eq_true rfl⟩) (x_preV (k := 3) hK hE hI (by decide) (cX_6 (by decide)) rfl) rfl rfl hl.1 rfl (lv_room (Nat.le_of_ble_eq_true rfl)) dX6_readTap_82 ⟨Nat.zero_le _, Nat.zero_le _⟩) hI (fun V13 H locs hw hI => ?_)
        exact W.vret hx hb hr (x_retv hI hw) hI.2.2.2.2 dX6_readTap_85
      · replace hw := hw.2 c4
        refine lv_aload_n hx hb dX6_readTap_26 rfl (lv_at hl 1 rfl) ?_
        refine lv_iconst (v := (3 : Int32)) hx hb dX6_readTap_27 (by decide) ?_
        refine x_aftv (va_runV (As := [.int (3 : Int32)]) (rest := []) ⟨hx, hb, hml, hown, hts⟩ (c_X6_fail l g ad H.size V1 (3 : Int32) _ hw) (cwV 1 hts gX6_readTap_X6_fail rfl rfl rfl (by decide +kernel) ⟨Nat.le_of_ble_eq_true rfl, Nat.le_of_ble_eq_true rfl⟩) (x_preV (k := 3) hK hE hI (by decide) (cX_6 (by decide)) rfl) rfl rfl hl.1 rfl (lv_room (Nat.le_of_ble_eq_true rfl)) dX6_readTap_28 ⟨Nat.zero_le _, Nat.zero_le _⟩) hI (fun V14 H locs hw hI => ?_)
        exact W.vret hx hb hr (x_retv hI hw) hI.2.2.2.2 dX6_readTap_31
    · replace hw := hw.2 c3
      refine lv_aload_n hx hb dX6_readTap_12 rfl (lv_at hl 1 rfl) ?_
      refine lv_iconst (v := (1 : Int32)) hx hb dX6_readTap_13 (by decide) ?_
      refine x_aftv (va_runV (As := [.int (1 : Int32)]) (rest := []) ⟨hx, hb, hml, hown, hts⟩ (c_X6_fail l g ad H.size V1 (1 : Int32) _ hw) (cwV 1 hts gX6_readTap_X6_fail rfl rfl rfl (by decide +kernel) ⟨Nat.le_of_ble_eq_true rfl, Nat.le_of_ble_eq_true rfl⟩) (x_preV (k := 3) hK hE hI (by decide) (cX_6 (by decide)) rfl) rfl rfl hl.1 rfl (lv_room (Nat.le_of_ble_eq_true rfl)) dX6_readTap_14 ⟨Nat.zero_le _, Nat.zero_le _⟩) hI (fun V15 H locs hw hI => ?_)
      exact W.vret hx hb hr (x_retv hI hw) hI.2.2.2.2 dX6_readTap_17
  exact hgo s.heap [] hI
def rm_X6_readTaps : Room := { frames := 3, cells := 0, slots := 0, locals := 68 }
set_option maxHeartbeats 4000000 in
set_option maxRecDepth 100000 in
theorem c_X6_readTaps (l : Launch) (g : GP) (ad : Nat → Nat) (sz : Nat) (V : VT) (k1 : Nat) (hk1 : kX k1 = 3) (K : VT → Prop) (hw : wp_X6_readTaps V k1 K) : Met l yX6_readTaps wsX6_readTaps rm_X6_readTaps (va_Pc [.ref (ad 3), .ref (ad k1)] (WPre 76 (cX g ad) ad g V sz)) (va_Qv K (WPost 76 (cX g ad) ad g) (AW ad 76 sz)) 0 0 (AW ad 76 sz) := by
  refine Met.ofW (cc := cX6_readTaps) (maxL := 3) (ret := none) (by decide) rfl ?_
  intro p e s m args below meth c s₁ B hml hv
  obtain ⟨ha, hv⟩ := hv
  obtain rfl := hv.1
  have hI : WI g 76 (cX g ad) ad V s.heap s.heap [] := WI.start hv
  have hK := hv.2.2.1
  have hE := hv.2.2.2.2
  have hx := B.exec
  have hb := B.bytes
  have hr := B.returns
  have hts := atoms_spec (ws := wsX6_readTaps) B.pre
  have hown : s.vm.findClass RX6 = some m.cls := findClass_of_methodNamed B.named
  have hlocks := B.notSynchronized
  have hw_0 := hts (.fieldLink RX6 82 "HoopLane$Lane" "taps" "I") (by decide +kernel)
  have hw_1 := hts (.fieldLink RX6 22 "HoopLane$Tape" "fault" "I") (by decide +kernel)
  have hw_2 := hts (.fieldLink RX6 19 "HoopLane$Tape" "at" "I") (by decide +kernel)
  have hw_3 := hts (.fieldLink RX6 15 "HoopLane$Tape" "size" "I") (by decide +kernel)
  have hin3 : ∀ w ∈ wsX30, w ∈ wsX6_readTaps := by decide +kernel
  have hin6 : ∀ w ∈ wsX60, w ∈ wsX6_readTaps := by decide +kernel
  have hl := lv_entry ([.ref (ad 3), .ref (ad k1)]) (n := 3) (Nat.le_of_ble_eq_true rfl)
  have hent : entryFrame m args 3 = F0 m 0 ((lg_sl ([.ref (ad 3), .ref (ad k1)]) ++ List.replicate (3 - (lg_sl ([.ref (ad 3), .ref (ad k1)])).length) Slot.unset).toArray) [] := by rw [ha, lg_entry_eq]
  rw [hent]
  generalize (lg_sl ([.ref (ad 3), .ref (ad k1)]) ++ List.replicate (3 - (lg_sl ([.ref (ad 3), .ref (ad k1)])).length) Slot.unset).toArray = ls at hl ⊢
  have hl : lv_has ls 3 [(0, .ref (ad 3)), (1, .ref (ad k1))] := hl
  obtain ⟨H, hH⟩ : ∃ H : Heap, H = s.heap := ⟨_, rfl⟩
  have hL7 : ∀ (n7 : Nat) (V : VT) (H : Heap) (locs : List Loc) (ls : Array Slot) (k1 : Nat) (x2 : Int32), kX k1 = 3 → WI g 76 (cX g ad) ad V s.heap H locs → lv_has ls 3 [(0, .ref (ad 3)), (1, .ref (ad k1)), (2, .int x2)] → wp_X6_readTaps_L7 K  n7 V k1 x2 → W p l e (headSpec wsX6_readTaps rm_X6_readTaps).room s m args below meth c H locs 0 0 (MQ below (va_Qv K (WPost 76 (cX g ad) ad g) (AW ad 76 s.heap.size)) args s 0 0 (AW ad 76 s.heap.size)) (F0 m 7 ls []) := by
    intro n7
    induction n7 with
    | zero => intro V H locs ls k1 x2 hk1 hI hl hw; exact False.elim hw
    | succ n7 ihL7 =>
      intro V H locs ls k1 x2 hk1 hI hl hw
      refine lv_iload_n hx hb dX6_readTaps_7 rfl (lv_at hl 2 rfl) ?_
      refine lv_iconst (v := (5 : Int32)) hx hb dX6_readTaps_8 (by decide) ?_
      refine lv_icmp_gt (tgt := 41) hx hb dX6_readTaps_9 (by decide) (fun c2 => ?_) (fun c2 => ?_)
      · replace hw := hw.1 c2
        exact W.vret hx hb hr (x_retv hI hw) hI.2.2.2.2 dX6_readTaps_41
      · replace hw := hw.2 c2
        refine lv_aload_n hx hb dX6_readTaps_12 rfl (lv_at hl 0 rfl) ?_
        refine xg6_3 (k := 3) hx hb hts hin6 hown hK hI (by decide) hw_1 dX6_readTaps_13 ?_
        refine lv_if_ne (tgt := 41) hx hb dX6_readTaps_16 (by decide) (fun c3 => ?_) (fun c3 => ?_)
        · replace hw := hw.1 c3
          exact W.vret hx hb hr (x_retv hI hw) hI.2.2.2.2 dX6_readTaps_41
        · replace hw := hw.2 c3
          refine lv_aload_n hx hb dX6_readTaps_19 rfl (lv_at hl 0 rfl) ?_
          refine xg6_2 (k := 3) hx hb hts hin6 hown hK hI (by decide) hw_2 dX6_readTaps_20 ?_
          refine lv_aload_n hx hb dX6_readTaps_23 rfl (lv_at hl 0 rfl) ?_
          refine xg6_1 (k := 3) hx hb hts hin6 hown hK hI (by decide) hw_3 dX6_readTaps_24 ?_
          refine lv_icmp_ge (tgt := 41) hx hb dX6_readTaps_27 (by decide) (fun c4 => ?_) (fun c4 => ?_)
          · replace hw := hw.1 c4
            exact W.vret hx hb hr (x_retv hI hw) hI.2.2.2.2 dX6_readTaps_41
          · replace hw := hw.2 c4
            refine lv_aload_n hx hb dX6_readTaps_30 rfl (lv_at hl 0 rfl) ?_
            refine lv_aload_n hx hb dX6_readTaps_31 rfl (lv_at hl 1 rfl) ?_
            refine x_aftv (va_runV (As := [.ref (ad k1)]) (rest := []) ⟨hx, hb, hml, hown, hts⟩ (c_X6_readTap l g ad H.size V k1 hk1 _ hw) (cwV 1 hts gX6_readTaps_X6_readTap rfl rfl rfl (by decide +kernel) ⟨Nat.le_of_ble_eq_true rfl, Nat.le_of_ble_eq_true rfl⟩) (x_preV (k := 3) hK hE hI (by decide) (cX_6 (by decide)) rfl) rfl rfl hl.1 rfl (lv_room (Nat.le_of_ble_eq_true rfl)) dX6_readTaps_32 ⟨Nat.zero_le _, Nat.zero_le _⟩) hI (fun V5 H locs hw hI => ?_)
            refine lv_iinc (v := (x2 + (1 : Int32))) (lv' := [(2, .int (x2 + (1 : Int32))), (0, .ref (ad 3)), (1, .ref (ad k1))]) hx hb dX6_readTaps_35 hl (k := 2) rfl rfl (by decide) rfl (fun ls hl => ?_)
            refine lv_goto (tgt := 7) hx hb dX6_readTaps_38 (by decide) ?_
            exact ihL7 V5 H locs ls k1 (x2 + (1 : Int32)) hk1 hI (lv_sub hl [1, 2, 0] rfl) hw
  have hgo : ∀ (H : Heap) (locs : List Loc), WI g 76 (cX g ad) ad V s.heap H locs → W p l e (headSpec wsX6_readTaps rm_X6_readTaps).room s m args below meth c H locs 0 0 (MQ below (va_Qv K (WPost 76 (cX g ad) ad g) (AW ad 76 s.heap.size)) args s 0 0 (AW ad 76 s.heap.size)) (F0 m 0 ls []) := by
    intro H locs hI
    refine lv_aload_n hx hb dX6_readTaps_0 rfl (lv_at hl 1 rfl) ?_
    refine lv_iconst (v := (0 : Int32)) hx hb dX6_readTaps_1 (by decide) ?_
    refine xp3_5 (k := k1) hx hb hts hin3 hown hK hI hk1 hw_0 dX6_readTaps_2 (fun V1 H locs eV1 hI => ?_)
    replace hw := hw V1 eV1
    refine lv_iconst (v := (0 : Int32)) hx hb dX6_readTaps_5 (by decide) ?_
    refine lv_istore_n (lv' := [(2, .int (0 : Int32)), (0, .ref (ad 3)), (1, .ref (ad k1))]) hx hb dX6_readTaps_6 rfl hl (by decide) rfl (fun ls hl => ?_)
    obtain ⟨n7, hw⟩ := hw
    exact hL7 n7 V1 H locs ls k1 (0 : Int32) hk1 hI (lv_sub hl [1, 2, 0] rfl) hw
  exact hgo s.heap [] hI
def rm_X6_readInto : Room := { frames := 4, cells := 0, slots := 0, locals := 90 }
set_option maxHeartbeats 4000000 in
set_option maxRecDepth 100000 in
theorem c_X6_readInto (l : Launch) (g : GP) (ad : Nat → Nat) (sz : Nat) (V : VT) (k1 : Nat) (hk1 : kX k1 = 3) (K : Int32 → VT → Prop) (hw : wp_X6_readInto V k1 K) : Met l yX6_readInto wsX6_readInto rm_X6_readInto (va_Pc [.ref (ad 3), .ref (ad k1)] (WPre 76 (cX g ad) ad g V sz)) (va_Qi K (WPost 76 (cX g ad) ad g) (AW ad 76 sz)) 0 0 (AW ad 76 sz) := by
  refine Met.ofW (cc := cX6_readInto) (maxL := 2) (ret := (some .int)) (by decide) rfl ?_
  intro p e s m args below meth c s₁ B hml hv
  obtain ⟨ha, hv⟩ := hv
  obtain rfl := hv.1
  have hI : WI g 76 (cX g ad) ad V s.heap s.heap [] := WI.start hv
  have hK := hv.2.2.1
  have hE := hv.2.2.2.2
  have hx := B.exec
  have hb := B.bytes
  have hr := B.returns
  have hts := atoms_spec (ws := wsX6_readInto) B.pre
  have hown : s.vm.findClass RX6 = some m.cls := findClass_of_methodNamed B.named
  have hlocks := B.notSynchronized
  have hw_0 := hts (.fieldLink RX6 19 "HoopLane$Tape" "at" "I") (by decide +kernel)
  have hw_1 := hts (.fieldLink RX6 22 "HoopLane$Tape" "fault" "I") (by decide +kernel)
  have hin6 : ∀ w ∈ wsX60, w ∈ wsX6_readInto := by decide +kernel
  have hl := lv_entry ([.ref (ad 3), .ref (ad k1)]) (n := 2) (Nat.le_of_ble_eq_true rfl)
  have hent : entryFrame m args 2 = F0 m 0 ((lg_sl ([.ref (ad 3), .ref (ad k1)]) ++ List.replicate (2 - (lg_sl ([.ref (ad 3), .ref (ad k1)])).length) Slot.unset).toArray) [] := by rw [ha, lg_entry_eq]
  rw [hent]
  generalize (lg_sl ([.ref (ad 3), .ref (ad k1)]) ++ List.replicate (2 - (lg_sl ([.ref (ad 3), .ref (ad k1)])).length) Slot.unset).toArray = ls at hl ⊢
  have hl : lv_has ls 2 [(0, .ref (ad 3)), (1, .ref (ad k1))] := hl
  obtain ⟨H, hH⟩ : ∃ H : Heap, H = s.heap := ⟨_, rfl⟩
  have hgo : ∀ (H : Heap) (locs : List Loc), WI g 76 (cX g ad) ad V s.heap H locs → W p l e (headSpec wsX6_readInto rm_X6_readInto).room s m args below meth c H locs 0 0 (MQ below (va_Qi K (WPost 76 (cX g ad) ad g) (AW ad 76 s.heap.size)) args s 0 0 (AW ad 76 s.heap.size)) (F0 m 0 ls []) := by
    intro H locs hI
    refine lv_aload_n hx hb dX6_readInto_0 rfl (lv_at hl 0 rfl) ?_
    refine lv_iconst (v := (0 : Int32)) hx hb dX6_readInto_1 (by decide) ?_
    refine xp6_2 (k := 3) hx hb hts hin6 hown hK hI (by decide) hw_0 dX6_readInto_2 (fun V1 H locs eV1 hI => ?_)
    replace hw := hw V1 eV1
    refine lv_aload_n hx hb dX6_readInto_5 rfl (lv_at hl 0 rfl) ?_
    refine lv_iconst (v := (0 : Int32)) hx hb dX6_readInto_6 (by decide) ?_
    refine xp6_3 (k := 3) hx hb hts hin6 hown hK hI (by decide) hw_1 dX6_readInto_7 (fun V2 H locs eV2 hI => ?_)
    replace hw := hw V2 eV2
    refine lv_aload_n hx hb dX6_readInto_10 rfl (lv_at hl 0 rfl) ?_
    refine lv_aload_n hx hb dX6_readInto_11 rfl (lv_at hl 1 rfl) ?_
    refine x_aftv (va_runV (As := [.ref (ad k1)]) (rest := []) ⟨hx, hb, hml, hown, hts⟩ (c_X6_readLaw l g ad H.size V2 k1 hk1 _ hw) (cwV 1 hts gX6_readInto_X6_readLaw rfl rfl rfl (by decide +kernel) ⟨Nat.le_of_ble_eq_true rfl, Nat.le_of_ble_eq_true rfl⟩) (x_preV (k := 3) hK hE hI (by decide) (cX_6 (by decide)) rfl) rfl rfl hl.1 rfl (lv_room (Nat.le_of_ble_eq_true rfl)) dX6_readInto_12 ⟨Nat.zero_le _, Nat.zero_le _⟩) hI (fun V3 H locs hw hI => ?_)
    refine lv_aload_n hx hb dX6_readInto_15 rfl (lv_at hl 0 rfl) ?_
    refine lv_aload_n hx hb dX6_readInto_16 rfl (lv_at hl 1 rfl) ?_
    refine x_aftv (va_runV (As := [.ref (ad k1)]) (rest := []) ⟨hx, hb, hml, hown, hts⟩ (c_X6_readGrounds l g ad H.size V3 k1 hk1 _ hw) (cwV 1 hts gX6_readInto_X6_readGrounds rfl rfl rfl (by decide +kernel) ⟨Nat.le_of_ble_eq_true rfl, Nat.le_of_ble_eq_true rfl⟩) (x_preV (k := 3) hK hE hI (by decide) (cX_6 (by decide)) rfl) rfl rfl hl.1 rfl (lv_room (Nat.le_of_ble_eq_true rfl)) dX6_readInto_17 ⟨Nat.zero_le _, Nat.zero_le _⟩) hI (fun V4 H locs hw hI => ?_)
    refine lv_aload_n hx hb dX6_readInto_20 rfl (lv_at hl 0 rfl) ?_
    refine lv_aload_n hx hb dX6_readInto_21 rfl (lv_at hl 1 rfl) ?_
    refine x_aftv (va_runV (As := [.ref (ad k1)]) (rest := []) ⟨hx, hb, hml, hown, hts⟩ (c_X6_readTaps l g ad H.size V4 k1 hk1 _ hw) (cwV 1 hts gX6_readInto_X6_readTaps rfl rfl rfl (by decide +kernel) ⟨Nat.le_of_ble_eq_true rfl, Nat.le_of_ble_eq_true rfl⟩) (x_preV (k := 3) hK hE hI (by decide) (cX_6 (by decide)) rfl) rfl rfl hl.1 rfl (lv_room (Nat.le_of_ble_eq_true rfl)) dX6_readInto_22 ⟨Nat.zero_le _, Nat.zero_le _⟩) hI (fun V5 H locs hw hI => ?_)
    refine lv_aload_n hx hb dX6_readInto_25 rfl (lv_at hl 0 rfl) ?_
    refine xg6_3 (k := 3) hx hb hts hin6 hown hK hI (by decide) hw_1 dX6_readInto_26 ?_
    exact W.iret (v := (V5 3 3)) hx hb hr (x_reti hI hw) hI.2.2.2.2 dX6_readInto_29
  exact hgo s.heap [] hI
def rm_X7_found : Room := { frames := 0, cells := 0, slots := 0, locals := 0 }
set_option maxHeartbeats 4000000 in
set_option maxRecDepth 100000 in
theorem c_X7_found (l : Launch) (g : GP) (ad : Nat → Nat) (sz : Nat) (V : VT) (x1 : Int32)  (K : Int32 → VT → Prop) (hw : wp_X7_found V x1 K) : Met l yX7_found wsX7_found rm_X7_found (va_Pc [.ref (ad 0), .int x1] (WPre 76 (cX g ad) ad g V sz)) (va_Qi K (WPost 76 (cX g ad) ad g) (AW ad 76 sz)) 0 0 (AW ad 76 sz) := by
  refine Met.ofW (cc := cX7_found) (maxL := 2) (ret := (some .int)) (by decide) rfl ?_
  intro p e s m args below meth c s₁ B hml hv
  obtain ⟨ha, hv⟩ := hv
  obtain rfl := hv.1
  have hI : WI g 76 (cX g ad) ad V s.heap s.heap [] := WI.start hv
  have hK := hv.2.2.1
  have hE := hv.2.2.2.2
  have hx := B.exec
  have hb := B.bytes
  have hr := B.returns
  have hts := atoms_spec (ws := wsX7_found) B.pre
  have hown : s.vm.findClass RX7 = some m.cls := findClass_of_methodNamed B.named
  have hlocks := B.notSynchronized
  have hw_0 := hts (.fieldLink RX7 68 "HoopLane" "status" "I") (by decide +kernel)
  have hw_1 := hts (.constant RX7 290 (-1000010)) (by decide +kernel)
  have hin7 : ∀ w ∈ wsX70, w ∈ wsX7_found := by decide +kernel
  have hl := lv_entry ([.ref (ad 0), .int x1]) (n := 2) (Nat.le_of_ble_eq_true rfl)
  have hent : entryFrame m args 2 = F0 m 0 ((lg_sl ([.ref (ad 0), .int x1]) ++ List.replicate (2 - (lg_sl ([.ref (ad 0), .int x1])).length) Slot.unset).toArray) [] := by rw [ha, lg_entry_eq]
  rw [hent]
  generalize (lg_sl ([.ref (ad 0), .int x1]) ++ List.replicate (2 - (lg_sl ([.ref (ad 0), .int x1])).length) Slot.unset).toArray = ls at hl ⊢
  have hl : lv_has ls 2 [(0, .ref (ad 0)), (1, .int x1)] := hl
  obtain ⟨H, hH⟩ : ∃ H : Heap, H = s.heap := ⟨_, rfl⟩
  have hgo : ∀ (H : Heap) (locs : List Loc), WI g 76 (cX g ad) ad V s.heap H locs → W p l e (headSpec wsX7_found rm_X7_found).room s m args below meth c H locs 0 0 (MQ below (va_Qi K (WPost 76 (cX g ad) ad g) (AW ad 76 s.heap.size)) args s 0 0 (AW ad 76 s.heap.size)) (F0 m 0 ls []) := by
    intro H locs hI
    refine lv_aload_n hx hb dX7_found_0 rfl (lv_at hl 0 rfl) ?_
    refine lv_iload_n hx hb dX7_found_1 rfl (lv_at hl 1 rfl) ?_
    refine xp7_10 (k := 0) hx hb hts hin7 hown hK hI (by decide) hw_0 dX7_found_2 (fun V1 H locs eV1 hI => ?_)
    replace hw := hw V1 eV1
    refine lv_ldcw (v := (-1000010 : Int32)) hx hb hown hw_1 dX7_found_5 ?_
    refine lv_iload_n hx hb dX7_found_8 rfl (lv_at hl 1 rfl) ?_
    refine lv_isub hx hb dX7_found_9 ?_
    exact W.iret (v := ((-1000010 : Int32) - x1)) hx hb hr (x_reti hI hw) hI.2.2.2.2 dX7_found_10
  exact hgo s.heap [] hI
def rm_X7_row : Room := { frames := 2, cells := 0, slots := 0, locals := 45 }
set_option maxHeartbeats 4000000 in
set_option maxRecDepth 100000 in
theorem c_X7_row (l : Launch) (g : GP) (ad : Nat → Nat) (sz : Nat) (V : VT) (x1 : Int32) (x2 : Int32) (x3 : Int32)  (K : Int32 → VT → Prop) (hw : wp_X7_row V x1 x2 x3 K) : Met l yX7_row wsX7_row rm_X7_row (va_Pc [.ref (ad 0), .int x1, .int x2, .int x3] (WPre 76 (cX g ad) ad g V sz)) (va_Qi K (WPost 76 (cX g ad) ad g) (AW ad 76 sz)) 0 0 (AW ad 76 sz) := by
  refine Met.ofW (cc := cX7_row) (maxL := 4) (ret := (some .int)) (by decide) rfl ?_
  intro p e s m args below meth c s₁ B hml hv
  obtain ⟨ha, hv⟩ := hv
  obtain rfl := hv.1
  have hI : WI g 76 (cX g ad) ad V s.heap s.heap [] := WI.start hv
  have hK := hv.2.2.1
  have hE := hv.2.2.2.2
  have hx := B.exec
  have hb := B.bytes
  have hr := B.returns
  have hts := atoms_spec (ws := wsX7_row) B.pre
  have hown : s.vm.findClass RX7 = some m.cls := findClass_of_methodNamed B.named
  have hlocks := B.notSynchronized
  have hw_0 := hts (.constant RX7 76 (-1000001)) (by decide +kernel)
  have hw_1 := hts (.fieldLink RX7 11 "HoopLane" "rows" "[LHoopLane$Row;") (by decide +kernel)
  have hw_2 := hts (.fieldLink RX7 68 "HoopLane" "status" "I") (by decide +kernel)
  have hin7 : ∀ w ∈ wsX70, w ∈ wsX7_row := by decide +kernel
  have hl := lv_entry ([.ref (ad 0), .int x1, .int x2, .int x3]) (n := 4) (Nat.le_of_ble_eq_true rfl)
  have hent : entryFrame m args 4 = F0 m 0 ((lg_sl ([.ref (ad 0), .int x1, .int x2, .int x3]) ++ List.replicate (4 - (lg_sl ([.ref (ad 0), .int x1, .int x2, .int x3])).length) Slot.unset).toArray) [] := by rw [ha, lg_entry_eq]
  rw [hent]
  generalize (lg_sl ([.ref (ad 0), .int x1, .int x2, .int x3]) ++ List.replicate (4 - (lg_sl ([.ref (ad 0), .int x1, .int x2, .int x3])).length) Slot.unset).toArray = ls at hl ⊢
  have hl : lv_has ls 4 [(0, .ref (ad 0)), (1, .int x1), (2, .int x2), (3, .int x3)] := hl
  obtain ⟨H, hH⟩ : ∃ H : Heap, H = s.heap := ⟨_, rfl⟩
  have hgo : ∀ (H : Heap) (locs : List Loc), WI g 76 (cX g ad) ad V s.heap H locs → W p l e (headSpec wsX7_row rm_X7_row).room s m args below meth c H locs 0 0 (MQ below (va_Qi K (WPost 76 (cX g ad) ad g) (AW ad 76 s.heap.size)) args s 0 0 (AW ad 76 s.heap.size)) (F0 m 0 ls []) := by
    intro H locs hI
    refine lv_iload_n hx hb dX7_row_0 rfl (lv_at hl 1 rfl) ?_
    refine lv_iconst (v := (0 : Int32)) hx hb dX7_row_1 (by decide) ?_
    refine lv_bipush (v := (7 : Int32)) hx hb dX7_row_2 (by decide) ?_
    refine x_afti (va_runS (As := [.int x1, .int (0 : Int32), .int (7 : Int32)]) (rest := []) ⟨hx, hb, hml, hown, hts⟩ (c_X7_isOut l g ad H.size V x1 (0 : Int32) (7 : Int32) _ hw) (cwS 3 hts gX7_row_X7_isOut rfl rfl rfl (by decide +kernel) ⟨Nat.le_of_ble_eq_true rfl, Nat.le_of_ble_eq_true rfl⟩) (x_preS hK hE hI) rfl rfl hl.1 rfl (lv_room (Nat.le_of_ble_eq_true rfl)) dX7_row_4 ⟨Nat.zero_le _, Nat.zero_le _⟩) hI (fun r2 V1 H locs hw hI => ?_)
    refine lv_if_ne (tgt := 25) hx hb dX7_row_7 (by decide) (fun c3 => ?_) (fun c3 => ?_)
    · replace hw := hw.1 c3
      refine lv_ldc (v := (-1000001 : Int32)) hx hb hown hw_0 dX7_row_25 ?_
      exact W.iret (v := (-1000001 : Int32)) hx hb hr (x_reti hI hw) hI.2.2.2.2 dX7_row_27
    · replace hw := hw.2 c3
      refine lv_iload_n hx hb dX7_row_10 rfl (lv_at hl 2 rfl) ?_
      refine lv_iconst (v := (0 : Int32)) hx hb dX7_row_11 (by decide) ?_
      refine lv_iconst (v := (2 : Int32)) hx hb dX7_row_12 (by decide) ?_
      refine x_afti (va_runS (As := [.int x2, .int (0 : Int32), .int (2 : Int32)]) (rest := []) ⟨hx, hb, hml, hown, hts⟩ (c_X7_isOut l g ad H.size V1 x2 (0 : Int32) (2 : Int32) _ hw) (cwS 3 hts gX7_row_X7_isOut rfl rfl rfl (by decide +kernel) ⟨Nat.le_of_ble_eq_true rfl, Nat.le_of_ble_eq_true rfl⟩) (x_preS hK hE hI) rfl rfl hl.1 rfl (lv_room (Nat.le_of_ble_eq_true rfl)) dX7_row_13 ⟨Nat.zero_le _, Nat.zero_le _⟩) hI (fun r5 V4 H locs hw hI => ?_)
      refine lv_if_ne (tgt := 25) hx hb dX7_row_16 (by decide) (fun c6 => ?_) (fun c6 => ?_)
      · replace hw := hw.1 c6
        refine lv_ldc (v := (-1000001 : Int32)) hx hb hown hw_0 dX7_row_25 ?_
        exact W.iret (v := (-1000001 : Int32)) hx hb hr (x_reti hI hw) hI.2.2.2.2 dX7_row_27
      · replace hw := hw.2 c6
        refine lv_iload_n hx hb dX7_row_19 rfl (lv_at hl 3 rfl) ?_
        refine lv_bipush (v := (40 : Int32)) hx hb dX7_row_20 (by decide) ?_
        refine lv_icmp_le (tgt := 28) hx hb dX7_row_22 (by decide) (fun c7 => ?_) (fun c7 => ?_)
        · replace hw := hw.1 c7
          refine lv_iload_n hx hb dX7_row_28 rfl (lv_at hl 3 rfl) ?_
          refine lv_if_ge (tgt := 38) hx hb dX7_row_29 (by decide) (fun c8 => ?_) (fun c8 => ?_)
          · replace hw := hw.1 c8
            refine lv_aload_n hx hb dX7_row_38 rfl (lv_at hl 0 rfl) ?_
            refine xg7_0 (k := 0) hx hb hts hin7 hown hK hI (by decide) hw_1 dX7_row_39 ?_
            refine lv_iload_n hx hb dX7_row_42 rfl (lv_at hl 1 rfl) ?_
            obtain ⟨h9, hw⟩ := hw
            refine x_aald (k := 1) (n := 8) (q := ad (36 + 2 * (x1).toNatClampNeg)) hx hb hK hI (by decide) 4 rfl rfl h9 rfl dX7_row_43 ?_
            refine lv_iload_n hx hb dX7_row_44 rfl (lv_at hl 2 rfl) ?_
            refine lv_iload_n hx hb dX7_row_45 rfl (lv_at hl 3 rfl) ?_
            refine x_aftv (va_runV (As := [.int x2, .int x3]) (rest := []) ⟨hx, hb, hml, hown, hts⟩ (c_X5_become l g ad H.size V4 (36 + 2 * (x1).toNatClampNeg) x2 x3 (kX_at13 h9) _ hw) (cwV 2 hts gX7_row_X5_become rfl rfl rfl (by decide +kernel) ⟨Nat.le_of_ble_eq_true rfl, Nat.le_of_ble_eq_true rfl⟩) (x_preV (k := (36 + 2 * (x1).toNatClampNeg)) hK hE hI (kX_lt (kX_at13 h9) (by decide)) (cX_5 (kX_at13 h9)) rfl) rfl rfl hl.1 rfl (lv_room (Nat.le_of_ble_eq_true rfl)) dX7_row_46 ⟨Nat.zero_le _, Nat.zero_le _⟩) hI (fun V10 H locs hw hI => ?_)
            refine lv_aload_n hx hb dX7_row_49 rfl (lv_at hl 0 rfl) ?_
            refine lv_iconst (v := (0 : Int32)) hx hb dX7_row_50 (by decide) ?_
            refine xp7_10 (k := 0) hx hb hts hin7 hown hK hI (by decide) hw_2 dX7_row_51 (fun V11 H locs eV11 hI => ?_)
            replace hw := hw V11 eV11
            refine lv_iload_n hx hb dX7_row_54 rfl (lv_at hl 3 rfl) ?_
            exact W.iret (v := x3) hx hb hr (x_reti hI hw) hI.2.2.2.2 dX7_row_55
          · replace hw := hw.2 c8
            refine lv_aload_n hx hb dX7_row_32 rfl (lv_at hl 0 rfl) ?_
            refine lv_iconst (v := (4 : Int32)) hx hb dX7_row_33 (by decide) ?_
            refine x_afti (va_runV (As := [.int (4 : Int32)]) (rest := []) ⟨hx, hb, hml, hown, hts⟩ (c_X7_found l g ad H.size V4 (4 : Int32) _ hw) (cwV 1 hts gX7_row_X7_found rfl rfl rfl (by decide +kernel) ⟨Nat.le_of_ble_eq_true rfl, Nat.le_of_ble_eq_true rfl⟩) (x_preV (k := 0) hK hE hI (by decide) (cX_7 (by decide)) rfl) rfl rfl hl.1 rfl (lv_room (Nat.le_of_ble_eq_true rfl)) dX7_row_34 ⟨Nat.zero_le _, Nat.zero_le _⟩) hI (fun r13 V12 H locs hw hI => ?_)
            exact W.iret (v := r13) hx hb hr (x_reti hI hw) hI.2.2.2.2 dX7_row_37
        · replace hw := hw.2 c7
          refine lv_ldc (v := (-1000001 : Int32)) hx hb hown hw_0 dX7_row_25 ?_
          exact W.iret (v := (-1000001 : Int32)) hx hb hr (x_reti hI hw) hI.2.2.2.2 dX7_row_27
  exact hgo s.heap [] hI
def rm_X7_set : Room := { frames := 2, cells := 0, slots := 0, locals := 42 }
set_option maxHeartbeats 4000000 in
set_option maxRecDepth 100000 in
theorem c_X7_set (l : Launch) (g : GP) (ad : Nat → Nat) (sz : Nat) (V : VT) (x1 : Int32) (x2 : Int32) (x3 : Int32)  (K : Int32 → VT → Prop) (hw : wp_X7_set V x1 x2 x3 K) : Met l yX7_set wsX7_set rm_X7_set (va_Pc [.ref (ad 0), .int x1, .int x2, .int x3] (WPre 76 (cX g ad) ad g V sz)) (va_Qi K (WPost 76 (cX g ad) ad g) (AW ad 76 sz)) 0 0 (AW ad 76 sz) := by
  refine Met.ofW (cc := cX7_set) (maxL := 5) (ret := (some .int)) (by decide) rfl ?_
  intro p e s m args below meth c s₁ B hml hv
  obtain ⟨ha, hv⟩ := hv
  obtain rfl := hv.1
  have hI : WI g 76 (cX g ad) ad V s.heap s.heap [] := WI.start hv
  have hK := hv.2.2.1
  have hE := hv.2.2.2.2
  have hx := B.exec
  have hb := B.bytes
  have hr := B.returns
  have hts := atoms_spec (ws := wsX7_set) B.pre
  have hown : s.vm.findClass RX7 = some m.cls := findClass_of_methodNamed B.named
  have hlocks := B.notSynchronized
  have hw_0 := hts (.fieldLink RX7 11 "HoopLane" "rows" "[LHoopLane$Row;") (by decide +kernel)
  have hw_1 := hts (.fieldLink RX7 68 "HoopLane" "status" "I") (by decide +kernel)
  have hw_2 := hts (.constant RX7 76 (-1000001)) (by decide +kernel)
  have hin7 : ∀ w ∈ wsX70, w ∈ wsX7_set := by decide +kernel
  have hl := lv_entry ([.ref (ad 0), .int x1, .int x2, .int x3]) (n := 5) (Nat.le_of_ble_eq_true rfl)
  have hent : entryFrame m args 5 = F0 m 0 ((lg_sl ([.ref (ad 0), .int x1, .int x2, .int x3]) ++ List.replicate (5 - (lg_sl ([.ref (ad 0), .int x1, .int x2, .int x3])).length) Slot.unset).toArray) [] := by rw [ha, lg_entry_eq]
  rw [hent]
  generalize (lg_sl ([.ref (ad 0), .int x1, .int x2, .int x3]) ++ List.replicate (5 - (lg_sl ([.ref (ad 0), .int x1, .int x2, .int x3])).length) Slot.unset).toArray = ls at hl ⊢
  have hl : lv_has ls 5 [(0, .ref (ad 0)), (1, .int x1), (2, .int x2), (3, .int x3)] := hl
  obtain ⟨H, hH⟩ : ∃ H : Heap, H = s.heap := ⟨_, rfl⟩
  have hgo : ∀ (H : Heap) (locs : List Loc), WI g 76 (cX g ad) ad V s.heap H locs → W p l e (headSpec wsX7_set rm_X7_set).room s m args below meth c H locs 0 0 (MQ below (va_Qi K (WPost 76 (cX g ad) ad g) (AW ad 76 s.heap.size)) args s 0 0 (AW ad 76 s.heap.size)) (F0 m 0 ls []) := by
    intro H locs hI
    refine lv_iload_n hx hb dX7_set_0 rfl (lv_at hl 1 rfl) ?_
    refine lv_iconst (v := (0 : Int32)) hx hb dX7_set_1 (by decide) ?_
    refine lv_bipush (v := (7 : Int32)) hx hb dX7_set_2 (by decide) ?_
    refine x_afti (va_runS (As := [.int x1, .int (0 : Int32), .int (7 : Int32)]) (rest := []) ⟨hx, hb, hml, hown, hts⟩ (c_X7_isOut l g ad H.size V x1 (0 : Int32) (7 : Int32) _ hw) (cwS 3 hts gX7_set_X7_isOut rfl rfl rfl (by decide +kernel) ⟨Nat.le_of_ble_eq_true rfl, Nat.le_of_ble_eq_true rfl⟩) (x_preS hK hE hI) rfl rfl hl.1 rfl (lv_room (Nat.le_of_ble_eq_true rfl)) dX7_set_4 ⟨Nat.zero_le _, Nat.zero_le _⟩) hI (fun r2 V1 H locs hw hI => ?_)
    refine lv_if_eq (tgt := 13) hx hb dX7_set_7 (by decide) (fun c3 => ?_) (fun c3 => ?_)
    · replace hw := hw.1 c3
      refine lv_aload_n hx hb dX7_set_13 rfl (lv_at hl 0 rfl) ?_
      refine xg7_0 (k := 0) hx hb hts hin7 hown hK hI (by decide) hw_0 dX7_set_14 ?_
      refine lv_iload_n hx hb dX7_set_17 rfl (lv_at hl 1 rfl) ?_
      obtain ⟨h4, hw⟩ := hw
      refine x_aald (k := 1) (n := 8) (q := ad (36 + 2 * (x1).toNatClampNeg)) hx hb hK hI (by decide) 4 rfl rfl h4 rfl dX7_set_18 ?_
      refine lv_iload_n hx hb dX7_set_19 rfl (lv_at hl 2 rfl) ?_
      refine lv_iconst (v := (1 : Int32)) hx hb dX7_set_20 (by decide) ?_
      refine x_afti (va_runV (As := [.int x2, .int (1 : Int32)]) (rest := []) ⟨hx, hb, hml, hown, hts⟩ (c_X5_findingAt l g ad H.size V1 (36 + 2 * (x1).toNatClampNeg) x2 (1 : Int32) (kX_at13 h4) _ hw) (cwV 2 hts gX7_set_X5_findingAt rfl rfl rfl (by decide +kernel) ⟨Nat.le_of_ble_eq_true rfl, Nat.le_of_ble_eq_true rfl⟩) (x_preV (k := (36 + 2 * (x1).toNatClampNeg)) hK hE hI (kX_lt (kX_at13 h4) (by decide)) (cX_5 (kX_at13 h4)) rfl) rfl rfl hl.1 rfl (lv_room (Nat.le_of_ble_eq_true rfl)) dX7_set_21 ⟨Nat.zero_le _, Nat.zero_le _⟩) hI (fun r6 V5 H locs hw hI => ?_)
      refine lv_istore (lv' := [(4, .int r6), (0, .ref (ad 0)), (1, .int x1), (2, .int x2), (3, .int x3)]) hx hb dX7_set_24 hl (by decide) rfl (fun ls hl => ?_)
      refine lv_iload hx hb dX7_set_26 (lv_at hl 0 rfl) ?_
      refine lv_if_eq (tgt := 38) hx hb dX7_set_28 (by decide) (fun c7 => ?_) (fun c7 => ?_)
      · replace hw := hw.1 c7
        refine lv_aload_n hx hb dX7_set_38 rfl (lv_at hl 1 rfl) ?_
        refine lv_iconst (v := (0 : Int32)) hx hb dX7_set_39 (by decide) ?_
        refine xp7_10 (k := 0) hx hb hts hin7 hown hK hI (by decide) hw_1 dX7_set_40 (fun V8 H locs eV8 hI => ?_)
        replace hw := hw V8 eV8
        refine lv_aload_n hx hb dX7_set_43 rfl (lv_at hl 1 rfl) ?_
        refine xg7_0 (k := 0) hx hb hts hin7 hown hK hI (by decide) hw_0 dX7_set_44 ?_
        refine lv_iload_n hx hb dX7_set_47 rfl (lv_at hl 2 rfl) ?_
        obtain ⟨h9, hw⟩ := hw
        refine x_aald (k := 1) (n := 8) (q := ad (36 + 2 * (x1).toNatClampNeg)) hx hb hK hI (by decide) 4 rfl rfl h9 rfl dX7_set_48 ?_
        refine lv_iload_n hx hb dX7_set_49 rfl (lv_at hl 3 rfl) ?_
        refine lv_iload_n hx hb dX7_set_50 rfl (lv_at hl 4 rfl) ?_
        refine x_afti (va_runV (As := [.int x2, .int x3]) (rest := []) ⟨hx, hb, hml, hown, hts⟩ (c_X5_put l g ad H.size V8 (36 + 2 * (x1).toNatClampNeg) x2 x3 (kX_at13 h9) _ hw) (cwV 2 hts gX7_set_X5_put rfl rfl rfl (by decide +kernel) ⟨Nat.le_of_ble_eq_true rfl, Nat.le_of_ble_eq_true rfl⟩) (x_preV (k := (36 + 2 * (x1).toNatClampNeg)) hK hE hI (kX_lt (kX_at13 h9) (by decide)) (cX_5 (kX_at13 h9)) rfl) rfl rfl hl.1 rfl (lv_room (Nat.le_of_ble_eq_true rfl)) dX7_set_51 ⟨Nat.zero_le _, Nat.zero_le _⟩) hI (fun r11 V10 H locs hw hI => ?_)
        exact W.iret (v := r11) hx hb hr (x_reti hI hw) hI.2.2.2.2 dX7_set_54
      · replace hw := hw.2 c7
        refine lv_aload_n hx hb dX7_set_31 rfl (lv_at hl 1 rfl) ?_
        refine lv_iload hx hb dX7_set_32 (lv_at hl 0 rfl) ?_
        refine x_afti (va_runV (As := [.int r6]) (rest := []) ⟨hx, hb, hml, hown, hts⟩ (c_X7_found l g ad H.size V5 r6 _ hw) (cwV 1 hts gX7_set_X7_found rfl rfl rfl (by decide +kernel) ⟨Nat.le_of_ble_eq_true rfl, Nat.le_of_ble_eq_true rfl⟩) (x_preV (k := 0) hK hE hI (by decide) (cX_7 (by decide)) rfl) rfl rfl hl.1 rfl (lv_room (Nat.le_of_ble_eq_true rfl)) dX7_set_34 ⟨Nat.zero_le _, Nat.zero_le _⟩) hI (fun r13 V12 H locs hw hI => ?_)
        exact W.iret (v := r13) hx hb hr (x_reti hI hw) hI.2.2.2.2 dX7_set_37
    · replace hw := hw.2 c3
      refine lv_ldc (v := (-1000001 : Int32)) hx hb hown hw_2 dX7_set_10 ?_
      exact W.iret (v := (-1000001 : Int32)) hx hb hr (x_reti hI hw) hI.2.2.2.2 dX7_set_12
  exact hgo s.heap [] hI
