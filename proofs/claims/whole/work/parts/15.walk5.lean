def rm_X7_copy : Room := { frames := 2, cells := 0, slots := 0, locals := 42 }
set_option maxHeartbeats 4000000 in
set_option maxRecDepth 100000 in
theorem c_X7_copy (l : Launch) (g : GP) (ad : Nat → Nat) (sz : Nat) (V : VT) (x1 : Int32) (x2 : Int32) (x3 : Int32) (x4 : Int32) (x5 : Int32)  (K : Int32 → VT → Prop) (hw : wp_X7_copy V x1 x2 x3 x4 x5 K) : Met l yX7_copy wsX7_copy rm_X7_copy (va_Pc [.ref (ad 0), .int x1, .int x2, .int x3, .int x4, .int x5] (WPre 76 (cX g ad) ad g V sz)) (va_Qi K (WPost 76 (cX g ad) ad g) (AW ad 76 sz)) 0 0 (AW ad 76 sz) := by
  refine Met.ofW (cc := cX7_copy) (maxL := 8) (ret := (some .int)) (by decide) rfl ?_
  intro p e s m args below meth c s₁ B hml hv
  obtain ⟨ha, hv⟩ := hv
  obtain rfl := hv.1
  have hI : WI g 76 (cX g ad) ad V s.heap s.heap [] := WI.start hv
  have hK := hv.2.2.1
  have hE := hv.2.2.2.2
  have hx := B.exec
  have hb := B.bytes
  have hr := B.returns
  have hts := atoms_spec (ws := wsX7_copy) B.pre
  have hown : s.vm.findClass RX7 = some m.cls := findClass_of_methodNamed B.named
  have hlocks := B.notSynchronized
  have hw_0 := hts (.constant RX7 76 (-1000001)) (by decide +kernel)
  have hw_1 := hts (.fieldLink RX7 11 "HoopLane" "rows" "[LHoopLane$Row;") (by decide +kernel)
  have hw_2 := hts (.fieldLink RX7 96 "HoopLane$Row" "width" "I") (by decide +kernel)
  have hw_3 := hts (.fieldLink RX7 99 "HoopLane$Row" "items" "[I") (by decide +kernel)
  have hw_4 := hts (.methodLink RX7 103 arraycopyName) (by decide +kernel)
  have hw_5 := hts (.native arraycopyName) (by decide +kernel)
  have hw_6 := hts (.static arraycopyName) (by decide +kernel)
  have hw_7 := hts (.initialized "java/lang/System") (by decide +kernel)
  have hw_8 := hts (.fieldLink RX7 68 "HoopLane" "status" "I") (by decide +kernel)
  have hin7 : ∀ w ∈ wsX70, w ∈ wsX7_copy := by decide +kernel
  have hin5 : ∀ w ∈ wsX50, w ∈ wsX7_copy := by decide +kernel
  have hl := lv_entry ([.ref (ad 0), .int x1, .int x2, .int x3, .int x4, .int x5]) (n := 8) (Nat.le_of_ble_eq_true rfl)
  have hent : entryFrame m args 8 = F0 m 0 ((lg_sl ([.ref (ad 0), .int x1, .int x2, .int x3, .int x4, .int x5]) ++ List.replicate (8 - (lg_sl ([.ref (ad 0), .int x1, .int x2, .int x3, .int x4, .int x5])).length) Slot.unset).toArray) [] := by rw [ha, lg_entry_eq]
  rw [hent]
  generalize (lg_sl ([.ref (ad 0), .int x1, .int x2, .int x3, .int x4, .int x5]) ++ List.replicate (8 - (lg_sl ([.ref (ad 0), .int x1, .int x2, .int x3, .int x4, .int x5])).length) Slot.unset).toArray = ls at hl ⊢
  have hl : lv_has ls 8 [(0, .ref (ad 0)), (1, .int x1), (2, .int x2), (3, .int x3), (4, .int x4), (5, .int x5)] := hl
  obtain ⟨H, hH⟩ : ∃ H : Heap, H = s.heap := ⟨_, rfl⟩
  have hb103 : ∀ (V : VT) (H : Heap) (locs : List Loc) (ls : Array Slot) , WI g 76 (cX g ad) ad V s.heap H locs → lv_has ls 8 [(0, .ref (ad 0))] → wp_X7_copy_b103 K  V  → W p l e (headSpec wsX7_copy rm_X7_copy).room s m args below meth c H locs 0 0 (MQ below (va_Qi K (WPost 76 (cX g ad) ad g) (AW ad 76 s.heap.size)) args s 0 0 (AW ad 76 s.heap.size)) (F0 m 103 ls []) := by
    intro V H locs ls   hI hl hw
    refine lv_aload_n hx hb dX7_copy_103 rfl (lv_at hl 0 rfl) ?_
    refine lv_iconst (v := (2 : Int32)) hx hb dX7_copy_104 (by decide) ?_
    refine x_afti (va_runV (As := [.int (2 : Int32)]) (rest := []) ⟨hx, hb, hml, hown, hts⟩ (c_X7_found l g ad H.size V (2 : Int32) _ hw) (cwV 1 hts gX7_copy_X7_found rfl rfl rfl (by decide +kernel) ⟨Nat.le_of_ble_eq_true rfl, Nat.le_of_ble_eq_true rfl⟩) (x_preV (k := 0) hK hE hI (by decide) (cX_7 (by decide)) rfl) rfl rfl hl.1 rfl (lv_room (Nat.le_of_ble_eq_true rfl)) dX7_copy_105 ⟨Nat.zero_le _, Nat.zero_le _⟩) hI (fun r34 V33 H locs hw hI => ?_)
    exact W.iret (v := r34) hx hb hr (x_reti hI hw) hI.2.2.2.2 dX7_copy_108
  have hb55 : ∀ (V : VT) (H : Heap) (locs : List Loc) (ls : Array Slot) , WI g 76 (cX g ad) ad V s.heap H locs → lv_has ls 8 [(0, .ref (ad 0))] → wp_X7_copy_b55 K  V  → W p l e (headSpec wsX7_copy rm_X7_copy).room s m args below meth c H locs 0 0 (MQ below (va_Qi K (WPost 76 (cX g ad) ad g) (AW ad 76 s.heap.size)) args s 0 0 (AW ad 76 s.heap.size)) (F0 m 55 ls []) := by
    intro V H locs ls   hI hl hw
    refine lv_aload_n hx hb dX7_copy_55 rfl (lv_at hl 0 rfl) ?_
    refine lv_iconst (v := (1 : Int32)) hx hb dX7_copy_56 (by decide) ?_
    refine x_afti (va_runV (As := [.int (1 : Int32)]) (rest := []) ⟨hx, hb, hml, hown, hts⟩ (c_X7_found l g ad H.size V (1 : Int32) _ hw) (cwV 1 hts gX7_copy_X7_found rfl rfl rfl (by decide +kernel) ⟨Nat.le_of_ble_eq_true rfl, Nat.le_of_ble_eq_true rfl⟩) (x_preV (k := 0) hK hE hI (by decide) (cX_7 (by decide)) rfl) rfl rfl hl.1 rfl (lv_room (Nat.le_of_ble_eq_true rfl)) dX7_copy_57 ⟨Nat.zero_le _, Nat.zero_le _⟩) hI (fun r32 V31 H locs hw hI => ?_)
    exact W.iret (v := r32) hx hb hr (x_reti hI hw) hI.2.2.2.2 dX7_copy_60
  have hgo : ∀ (H : Heap) (locs : List Loc), WI g 76 (cX g ad) ad V s.heap H locs → W p l e (headSpec wsX7_copy rm_X7_copy).room s m args below meth c H locs 0 0 (MQ below (va_Qi K (WPost 76 (cX g ad) ad g) (AW ad 76 s.heap.size)) args s 0 0 (AW ad 76 s.heap.size)) (F0 m 0 ls []) := by
    intro H locs hI
    refine lv_iload_n hx hb dX7_copy_0 rfl (lv_at hl 1 rfl) ?_
    refine lv_iconst (v := (0 : Int32)) hx hb dX7_copy_1 (by decide) ?_
    refine lv_bipush (v := (7 : Int32)) hx hb dX7_copy_2 (by decide) ?_
    refine x_afti (va_runS (As := [.int x1, .int (0 : Int32), .int (7 : Int32)]) (rest := []) ⟨hx, hb, hml, hown, hts⟩ (c_X7_isOut l g ad H.size V x1 (0 : Int32) (7 : Int32) _ hw) (cwS 3 hts gX7_copy_X7_isOut rfl rfl rfl (by decide +kernel) ⟨Nat.le_of_ble_eq_true rfl, Nat.le_of_ble_eq_true rfl⟩) (x_preS hK hE hI) rfl rfl hl.1 rfl (lv_room (Nat.le_of_ble_eq_true rfl)) dX7_copy_4 ⟨Nat.zero_le _, Nat.zero_le _⟩) hI (fun r2 V1 H locs hw hI => ?_)
    refine lv_if_ne (tgt := 20) hx hb dX7_copy_7 (by decide) (fun c3 => ?_) (fun c3 => ?_)
    · replace hw := hw.1 c3
      refine lv_ldc (v := (-1000001 : Int32)) hx hb hown hw_0 dX7_copy_20 ?_
      exact W.iret (v := (-1000001 : Int32)) hx hb hr (x_reti hI hw) hI.2.2.2.2 dX7_copy_22
    · replace hw := hw.2 c3
      refine lv_iload_n hx hb dX7_copy_10 rfl (lv_at hl 3 rfl) ?_
      refine lv_iconst (v := (0 : Int32)) hx hb dX7_copy_11 (by decide) ?_
      refine lv_bipush (v := (7 : Int32)) hx hb dX7_copy_12 (by decide) ?_
      refine x_afti (va_runS (As := [.int x3, .int (0 : Int32), .int (7 : Int32)]) (rest := []) ⟨hx, hb, hml, hown, hts⟩ (c_X7_isOut l g ad H.size V1 x3 (0 : Int32) (7 : Int32) _ hw) (cwS 3 hts gX7_copy_X7_isOut rfl rfl rfl (by decide +kernel) ⟨Nat.le_of_ble_eq_true rfl, Nat.le_of_ble_eq_true rfl⟩) (x_preS hK hE hI) rfl rfl hl.1 rfl (lv_room (Nat.le_of_ble_eq_true rfl)) dX7_copy_14 ⟨Nat.zero_le _, Nat.zero_le _⟩) hI (fun r5 V4 H locs hw hI => ?_)
      refine lv_if_eq (tgt := 23) hx hb dX7_copy_17 (by decide) (fun c6 => ?_) (fun c6 => ?_)
      · replace hw := hw.1 c6
        refine lv_aload_n hx hb dX7_copy_23 rfl (lv_at hl 0 rfl) ?_
        refine xg7_0 (k := 0) hx hb hts hin7 hown hK hI (by decide) hw_1 dX7_copy_24 ?_
        refine lv_iload_n hx hb dX7_copy_27 rfl (lv_at hl 1 rfl) ?_
        obtain ⟨h7, hw⟩ := hw
        refine x_aald (k := 1) (n := 8) (q := ad (36 + 2 * (x1).toNatClampNeg)) hx hb hK hI (by decide) 4 rfl rfl h7 rfl dX7_copy_28 ?_
        refine lv_astore (lv' := [(6, .ref (ad (36 + 2 * (x1).toNatClampNeg))), (0, .ref (ad 0)), (1, .int x1), (2, .int x2), (3, .int x3), (4, .int x4), (5, .int x5)]) hx hb dX7_copy_29 hl (by decide) rfl (fun ls hl => ?_)
        refine lv_aload_n hx hb dX7_copy_31 rfl (lv_at hl 1 rfl) ?_
        refine xg7_0 (k := 0) hx hb hts hin7 hown hK hI (by decide) hw_1 dX7_copy_32 ?_
        refine lv_iload_n hx hb dX7_copy_35 rfl (lv_at hl 4 rfl) ?_
        obtain ⟨h8, hw⟩ := hw
        refine x_aald (k := 1) (n := 8) (q := ad (36 + 2 * (x3).toNatClampNeg)) hx hb hK hI (by decide) 4 rfl rfl h8 rfl dX7_copy_36 ?_
        refine lv_astore (lv' := [(7, .ref (ad (36 + 2 * (x3).toNatClampNeg))), (6, .ref (ad (36 + 2 * (x1).toNatClampNeg))), (0, .ref (ad 0)), (1, .int x1), (2, .int x2), (3, .int x3), (4, .int x4), (5, .int x5)]) hx hb dX7_copy_37 hl (by decide) rfl (fun ls hl => ?_)
        refine lv_aload hx hb dX7_copy_39 (lv_at hl 1 rfl) ?_
        refine x_afti (va_runV (As := []) (rest := []) ⟨hx, hb, hml, hown, hts⟩ (c_X5_isMissing l g ad H.size V4 (36 + 2 * (x1).toNatClampNeg) (kX_at13 h7) _ hw) (cwV 0 hts gX7_copy_X5_isMissing rfl rfl rfl (by decide +kernel) ⟨Nat.le_of_ble_eq_true rfl, Nat.le_of_ble_eq_true rfl⟩) (x_preV (k := (36 + 2 * (x1).toNatClampNeg)) hK hE hI (kX_lt (kX_at13 h7) (by decide)) (cX_5 (kX_at13 h7)) rfl) rfl rfl hl.1 rfl (lv_room (Nat.le_of_ble_eq_true rfl)) dX7_copy_41 ⟨Nat.zero_le _, Nat.zero_le _⟩) hI (fun r10 V9 H locs hw hI => ?_)
        refine lv_if_ne (tgt := 55) hx hb dX7_copy_44 (by decide) (fun c11 => ?_) (fun c11 => ?_)
        · replace hw := hw.1 c11
          exact hb55 V9 H locs ls  hI (lv_sub hl [2] rfl) hw
        · replace hw := hw.2 c11
          refine lv_aload hx hb dX7_copy_47 (lv_at hl 0 rfl) ?_
          refine x_afti (va_runV (As := []) (rest := []) ⟨hx, hb, hml, hown, hts⟩ (c_X5_isMissing l g ad H.size V9 (36 + 2 * (x3).toNatClampNeg) (kX_at13 h8) _ hw) (cwV 0 hts gX7_copy_X5_isMissing rfl rfl rfl (by decide +kernel) ⟨Nat.le_of_ble_eq_true rfl, Nat.le_of_ble_eq_true rfl⟩) (x_preV (k := (36 + 2 * (x3).toNatClampNeg)) hK hE hI (kX_lt (kX_at13 h8) (by decide)) (cX_5 (kX_at13 h8)) rfl) rfl rfl hl.1 rfl (lv_room (Nat.le_of_ble_eq_true rfl)) dX7_copy_49 ⟨Nat.zero_le _, Nat.zero_le _⟩) hI (fun r13 V12 H locs hw hI => ?_)
          refine lv_if_eq (tgt := 61) hx hb dX7_copy_52 (by decide) (fun c14 => ?_) (fun c14 => ?_)
          · replace hw := hw.1 c14
            refine lv_aload hx hb dX7_copy_61 (lv_at hl 1 rfl) ?_
            refine xg5_1 (k := (36 + 2 * (x1).toNatClampNeg)) hx hb hts hin5 hown hK hI (kX_at13 h7) hw_2 dX7_copy_63 ?_
            refine lv_aload hx hb dX7_copy_66 (lv_at hl 0 rfl) ?_
            refine xg5_1 (k := (36 + 2 * (x3).toNatClampNeg)) hx hb hts hin5 hown hK hI (kX_at13 h8) hw_2 dX7_copy_68 ?_
            refine lv_icmp_eq (tgt := 80) hx hb dX7_copy_71 (by decide) (fun c15 => ?_) (fun c15 => ?_)
            · replace hw := hw.1 c15
              refine lv_aload hx hb dX7_copy_80 (lv_at hl 1 rfl) ?_
              refine lv_iload_n hx hb dX7_copy_82 rfl (lv_at hl 4 rfl) ?_
              refine lv_iload hx hb dX7_copy_83 (lv_at hl 7 rfl) ?_
              refine x_afti (va_runV (As := [.int x2, .int x5]) (rest := []) ⟨hx, hb, hml, hown, hts⟩ (c_X5_findingAt l g ad H.size V12 (36 + 2 * (x1).toNatClampNeg) x2 x5 (kX_at13 h7) _ hw) (cwV 2 hts gX7_copy_X5_findingAt rfl rfl rfl (by decide +kernel) ⟨Nat.le_of_ble_eq_true rfl, Nat.le_of_ble_eq_true rfl⟩) (x_preV (k := (36 + 2 * (x1).toNatClampNeg)) hK hE hI (kX_lt (kX_at13 h7) (by decide)) (cX_5 (kX_at13 h7)) rfl) rfl rfl hl.1 rfl (lv_room (Nat.le_of_ble_eq_true rfl)) dX7_copy_85 ⟨Nat.zero_le _, Nat.zero_le _⟩) hI (fun r17 V16 H locs hw hI => ?_)
              refine lv_if_ne (tgt := 103) hx hb dX7_copy_88 (by decide) (fun c18 => ?_) (fun c18 => ?_)
              · replace hw := hw.1 c18
                exact hb103 V16 H locs ls  hI (lv_sub hl [2] rfl) hw
              · replace hw := hw.2 c18
                refine lv_aload hx hb dX7_copy_91 (lv_at hl 0 rfl) ?_
                refine lv_iload hx hb dX7_copy_93 (lv_at hl 6 rfl) ?_
                refine lv_iload hx hb dX7_copy_95 (lv_at hl 7 rfl) ?_
                refine x_afti (va_runV (As := [.int x4, .int x5]) (rest := []) ⟨hx, hb, hml, hown, hts⟩ (c_X5_findingAt l g ad H.size V16 (36 + 2 * (x3).toNatClampNeg) x4 x5 (kX_at13 h8) _ hw) (cwV 2 hts gX7_copy_X5_findingAt rfl rfl rfl (by decide +kernel) ⟨Nat.le_of_ble_eq_true rfl, Nat.le_of_ble_eq_true rfl⟩) (x_preV (k := (36 + 2 * (x3).toNatClampNeg)) hK hE hI (kX_lt (kX_at13 h8) (by decide)) (cX_5 (kX_at13 h8)) rfl) rfl rfl hl.1 rfl (lv_room (Nat.le_of_ble_eq_true rfl)) dX7_copy_97 ⟨Nat.zero_le _, Nat.zero_le _⟩) hI (fun r20 V19 H locs hw hI => ?_)
                refine lv_if_eq (tgt := 109) hx hb dX7_copy_100 (by decide) (fun c21 => ?_) (fun c21 => ?_)
                · replace hw := hw.1 c21
                  refine lv_aload hx hb dX7_copy_109 (lv_at hl 1 rfl) ?_
                  refine xg5_0 (k := (36 + 2 * (x1).toNatClampNeg)) hx hb hts hin5 hown hK hI (kX_at13 h7) hw_3 dX7_copy_111 ?_
                  refine lv_iload_n hx hb dX7_copy_114 rfl (lv_at hl 4 rfl) ?_
                  refine lv_aload hx hb dX7_copy_115 (lv_at hl 0 rfl) ?_
                  refine xg5_0 (k := (36 + 2 * (x3).toNatClampNeg)) hx hb hts hin5 hown hK hI (kX_at13 h8) hw_3 dX7_copy_117 ?_
                  refine lv_iload hx hb dX7_copy_120 (lv_at hl 6 rfl) ?_
                  refine lv_iload hx hb dX7_copy_122 (lv_at hl 7 rfl) ?_
                  obtain ⟨h23, h24, h25, h26, h27, hw⟩ := hw
                  refine x_copy (k0 := (36 + 2 * (x1).toNatClampNeg) + 1) (k1 := (36 + 2 * (x3).toNatClampNeg) + 1) hx hb (hml.trans hl.1.symm) hown hw_4 hw_5 hw_6 hw_7 hK hI (cX_loc g ad) (kX_lt (kX_5s (kX_at13 h7)).1 (by decide)) (fun _ => cX_9 (kX_5s (kX_at13 h7)).1 (kX_5s (kX_at13 h7)).2) (kX_lt (kX_5s (kX_at13 h8)).1 (by decide)) (fun _ => cX_9 (kX_5s (kX_at13 h8)).1 (kX_5s (kX_at13 h8)).2) h23 h24 h25 h26 h27 (Nat.le_of_ble_eq_true rfl) (Nat.le_of_ble_eq_true rfl) dX7_copy_124 (fun V22 H locs eV22 hI => ?_)
                  replace hw := hw V22 eV22
                  refine lv_aload_n hx hb dX7_copy_127 rfl (lv_at hl 2 rfl) ?_
                  refine lv_iconst (v := (0 : Int32)) hx hb dX7_copy_128 (by decide) ?_
                  refine xp7_10 (k := 0) hx hb hts hin7 hown hK hI (by decide) hw_8 dX7_copy_129 (fun V28 H locs eV28 hI => ?_)
                  replace hw := hw V28 eV28
                  refine lv_iload hx hb dX7_copy_132 (lv_at hl 7 rfl) ?_
                  exact W.iret (v := x5) hx hb hr (x_reti hI hw) hI.2.2.2.2 dX7_copy_134
                · replace hw := hw.2 c21
                  exact hb103 V19 H locs ls  hI (lv_sub hl [2] rfl) hw
            · replace hw := hw.2 c15
              refine lv_aload_n hx hb dX7_copy_74 rfl (lv_at hl 2 rfl) ?_
              refine lv_iconst (v := (5 : Int32)) hx hb dX7_copy_75 (by decide) ?_
              refine x_afti (va_runV (As := [.int (5 : Int32)]) (rest := []) ⟨hx, hb, hml, hown, hts⟩ (c_X7_found l g ad H.size V12 (5 : Int32) _ hw) (cwV 1 hts gX7_copy_X7_found rfl rfl rfl (by decide +kernel) ⟨Nat.le_of_ble_eq_true rfl, Nat.le_of_ble_eq_true rfl⟩) (x_preV (k := 0) hK hE hI (by decide) (cX_7 (by decide)) rfl) rfl rfl hl.1 rfl (lv_room (Nat.le_of_ble_eq_true rfl)) dX7_copy_76 ⟨Nat.zero_le _, Nat.zero_le _⟩) hI (fun r30 V29 H locs hw hI => ?_)
              exact W.iret (v := r30) hx hb hr (x_reti hI hw) hI.2.2.2.2 dX7_copy_79
          · replace hw := hw.2 c14
            exact hb55 V12 H locs ls  hI (lv_sub hl [2] rfl) hw
      · replace hw := hw.2 c6
        refine lv_ldc (v := (-1000001 : Int32)) hx hb hown hw_0 dX7_copy_20 ?_
        exact W.iret (v := (-1000001 : Int32)) hx hb hr (x_reti hI hw) hI.2.2.2.2 dX7_copy_22
  exact hgo s.heap [] hI
def rm_X7_drop : Room := { frames := 2, cells := 0, slots := 0, locals := 45 }
set_option maxHeartbeats 4000000 in
set_option maxRecDepth 100000 in
theorem c_X7_drop (l : Launch) (g : GP) (ad : Nat → Nat) (sz : Nat) (V : VT) (x1 : Int32)  (K : Int32 → VT → Prop) (hw : wp_X7_drop V x1 K) : Met l yX7_drop wsX7_drop rm_X7_drop (va_Pc [.ref (ad 0), .int x1] (WPre 76 (cX g ad) ad g V sz)) (va_Qi K (WPost 76 (cX g ad) ad g) (AW ad 76 sz)) 0 0 (AW ad 76 sz) := by
  refine Met.ofW (cc := cX7_drop) (maxL := 3) (ret := (some .int)) (by decide) rfl ?_
  intro p e s m args below meth c s₁ B hml hv
  obtain ⟨ha, hv⟩ := hv
  obtain rfl := hv.1
  have hI : WI g 76 (cX g ad) ad V s.heap s.heap [] := WI.start hv
  have hK := hv.2.2.1
  have hE := hv.2.2.2.2
  have hx := B.exec
  have hb := B.bytes
  have hr := B.returns
  have hts := atoms_spec (ws := wsX7_drop) B.pre
  have hown : s.vm.findClass RX7 = some m.cls := findClass_of_methodNamed B.named
  have hlocks := B.notSynchronized
  have hw_0 := hts (.fieldLink RX7 11 "HoopLane" "rows" "[LHoopLane$Row;") (by decide +kernel)
  have hw_1 := hts (.fieldLink RX7 109 "HoopLane$Row" "size" "I") (by decide +kernel)
  have hw_2 := hts (.fieldLink RX7 68 "HoopLane" "status" "I") (by decide +kernel)
  have hw_3 := hts (.constant RX7 76 (-1000001)) (by decide +kernel)
  have hin7 : ∀ w ∈ wsX70, w ∈ wsX7_drop := by decide +kernel
  have hin5 : ∀ w ∈ wsX50, w ∈ wsX7_drop := by decide +kernel
  have hl := lv_entry ([.ref (ad 0), .int x1]) (n := 3) (Nat.le_of_ble_eq_true rfl)
  have hent : entryFrame m args 3 = F0 m 0 ((lg_sl ([.ref (ad 0), .int x1]) ++ List.replicate (3 - (lg_sl ([.ref (ad 0), .int x1])).length) Slot.unset).toArray) [] := by rw [ha, lg_entry_eq]
  rw [hent]
  generalize (lg_sl ([.ref (ad 0), .int x1]) ++ List.replicate (3 - (lg_sl ([.ref (ad 0), .int x1])).length) Slot.unset).toArray = ls at hl ⊢
  have hl : lv_has ls 3 [(0, .ref (ad 0)), (1, .int x1)] := hl
  obtain ⟨H, hH⟩ : ∃ H : Heap, H = s.heap := ⟨_, rfl⟩
  have hgo : ∀ (H : Heap) (locs : List Loc), WI g 76 (cX g ad) ad V s.heap H locs → W p l e (headSpec wsX7_drop rm_X7_drop).room s m args below meth c H locs 0 0 (MQ below (va_Qi K (WPost 76 (cX g ad) ad g) (AW ad 76 s.heap.size)) args s 0 0 (AW ad 76 s.heap.size)) (F0 m 0 ls []) := by
    intro H locs hI
    refine lv_iload_n hx hb dX7_drop_0 rfl (lv_at hl 1 rfl) ?_
    refine lv_iconst (v := (0 : Int32)) hx hb dX7_drop_1 (by decide) ?_
    refine lv_bipush (v := (7 : Int32)) hx hb dX7_drop_2 (by decide) ?_
    refine x_afti (va_runS (As := [.int x1, .int (0 : Int32), .int (7 : Int32)]) (rest := []) ⟨hx, hb, hml, hown, hts⟩ (c_X7_isOut l g ad H.size V x1 (0 : Int32) (7 : Int32) _ hw) (cwS 3 hts gX7_drop_X7_isOut rfl rfl rfl (by decide +kernel) ⟨Nat.le_of_ble_eq_true rfl, Nat.le_of_ble_eq_true rfl⟩) (x_preS hK hE hI) rfl rfl hl.1 rfl (lv_room (Nat.le_of_ble_eq_true rfl)) dX7_drop_4 ⟨Nat.zero_le _, Nat.zero_le _⟩) hI (fun r2 V1 H locs hw hI => ?_)
    refine lv_if_eq (tgt := 13) hx hb dX7_drop_7 (by decide) (fun c3 => ?_) (fun c3 => ?_)
    · replace hw := hw.1 c3
      refine lv_aload_n hx hb dX7_drop_13 rfl (lv_at hl 0 rfl) ?_
      refine xg7_0 (k := 0) hx hb hts hin7 hown hK hI (by decide) hw_0 dX7_drop_14 ?_
      refine lv_iload_n hx hb dX7_drop_17 rfl (lv_at hl 1 rfl) ?_
      obtain ⟨h4, hw⟩ := hw
      refine x_aald (k := 1) (n := 8) (q := ad (36 + 2 * (x1).toNatClampNeg)) hx hb hK hI (by decide) 4 rfl rfl h4 rfl dX7_drop_18 ?_
      refine x_afti (va_runV (As := []) (rest := []) ⟨hx, hb, hml, hown, hts⟩ (c_X5_isMissing l g ad H.size V1 (36 + 2 * (x1).toNatClampNeg) (kX_at13 h4) _ hw) (cwV 0 hts gX7_drop_X5_isMissing rfl rfl rfl (by decide +kernel) ⟨Nat.le_of_ble_eq_true rfl, Nat.le_of_ble_eq_true rfl⟩) (x_preV (k := (36 + 2 * (x1).toNatClampNeg)) hK hE hI (kX_lt (kX_at13 h4) (by decide)) (cX_5 (kX_at13 h4)) rfl) rfl rfl hl.1 rfl (lv_room (Nat.le_of_ble_eq_true rfl)) dX7_drop_19 ⟨Nat.zero_le _, Nat.zero_le _⟩) hI (fun r6 V5 H locs hw hI => ?_)
      refine lv_if_eq (tgt := 31) hx hb dX7_drop_22 (by decide) (fun c7 => ?_) (fun c7 => ?_)
      · replace hw := hw.1 c7
        refine lv_aload_n hx hb dX7_drop_31 rfl (lv_at hl 0 rfl) ?_
        refine xg7_0 (k := 0) hx hb hts hin7 hown hK hI (by decide) hw_0 dX7_drop_32 ?_
        refine lv_iload_n hx hb dX7_drop_35 rfl (lv_at hl 1 rfl) ?_
        obtain ⟨h8, hw⟩ := hw
        refine x_aald (k := 1) (n := 8) (q := ad (36 + 2 * (x1).toNatClampNeg)) hx hb hK hI (by decide) 4 rfl rfl h8 rfl dX7_drop_36 ?_
        refine xg5_2 (k := (36 + 2 * (x1).toNatClampNeg)) hx hb hts hin5 hown hK hI (kX_at13 h8) hw_1 dX7_drop_37 ?_
        refine lv_istore_n (lv' := [(2, .int (V5 (36 + 2 * (x1).toNatClampNeg) 2)), (0, .ref (ad 0)), (1, .int x1)]) hx hb dX7_drop_40 rfl hl (by decide) rfl (fun ls hl => ?_)
        refine lv_aload_n hx hb dX7_drop_41 rfl (lv_at hl 1 rfl) ?_
        refine xg7_0 (k := 0) hx hb hts hin7 hown hK hI (by decide) hw_0 dX7_drop_42 ?_
        refine lv_iload_n hx hb dX7_drop_45 rfl (lv_at hl 2 rfl) ?_
        obtain ⟨h9, hw⟩ := hw
        refine x_aald (k := 1) (n := 8) (q := ad (36 + 2 * (x1).toNatClampNeg)) hx hb hK hI (by decide) 4 rfl rfl h9 rfl dX7_drop_46 ?_
        refine lv_iconst (v := (-1 : Int32)) hx hb dX7_drop_47 (by decide) ?_
        refine lv_iconst (v := (0 : Int32)) hx hb dX7_drop_48 (by decide) ?_
        refine x_aftv (va_runV (As := [.int (-1 : Int32), .int (0 : Int32)]) (rest := []) ⟨hx, hb, hml, hown, hts⟩ (c_X5_become l g ad H.size V5 (36 + 2 * (x1).toNatClampNeg) (-1 : Int32) (0 : Int32) (kX_at13 h9) _ hw) (cwV 2 hts gX7_drop_X5_become rfl rfl rfl (by decide +kernel) ⟨Nat.le_of_ble_eq_true rfl, Nat.le_of_ble_eq_true rfl⟩) (x_preV (k := (36 + 2 * (x1).toNatClampNeg)) hK hE hI (kX_lt (kX_at13 h9) (by decide)) (cX_5 (kX_at13 h9)) rfl) rfl rfl hl.1 rfl (lv_room (Nat.le_of_ble_eq_true rfl)) dX7_drop_49 ⟨Nat.zero_le _, Nat.zero_le _⟩) hI (fun V10 H locs hw hI => ?_)
        refine lv_aload_n hx hb dX7_drop_52 rfl (lv_at hl 1 rfl) ?_
        refine lv_iconst (v := (0 : Int32)) hx hb dX7_drop_53 (by decide) ?_
        refine xp7_10 (k := 0) hx hb hts hin7 hown hK hI (by decide) hw_2 dX7_drop_54 (fun V11 H locs eV11 hI => ?_)
        replace hw := hw V11 eV11
        refine lv_iload_n hx hb dX7_drop_57 rfl (lv_at hl 0 rfl) ?_
        exact W.iret (v := (V5 (36 + 2 * (x1).toNatClampNeg) 2)) hx hb hr (x_reti hI hw) hI.2.2.2.2 dX7_drop_58
      · replace hw := hw.2 c7
        refine lv_aload_n hx hb dX7_drop_25 rfl (lv_at hl 0 rfl) ?_
        refine lv_iconst (v := (1 : Int32)) hx hb dX7_drop_26 (by decide) ?_
        refine x_afti (va_runV (As := [.int (1 : Int32)]) (rest := []) ⟨hx, hb, hml, hown, hts⟩ (c_X7_found l g ad H.size V5 (1 : Int32) _ hw) (cwV 1 hts gX7_drop_X7_found rfl rfl rfl (by decide +kernel) ⟨Nat.le_of_ble_eq_true rfl, Nat.le_of_ble_eq_true rfl⟩) (x_preV (k := 0) hK hE hI (by decide) (cX_7 (by decide)) rfl) rfl rfl hl.1 rfl (lv_room (Nat.le_of_ble_eq_true rfl)) dX7_drop_27 ⟨Nat.zero_le _, Nat.zero_le _⟩) hI (fun r13 V12 H locs hw hI => ?_)
        exact W.iret (v := r13) hx hb hr (x_reti hI hw) hI.2.2.2.2 dX7_drop_30
    · replace hw := hw.2 c3
      refine lv_ldc (v := (-1000001 : Int32)) hx hb hown hw_3 dX7_drop_10 ?_
      exact W.iret (v := (-1000001 : Int32)) hx hb hr (x_reti hI hw) hI.2.2.2.2 dX7_drop_12
  exact hgo s.heap [] hI
def rm_X7_feed : Room := { frames := 1, cells := 0, slots := 0, locals := 22 }
set_option maxHeartbeats 4000000 in
set_option maxRecDepth 100000 in
theorem c_X7_feed (l : Launch) (g : GP) (ad : Nat → Nat) (sz : Nat) (V : VT) (x1 : Int32)  (K : Int32 → VT → Prop) (hw : wp_X7_feed V x1 K) : Met l yX7_feed wsX7_feed rm_X7_feed (va_Pc [.ref (ad 0), .int x1] (WPre 76 (cX g ad) ad g V sz)) (va_Qi K (WPost 76 (cX g ad) ad g) (AW ad 76 sz)) 0 0 (AW ad 76 sz) := by
  refine Met.ofW (cc := cX7_feed) (maxL := 2) (ret := (some .int)) (by decide) rfl ?_
  intro p e s m args below meth c s₁ B hml hv
  obtain ⟨ha, hv⟩ := hv
  obtain rfl := hv.1
  have hI : WI g 76 (cX g ad) ad V s.heap s.heap [] := WI.start hv
  have hK := hv.2.2.1
  have hE := hv.2.2.2.2
  have hx := B.exec
  have hb := B.bytes
  have hr := B.returns
  have hts := atoms_spec (ws := wsX7_feed) B.pre
  have hown : s.vm.findClass RX7 = some m.cls := findClass_of_methodNamed B.named
  have hlocks := B.notSynchronized
  have hw_0 := hts (.fieldLink RX7 32 "HoopLane" "tape" "LHoopLane$Tape;") (by decide +kernel)
  have hw_1 := hts (.constant RX7 117 (-1000003)) (by decide +kernel)
  have hw_2 := hts (.fieldLink RX7 116 "HoopLane$Tape" "size" "I") (by decide +kernel)
  have hw_3 := hts (.constant RX7 76 (-1000001)) (by decide +kernel)
  have hin7 : ∀ w ∈ wsX70, w ∈ wsX7_feed := by decide +kernel
  have hin6 : ∀ w ∈ wsX60, w ∈ wsX7_feed := by decide +kernel
  have hl := lv_entry ([.ref (ad 0), .int x1]) (n := 2) (Nat.le_of_ble_eq_true rfl)
  have hent : entryFrame m args 2 = F0 m 0 ((lg_sl ([.ref (ad 0), .int x1]) ++ List.replicate (2 - (lg_sl ([.ref (ad 0), .int x1])).length) Slot.unset).toArray) [] := by rw [ha, lg_entry_eq]
  rw [hent]
  generalize (lg_sl ([.ref (ad 0), .int x1]) ++ List.replicate (2 - (lg_sl ([.ref (ad 0), .int x1])).length) Slot.unset).toArray = ls at hl ⊢
  have hl : lv_has ls 2 [(0, .ref (ad 0)), (1, .int x1)] := hl
  obtain ⟨H, hH⟩ : ∃ H : Heap, H = s.heap := ⟨_, rfl⟩
  have hgo : ∀ (H : Heap) (locs : List Loc), WI g 76 (cX g ad) ad V s.heap H locs → W p l e (headSpec wsX7_feed rm_X7_feed).room s m args below meth c H locs 0 0 (MQ below (va_Qi K (WPost 76 (cX g ad) ad g) (AW ad 76 s.heap.size)) args s 0 0 (AW ad 76 s.heap.size)) (F0 m 0 ls []) := by
    intro H locs hI
    refine lv_iload_n hx hb dX7_feed_0 rfl (lv_at hl 1 rfl) ?_
    refine lv_iconst (v := (0 : Int32)) hx hb dX7_feed_1 (by decide) ?_
    refine lv_sipush (v := (255 : Int32)) hx hb dX7_feed_2 (by decide) ?_
    refine x_afti (va_runS (As := [.int x1, .int (0 : Int32), .int (255 : Int32)]) (rest := []) ⟨hx, hb, hml, hown, hts⟩ (c_X7_isOut l g ad H.size V x1 (0 : Int32) (255 : Int32) _ hw) (cwS 3 hts gX7_feed_X7_isOut rfl rfl rfl (by decide +kernel) ⟨Nat.le_of_ble_eq_true rfl, Nat.le_of_ble_eq_true rfl⟩) (x_preS hK hE hI) rfl rfl hl.1 rfl (lv_room (Nat.le_of_ble_eq_true rfl)) dX7_feed_5 ⟨Nat.zero_le _, Nat.zero_le _⟩) hI (fun r2 V1 H locs hw hI => ?_)
    refine lv_if_eq (tgt := 14) hx hb dX7_feed_8 (by decide) (fun c3 => ?_) (fun c3 => ?_)
    · replace hw := hw.1 c3
      refine lv_aload_n hx hb dX7_feed_14 rfl (lv_at hl 0 rfl) ?_
      refine xg7_4 (k := 0) hx hb hts hin7 hown hK hI (by decide) hw_0 dX7_feed_15 ?_
      refine lv_iload_n hx hb dX7_feed_18 rfl (lv_at hl 1 rfl) ?_
      refine x_afti (va_runV (As := [.int x1]) (rest := []) ⟨hx, hb, hml, hown, hts⟩ (c_X6_add l g ad H.size V1 x1 _ hw) (cwV 1 hts gX7_feed_X6_add rfl rfl rfl (by decide +kernel) ⟨Nat.le_of_ble_eq_true rfl, Nat.le_of_ble_eq_true rfl⟩) (x_preV (k := 3) hK hE hI (by decide) (cX_6 (by decide)) rfl) rfl rfl hl.1 rfl (lv_room (Nat.le_of_ble_eq_true rfl)) dX7_feed_19 ⟨Nat.zero_le _, Nat.zero_le _⟩) hI (fun r5 V4 H locs hw hI => ?_)
      refine lv_if_eq (tgt := 35) hx hb dX7_feed_22 (by decide) (fun c6 => ?_) (fun c6 => ?_)
      · replace hw := hw.1 c6
        refine lv_ldc (v := (-1000003 : Int32)) hx hb hown hw_1 dX7_feed_35 ?_
        exact W.iret (v := (-1000003 : Int32)) hx hb hr (x_reti hI hw) hI.2.2.2.2 dX7_feed_37
      · replace hw := hw.2 c6
        refine lv_aload_n hx hb dX7_feed_25 rfl (lv_at hl 0 rfl) ?_
        refine xg7_4 (k := 0) hx hb hts hin7 hown hK hI (by decide) hw_0 dX7_feed_26 ?_
        refine xg6_1 (k := 3) hx hb hts hin6 hown hK hI (by decide) hw_2 dX7_feed_29 ?_
        refine lv_goto (tgt := 37) hx hb dX7_feed_32 (by decide) ?_
        exact W.iret (v := (V4 3 1)) hx hb hr (x_reti hI hw) hI.2.2.2.2 dX7_feed_37
    · replace hw := hw.2 c3
      refine lv_ldc (v := (-1000001 : Int32)) hx hb hown hw_3 dX7_feed_11 ?_
      exact W.iret (v := (-1000001 : Int32)) hx hb hr (x_reti hI hw) hI.2.2.2.2 dX7_feed_13
  exact hgo s.heap [] hI
def rm_X7_lane : Room := { frames := 5, cells := 0, slots := 0, locals := 111 }
set_option maxHeartbeats 4000000 in
set_option maxRecDepth 100000 in
theorem c_X7_lane (l : Launch) (g : GP) (ad : Nat → Nat) (sz : Nat) (V : VT)   (K : Int32 → VT → Prop) (hw : wp_X7_lane V  K) : Met l yX7_lane wsX7_lane rm_X7_lane (va_Pc [.ref (ad 0)] (WPre 76 (cX g ad) ad g V sz)) (va_Qi K (WPost 76 (cX g ad) ad g) (AW ad 76 sz)) 0 0 (AW ad 76 sz) := by
  refine Met.ofW (cc := cX7_lane) (maxL := 3) (ret := (some .int)) (by decide) rfl ?_
  intro p e s m args below meth c s₁ B hml hv
  obtain ⟨ha, hv⟩ := hv
  obtain rfl := hv.1
  have hI : WI g 76 (cX g ad) ad V s.heap s.heap [] := WI.start hv
  have hK := hv.2.2.1
  have hE := hv.2.2.2.2
  have hx := B.exec
  have hb := B.bytes
  have hr := B.returns
  have hts := atoms_spec (ws := wsX7_lane) B.pre
  have hown : s.vm.findClass RX7 = some m.cls := findClass_of_methodNamed B.named
  have hlocks := B.notSynchronized
  have hw_0 := hts (.fieldLink RX7 32 "HoopLane" "tape" "LHoopLane$Tape;") (by decide +kernel)
  have hw_1 := hts (.fieldLink RX7 26 "HoopLane" "read" "LHoopLane$Lane;") (by decide +kernel)
  have hw_2 := hts (.fieldLink RX7 122 "HoopLane$Tape" "at" "I") (by decide +kernel)
  have hw_3 := hts (.fieldLink RX7 22 "HoopLane" "lane" "LHoopLane$Lane;") (by decide +kernel)
  have hw_4 := hts (.fieldLink RX7 39 "HoopLane" "acts" "LHoopLane$Acts;") (by decide +kernel)
  have hw_5 := hts (.fieldLink RX7 134 "HoopLane$Lane" "taps" "I") (by decide +kernel)
  have hw_6 := hts (.fieldLink RX7 64 "HoopLane" "fault" "I") (by decide +kernel)
  have hw_7 := hts (.constant RX7 128 (-1000100)) (by decide +kernel)
  have hin7 : ∀ w ∈ wsX70, w ∈ wsX7_lane := by decide +kernel
  have hin6 : ∀ w ∈ wsX60, w ∈ wsX7_lane := by decide +kernel
  have hin3 : ∀ w ∈ wsX30, w ∈ wsX7_lane := by decide +kernel
  have hl := lv_entry ([.ref (ad 0)]) (n := 3) (Nat.le_of_ble_eq_true rfl)
  have hent : entryFrame m args 3 = F0 m 0 ((lg_sl ([.ref (ad 0)]) ++ List.replicate (3 - (lg_sl ([.ref (ad 0)])).length) Slot.unset).toArray) [] := by rw [ha, lg_entry_eq]
  rw [hent]
  generalize (lg_sl ([.ref (ad 0)]) ++ List.replicate (3 - (lg_sl ([.ref (ad 0)])).length) Slot.unset).toArray = ls at hl ⊢
  have hl : lv_has ls 3 [(0, .ref (ad 0))] := hl
  obtain ⟨H, hH⟩ : ∃ H : Heap, H = s.heap := ⟨_, rfl⟩
  have hgo : ∀ (H : Heap) (locs : List Loc), WI g 76 (cX g ad) ad V s.heap H locs → W p l e (headSpec wsX7_lane rm_X7_lane).room s m args below meth c H locs 0 0 (MQ below (va_Qi K (WPost 76 (cX g ad) ad g) (AW ad 76 s.heap.size)) args s 0 0 (AW ad 76 s.heap.size)) (F0 m 0 ls []) := by
    intro H locs hI
    refine lv_aload_n hx hb dX7_lane_0 rfl (lv_at hl 0 rfl) ?_
    refine xg7_4 (k := 0) hx hb hts hin7 hown hK hI (by decide) hw_0 dX7_lane_1 ?_
    refine lv_aload_n hx hb dX7_lane_4 rfl (lv_at hl 0 rfl) ?_
    refine xg7_3 (k := 0) hx hb hts hin7 hown hK hI (by decide) hw_1 dX7_lane_5 ?_
    refine x_afti (va_runV (As := [.ref (ad 21)]) (rest := []) ⟨hx, hb, hml, hown, hts⟩ (c_X6_readInto l g ad H.size V 21 (by decide) _ hw) (cwV 1 hts gX7_lane_X6_readInto rfl rfl rfl (by decide +kernel) ⟨Nat.le_of_ble_eq_true rfl, Nat.le_of_ble_eq_true rfl⟩) (x_preV (k := 3) hK hE hI (by decide) (cX_6 (by decide)) rfl) rfl rfl hl.1 rfl (lv_room (Nat.le_of_ble_eq_true rfl)) dX7_lane_8 ⟨Nat.zero_le _, Nat.zero_le _⟩) hI (fun r2 V1 H locs hw hI => ?_)
    refine lv_istore_n (lv' := [(1, .int r2), (0, .ref (ad 0))]) hx hb dX7_lane_11 rfl hl (by decide) rfl (fun ls hl => ?_)
    refine lv_aload_n hx hb dX7_lane_12 rfl (lv_at hl 1 rfl) ?_
    refine xg7_4 (k := 0) hx hb hts hin7 hown hK hI (by decide) hw_0 dX7_lane_13 ?_
    refine xg6_2 (k := 3) hx hb hts hin6 hown hK hI (by decide) hw_2 dX7_lane_16 ?_
    refine lv_istore_n (lv' := [(2, .int (V1 3 2)), (1, .int r2), (0, .ref (ad 0))]) hx hb dX7_lane_19 rfl hl (by decide) rfl (fun ls hl => ?_)
    refine lv_aload_n hx hb dX7_lane_20 rfl (lv_at hl 2 rfl) ?_
    refine xg7_4 (k := 0) hx hb hts hin7 hown hK hI (by decide) hw_0 dX7_lane_21 ?_
    refine x_aftv (va_runV (As := []) (rest := []) ⟨hx, hb, hml, hown, hts⟩ (c_X6_clear l g ad H.size V1  _ hw) (cwV 0 hts gX7_lane_X6_clear rfl rfl rfl (by decide +kernel) ⟨Nat.le_of_ble_eq_true rfl, Nat.le_of_ble_eq_true rfl⟩) (x_preV (k := 3) hK hE hI (by decide) (cX_6 (by decide)) rfl) rfl rfl hl.1 rfl (lv_room (Nat.le_of_ble_eq_true rfl)) dX7_lane_24 ⟨Nat.zero_le _, Nat.zero_le _⟩) hI (fun V3 H locs hw hI => ?_)
    refine lv_iload_n hx hb dX7_lane_27 rfl (lv_at hl 1 rfl) ?_
    refine lv_if_eq (tgt := 41) hx hb dX7_lane_28 (by decide) (fun c4 => ?_) (fun c4 => ?_)
    · replace hw := hw.1 c4
      refine lv_aload_n hx hb dX7_lane_41 rfl (lv_at hl 2 rfl) ?_
      refine xg7_2 (k := 0) hx hb hts hin7 hown hK hI (by decide) hw_3 dX7_lane_42 ?_
      refine lv_aload_n hx hb dX7_lane_45 rfl (lv_at hl 2 rfl) ?_
      refine xg7_3 (k := 0) hx hb hts hin7 hown hK hI (by decide) hw_1 dX7_lane_46 ?_
      refine x_aftv (va_runV (As := [.ref (ad 21)]) (rest := []) ⟨hx, hb, hml, hown, hts⟩ (c_X3_be l g ad H.size V3 16 21 (by decide) (by decide) _ hw) (cwV 1 hts gX7_lane_X3_be rfl rfl rfl (by decide +kernel) ⟨Nat.le_of_ble_eq_true rfl, Nat.le_of_ble_eq_true rfl⟩) (x_preV (k := 16) hK hE hI (by decide) (cX_3 (by decide)) rfl) rfl rfl hl.1 rfl (lv_room (Nat.le_of_ble_eq_true rfl)) dX7_lane_49 ⟨Nat.zero_le _, Nat.zero_le _⟩) hI (fun V5 H locs hw hI => ?_)
      refine lv_aload_n hx hb dX7_lane_52 rfl (lv_at hl 2 rfl) ?_
      refine xg7_5 (k := 0) hx hb hts hin7 hown hK hI (by decide) hw_4 dX7_lane_53 ?_
      refine x_aftv (va_runV (As := []) (rest := []) ⟨hx, hb, hml, hown, hts⟩ (c_X0_clear l g ad H.size V5  _ hw) (cwV 0 hts gX7_lane_X0_clear rfl rfl rfl (by decide +kernel) ⟨Nat.le_of_ble_eq_true rfl, Nat.le_of_ble_eq_true rfl⟩) (x_preV (k := 5) hK hE hI (by decide) (cX_0 (by decide)) rfl) rfl rfl hl.1 rfl (lv_room (Nat.le_of_ble_eq_true rfl)) dX7_lane_56 ⟨Nat.zero_le _, Nat.zero_le _⟩) hI (fun V6 H locs hw hI => ?_)
      refine lv_aload_n hx hb dX7_lane_59 rfl (lv_at hl 2 rfl) ?_
      refine xg7_2 (k := 0) hx hb hts hin7 hown hK hI (by decide) hw_3 dX7_lane_60 ?_
      refine xg3_5 (k := 16) hx hb hts hin3 hown hK hI (by decide) hw_5 dX7_lane_63 ?_
      exact W.iret (v := (V6 16 5)) hx hb hr (x_reti hI hw) hI.2.2.2.2 dX7_lane_66
    · replace hw := hw.2 c4
      refine lv_aload_n hx hb dX7_lane_31 rfl (lv_at hl 2 rfl) ?_
      refine lv_iload_n hx hb dX7_lane_32 rfl (lv_at hl 1 rfl) ?_
      refine xp7_9 (k := 0) hx hb hts hin7 hown hK hI (by decide) hw_6 dX7_lane_33 (fun V7 H locs eV7 hI => ?_)
      replace hw := hw V7 eV7
      refine lv_ldc (v := (-1000100 : Int32)) hx hb hown hw_7 dX7_lane_36 ?_
      refine lv_iload_n hx hb dX7_lane_38 rfl (lv_at hl 0 rfl) ?_
      refine lv_isub hx hb dX7_lane_39 ?_
      exact W.iret (v := ((-1000100 : Int32) - (V1 3 2))) hx hb hr (x_reti hI hw) hI.2.2.2.2 dX7_lane_40
  exact hgo s.heap [] hI
def rm_X7_fault : Room := { frames := 0, cells := 0, slots := 0, locals := 0 }
set_option maxHeartbeats 4000000 in
set_option maxRecDepth 100000 in
theorem c_X7_fault (l : Launch) (g : GP) (ad : Nat → Nat) (sz : Nat) (V : VT)   (K : Int32 → VT → Prop) (hw : wp_X7_fault V  K) : Met l yX7_fault wsX7_fault rm_X7_fault (va_Pc [.ref (ad 0)] (WPre 76 (cX g ad) ad g V sz)) (va_Qi K (WPost 76 (cX g ad) ad g) (AW ad 76 sz)) 0 0 (AW ad 76 sz) := by
  refine Met.ofW (cc := cX7_fault) (maxL := 1) (ret := (some .int)) (by decide) rfl ?_
  intro p e s m args below meth c s₁ B hml hv
  obtain ⟨ha, hv⟩ := hv
  obtain rfl := hv.1
  have hI : WI g 76 (cX g ad) ad V s.heap s.heap [] := WI.start hv
  have hK := hv.2.2.1
  have hE := hv.2.2.2.2
  have hx := B.exec
  have hb := B.bytes
  have hr := B.returns
  have hts := atoms_spec (ws := wsX7_fault) B.pre
  have hown : s.vm.findClass RX7 = some m.cls := findClass_of_methodNamed B.named
  have hlocks := B.notSynchronized
  have hw_0 := hts (.fieldLink RX7 64 "HoopLane" "fault" "I") (by decide +kernel)
  have hin7 : ∀ w ∈ wsX70, w ∈ wsX7_fault := by decide +kernel
  have hl := lv_entry ([.ref (ad 0)]) (n := 1) (Nat.le_of_ble_eq_true rfl)
  have hent : entryFrame m args 1 = F0 m 0 ((lg_sl ([.ref (ad 0)]) ++ List.replicate (1 - (lg_sl ([.ref (ad 0)])).length) Slot.unset).toArray) [] := by rw [ha, lg_entry_eq]
  rw [hent]
  generalize (lg_sl ([.ref (ad 0)]) ++ List.replicate (1 - (lg_sl ([.ref (ad 0)])).length) Slot.unset).toArray = ls at hl ⊢
  have hl : lv_has ls 1 [(0, .ref (ad 0))] := hl
  obtain ⟨H, hH⟩ : ∃ H : Heap, H = s.heap := ⟨_, rfl⟩
  have hgo : ∀ (H : Heap) (locs : List Loc), WI g 76 (cX g ad) ad V s.heap H locs → W p l e (headSpec wsX7_fault rm_X7_fault).room s m args below meth c H locs 0 0 (MQ below (va_Qi K (WPost 76 (cX g ad) ad g) (AW ad 76 s.heap.size)) args s 0 0 (AW ad 76 s.heap.size)) (F0 m 0 ls []) := by
    intro H locs hI
    refine lv_aload_n hx hb dX7_fault_0 rfl (lv_at hl 0 rfl) ?_
    refine xg7_9 (k := 0) hx hb hts hin7 hown hK hI (by decide) hw_0 dX7_fault_1 ?_
    exact W.iret (v := (V 0 9)) hx hb hr (x_reti hI hw) hI.2.2.2.2 dX7_fault_4
  exact hgo s.heap [] hI
def rm_X7_undo : Room := { frames := 2, cells := 0, slots := 0, locals := 42 }
set_option maxHeartbeats 4000000 in
set_option maxRecDepth 100000 in
theorem c_X7_undo (l : Launch) (g : GP) (ad : Nat → Nat) (sz : Nat) (V : VT)   (K : Int32 → VT → Prop) (hw : wp_X7_undo V  K) : Met l yX7_undo wsX7_undo rm_X7_undo (va_Pc [.ref (ad 0)] (WPre 76 (cX g ad) ad g V sz)) (va_Qi K (WPost 76 (cX g ad) ad g) (AW ad 76 sz)) 0 0 (AW ad 76 sz) := by
  refine Met.ofW (cc := cX7_undo) (maxL := 1) (ret := (some .int)) (by decide) rfl ?_
  intro p e s m args below meth c s₁ B hml hv
  obtain ⟨ha, hv⟩ := hv
  obtain rfl := hv.1
  have hI : WI g 76 (cX g ad) ad V s.heap s.heap [] := WI.start hv
  have hK := hv.2.2.1
  have hE := hv.2.2.2.2
  have hx := B.exec
  have hb := B.bytes
  have hr := B.returns
  have hts := atoms_spec (ws := wsX7_undo) B.pre
  have hown : s.vm.findClass RX7 = some m.cls := findClass_of_methodNamed B.named
  have hlocks := B.notSynchronized
  have hw_0 := hts (.fieldLink RX7 39 "HoopLane" "acts" "LHoopLane$Acts;") (by decide +kernel)
  have hw_1 := hts (.fieldLink RX7 137 "HoopLane$Acts" "count" "I") (by decide +kernel)
  have hw_2 := hts (.fieldLink RX7 22 "HoopLane" "lane" "LHoopLane$Lane;") (by decide +kernel)
  have hw_3 := hts (.constant RX7 140 (-1000002)) (by decide +kernel)
  have hin7 : ∀ w ∈ wsX70, w ∈ wsX7_undo := by decide +kernel
  have hin0 : ∀ w ∈ wsX00, w ∈ wsX7_undo := by decide +kernel
  have hl := lv_entry ([.ref (ad 0)]) (n := 1) (Nat.le_of_ble_eq_true rfl)
  have hent : entryFrame m args 1 = F0 m 0 ((lg_sl ([.ref (ad 0)]) ++ List.replicate (1 - (lg_sl ([.ref (ad 0)])).length) Slot.unset).toArray) [] := by rw [ha, lg_entry_eq]
  rw [hent]
  generalize (lg_sl ([.ref (ad 0)]) ++ List.replicate (1 - (lg_sl ([.ref (ad 0)])).length) Slot.unset).toArray = ls at hl ⊢
  have hl : lv_has ls 1 [(0, .ref (ad 0))] := hl
  obtain ⟨H, hH⟩ : ∃ H : Heap, H = s.heap := ⟨_, rfl⟩
  have hgo : ∀ (H : Heap) (locs : List Loc), WI g 76 (cX g ad) ad V s.heap H locs → W p l e (headSpec wsX7_undo rm_X7_undo).room s m args below meth c H locs 0 0 (MQ below (va_Qi K (WPost 76 (cX g ad) ad g) (AW ad 76 s.heap.size)) args s 0 0 (AW ad 76 s.heap.size)) (F0 m 0 ls []) := by
    intro H locs hI
    refine lv_aload_n hx hb dX7_undo_0 rfl (lv_at hl 0 rfl) ?_
    refine xg7_5 (k := 0) hx hb hts hin7 hown hK hI (by decide) hw_0 dX7_undo_1 ?_
    refine xg0_5 (k := 5) hx hb hts hin0 hown hK hI (by decide) hw_1 dX7_undo_4 ?_
    refine lv_if_ne (tgt := 13) hx hb dX7_undo_7 (by decide) (fun c1 => ?_) (fun c1 => ?_)
    · replace hw := hw.1 c1
      refine lv_aload_n hx hb dX7_undo_13 rfl (lv_at hl 0 rfl) ?_
      refine xg7_5 (k := 0) hx hb hts hin7 hown hK hI (by decide) hw_0 dX7_undo_14 ?_
      refine lv_aload_n hx hb dX7_undo_17 rfl (lv_at hl 0 rfl) ?_
      refine xg7_2 (k := 0) hx hb hts hin7 hown hK hI (by decide) hw_2 dX7_undo_18 ?_
      refine x_aftv (va_runV (As := [.ref (ad 16)]) (rest := []) ⟨hx, hb, hml, hown, hts⟩ (c_X0_takeBack l g ad H.size V 16 (by decide) _ hw) (cwV 1 hts gX7_undo_X0_takeBack rfl rfl rfl (by decide +kernel) ⟨Nat.le_of_ble_eq_true rfl, Nat.le_of_ble_eq_true rfl⟩) (x_preV (k := 5) hK hE hI (by decide) (cX_0 (by decide)) rfl) rfl rfl hl.1 rfl (lv_room (Nat.le_of_ble_eq_true rfl)) dX7_undo_21 ⟨Nat.zero_le _, Nat.zero_le _⟩) hI (fun V2 H locs hw hI => ?_)
      refine lv_aload_n hx hb dX7_undo_24 rfl (lv_at hl 0 rfl) ?_
      refine xg7_5 (k := 0) hx hb hts hin7 hown hK hI (by decide) hw_0 dX7_undo_25 ?_
      refine xg0_5 (k := 5) hx hb hts hin0 hown hK hI (by decide) hw_1 dX7_undo_28 ?_
      exact W.iret (v := (V2 5 5)) hx hb hr (x_reti hI hw) hI.2.2.2.2 dX7_undo_31
    · replace hw := hw.2 c1
      refine lv_ldc (v := (-1000002 : Int32)) hx hb hown hw_3 dX7_undo_10 ?_
      exact W.iret (v := (-1000002 : Int32)) hx hb hr (x_reti hI hw) hI.2.2.2.2 dX7_undo_12
  exact hgo s.heap [] hI
def rm_X7_moment : Room := { frames := 4, cells := 0, slots := 0, locals := 81 }
set_option maxHeartbeats 4000000 in
set_option maxRecDepth 100000 in
theorem c_X7_moment (l : Launch) (g : GP) (ad : Nat → Nat) (sz : Nat) (V : VT) (x1 : Int32)  (K : Int32 → VT → Prop) (hw : wp_X7_moment V x1 K) : Met l yX7_moment wsX7_moment rm_X7_moment (va_Pc [.ref (ad 0), .int x1] (WPre 76 (cX g ad) ad g V sz)) (va_Qi K (WPost 76 (cX g ad) ad g) (AW ad 76 sz)) 0 0 (AW ad 76 sz) := by
  refine Met.ofW (cc := cX7_moment) (maxL := 2) (ret := (some .int)) (by decide) rfl ?_
  intro p e s m args below meth c s₁ B hml hv
  obtain ⟨ha, hv⟩ := hv
  obtain rfl := hv.1
  have hI : WI g 76 (cX g ad) ad V s.heap s.heap [] := WI.start hv
  have hK := hv.2.2.1
  have hE := hv.2.2.2.2
  have hx := B.exec
  have hb := B.bytes
  have hr := B.returns
  have hts := atoms_spec (ws := wsX7_moment) B.pre
  have hown : s.vm.findClass RX7 = some m.cls := findClass_of_methodNamed B.named
  have hlocks := B.notSynchronized
  have hw_0 := hts (.fieldLink RX7 22 "HoopLane" "lane" "LHoopLane$Lane;") (by decide +kernel)
  have hw_1 := hts (.fieldLink RX7 134 "HoopLane$Lane" "taps" "I") (by decide +kernel)
  have hw_2 := hts (.fieldLink RX7 147 "HoopLane$Lane" "hoop" "LHoopLane$Hoop;") (by decide +kernel)
  have hw_3 := hts (.fieldLink RX7 150 "HoopLane$Hoop" "end" "I") (by decide +kernel)
  have hw_4 := hts (.fieldLink RX7 153 "HoopLane$Lane" "moment" "I") (by decide +kernel)
  have hw_5 := hts (.fieldLink RX7 39 "HoopLane" "acts" "LHoopLane$Acts;") (by decide +kernel)
  have hw_6 := hts (.fieldLink RX7 170 "HoopLane$Hoop" "yard" "I") (by decide +kernel)
  have hw_7 := hts (.constant RX7 117 (-1000003)) (by decide +kernel)
  have hw_8 := hts (.constant RX7 140 (-1000002)) (by decide +kernel)
  have hw_9 := hts (.constant RX7 76 (-1000001)) (by decide +kernel)
  have hin7 : ∀ w ∈ wsX70, w ∈ wsX7_moment := by decide +kernel
  have hin3 : ∀ w ∈ wsX30, w ∈ wsX7_moment := by decide +kernel
  have hin2 : ∀ w ∈ wsX20, w ∈ wsX7_moment := by decide +kernel
  have hl := lv_entry ([.ref (ad 0), .int x1]) (n := 2) (Nat.le_of_ble_eq_true rfl)
  have hent : entryFrame m args 2 = F0 m 0 ((lg_sl ([.ref (ad 0), .int x1]) ++ List.replicate (2 - (lg_sl ([.ref (ad 0), .int x1])).length) Slot.unset).toArray) [] := by rw [ha, lg_entry_eq]
  rw [hent]
  generalize (lg_sl ([.ref (ad 0), .int x1]) ++ List.replicate (2 - (lg_sl ([.ref (ad 0), .int x1])).length) Slot.unset).toArray = ls at hl ⊢
  have hl : lv_has ls 2 [(0, .ref (ad 0)), (1, .int x1)] := hl
  obtain ⟨H, hH⟩ : ∃ H : Heap, H = s.heap := ⟨_, rfl⟩
  have hgo : ∀ (H : Heap) (locs : List Loc), WI g 76 (cX g ad) ad V s.heap H locs → W p l e (headSpec wsX7_moment rm_X7_moment).room s m args below meth c H locs 0 0 (MQ below (va_Qi K (WPost 76 (cX g ad) ad g) (AW ad 76 s.heap.size)) args s 0 0 (AW ad 76 s.heap.size)) (F0 m 0 ls []) := by
    intro H locs hI
    refine lv_aload_n hx hb dX7_moment_0 rfl (lv_at hl 0 rfl) ?_
    refine xg7_2 (k := 0) hx hb hts hin7 hown hK hI (by decide) hw_0 dX7_moment_1 ?_
    refine x_afti (va_runV (As := []) (rest := []) ⟨hx, hb, hml, hown, hts⟩ (c_X3_isThere l g ad H.size V 16 (by decide) _ hw) (cwV 0 hts gX7_moment_X3_isThere rfl rfl rfl (by decide +kernel) ⟨Nat.le_of_ble_eq_true rfl, Nat.le_of_ble_eq_true rfl⟩) (x_preV (k := 16) hK hE hI (by decide) (cX_3 (by decide)) rfl) rfl rfl hl.1 rfl (lv_room (Nat.le_of_ble_eq_true rfl)) dX7_moment_4 ⟨Nat.zero_le _, Nat.zero_le _⟩) hI (fun r2 V1 H locs hw hI => ?_)
    refine lv_if_ne (tgt := 13) hx hb dX7_moment_7 (by decide) (fun c3 => ?_) (fun c3 => ?_)
    · replace hw := hw.1 c3
      refine lv_iload_n hx hb dX7_moment_13 rfl (lv_at hl 1 rfl) ?_
      refine lv_iconst (v := (-1 : Int32)) hx hb dX7_moment_14 (by decide) ?_
      refine lv_aload_n hx hb dX7_moment_15 rfl (lv_at hl 0 rfl) ?_
      refine xg7_2 (k := 0) hx hb hts hin7 hown hK hI (by decide) hw_0 dX7_moment_16 ?_
      refine xg3_5 (k := 16) hx hb hts hin3 hown hK hI (by decide) hw_1 dX7_moment_19 ?_
      refine lv_iconst (v := (1 : Int32)) hx hb dX7_moment_22 (by decide) ?_
      refine lv_isub hx hb dX7_moment_23 ?_
      refine x_afti (va_runS (As := [.int x1, .int (-1 : Int32), .int ((V1 16 5) - (1 : Int32))]) (rest := []) ⟨hx, hb, hml, hown, hts⟩ (c_X7_isOut l g ad H.size V1 x1 (-1 : Int32) ((V1 16 5) - (1 : Int32)) _ hw) (cwS 3 hts gX7_moment_X7_isOut rfl rfl rfl (by decide +kernel) ⟨Nat.le_of_ble_eq_true rfl, Nat.le_of_ble_eq_true rfl⟩) (x_preS hK hE hI) rfl rfl hl.1 rfl (lv_room (Nat.le_of_ble_eq_true rfl)) dX7_moment_24 ⟨Nat.zero_le _, Nat.zero_le _⟩) hI (fun r5 V4 H locs hw hI => ?_)
      refine lv_if_eq (tgt := 33) hx hb dX7_moment_27 (by decide) (fun c6 => ?_) (fun c6 => ?_)
      · replace hw := hw.1 c6
        refine lv_aload_n hx hb dX7_moment_33 rfl (lv_at hl 0 rfl) ?_
        refine xg7_2 (k := 0) hx hb hts hin7 hown hK hI (by decide) hw_0 dX7_moment_34 ?_
        refine xg3_3 (k := 16) hx hb hts hin3 hown hK hI (by decide) hw_2 dX7_moment_37 ?_
        refine xg2_3 (k := 20) hx hb hts hin2 hown hK hI (by decide) hw_3 dX7_moment_40 ?_
        refine lv_if_eq (tgt := 49) hx hb dX7_moment_43 (by decide) (fun c7 => ?_) (fun c7 => ?_)
        · replace hw := hw.1 c7
          refine lv_aload_n hx hb dX7_moment_49 rfl (lv_at hl 0 rfl) ?_
          refine xg7_2 (k := 0) hx hb hts hin7 hown hK hI (by decide) hw_0 dX7_moment_50 ?_
          refine xg3_8 (k := 16) hx hb hts hin3 hown hK hI (by decide) hw_4 dX7_moment_53 ?_
          refine lv_sipush (v := (999 : Int32)) hx hb dX7_moment_56 (by decide) ?_
          refine lv_icmp_lt (tgt := 65) hx hb dX7_moment_59 (by decide) (fun c8 => ?_) (fun c8 => ?_)
          · replace hw := hw.1 c8
            refine lv_aload_n hx hb dX7_moment_65 rfl (lv_at hl 0 rfl) ?_
            refine xg7_5 (k := 0) hx hb hts hin7 hown hK hI (by decide) hw_5 dX7_moment_66 ?_
            refine lv_aload_n hx hb dX7_moment_69 rfl (lv_at hl 0 rfl) ?_
            refine xg7_2 (k := 0) hx hb hts hin7 hown hK hI (by decide) hw_0 dX7_moment_70 ?_
            refine lv_iconst (v := (0 : Int32)) hx hb dX7_moment_73 (by decide) ?_
            refine x_aftv (va_runV (As := [.ref (ad 16), .int (0 : Int32)]) (rest := []) ⟨hx, hb, hml, hown, hts⟩ (c_X0_keep l g ad H.size V4 16 (0 : Int32) (by decide) _ hw) (cwV 2 hts gX7_moment_X0_keep rfl rfl rfl (by decide +kernel) ⟨Nat.le_of_ble_eq_true rfl, Nat.le_of_ble_eq_true rfl⟩) (x_preV (k := 5) hK hE hI (by decide) (cX_0 (by decide)) rfl) rfl rfl hl.1 rfl (lv_room (Nat.le_of_ble_eq_true rfl)) dX7_moment_74 ⟨Nat.zero_le _, Nat.zero_le _⟩) hI (fun V9 H locs hw hI => ?_)
            refine lv_aload_n hx hb dX7_moment_77 rfl (lv_at hl 0 rfl) ?_
            refine xg7_2 (k := 0) hx hb hts hin7 hown hK hI (by decide) hw_0 dX7_moment_78 ?_
            refine xg3_3 (k := 16) hx hb hts hin3 hown hK hI (by decide) hw_2 dX7_moment_81 ?_
            refine lv_aload_n hx hb dX7_moment_84 rfl (lv_at hl 0 rfl) ?_
            refine xg7_2 (k := 0) hx hb hts hin7 hown hK hI (by decide) hw_0 dX7_moment_85 ?_
            refine lv_aload_n hx hb dX7_moment_88 rfl (lv_at hl 0 rfl) ?_
            refine xg7_2 (k := 0) hx hb hts hin7 hown hK hI (by decide) hw_0 dX7_moment_89 ?_
            refine lv_iload_n hx hb dX7_moment_92 rfl (lv_at hl 1 rfl) ?_
            refine x_afti (va_runV (As := [.int x1]) (rest := [.ref (ad 16), .ref (ad 20)]) ⟨hx, hb, hml, hown, hts⟩ (c_X3_kindAt l g ad H.size V9 16 x1 (by decide) _ hw) (cwV 1 hts gX7_moment_X3_kindAt rfl rfl rfl (by decide +kernel) ⟨Nat.le_of_ble_eq_true rfl, Nat.le_of_ble_eq_true rfl⟩) (x_preV (k := 16) hK hE hI (by decide) (cX_3 (by decide)) rfl) rfl rfl hl.1 rfl (lv_room (Nat.le_of_ble_eq_true rfl)) dX7_moment_93 ⟨Nat.zero_le _, Nat.zero_le _⟩) hI (fun r11 V10 H locs hw hI => ?_)
            refine lv_aload_n hx hb dX7_moment_96 rfl (lv_at hl 0 rfl) ?_
            refine xg7_2 (k := 0) hx hb hts hin7 hown hK hI (by decide) hw_0 dX7_moment_97 ?_
            refine lv_iload_n hx hb dX7_moment_100 rfl (lv_at hl 1 rfl) ?_
            refine x_afti (va_runV (As := [.int x1]) (rest := [.int r11, .ref (ad 16), .ref (ad 20)]) ⟨hx, hb, hml, hown, hts⟩ (c_X3_forceAt l g ad H.size V10 16 x1 (by decide) _ hw) (cwV 1 hts gX7_moment_X3_forceAt rfl rfl rfl (by decide +kernel) ⟨Nat.le_of_ble_eq_true rfl, Nat.le_of_ble_eq_true rfl⟩) (x_preV (k := 16) hK hE hI (by decide) (cX_3 (by decide)) rfl) rfl rfl hl.1 rfl (lv_room (Nat.le_of_ble_eq_true rfl)) dX7_moment_101 ⟨Nat.zero_le _, Nat.zero_le _⟩) hI (fun r13 V12 H locs hw hI => ?_)
            refine x_aftv (va_runV (As := [.ref (ad 16), .int r11, .int r13]) (rest := []) ⟨hx, hb, hml, hown, hts⟩ (c_X2_pass l g ad H.size V12 20 16 r11 r13 (by decide) (by decide) _ hw) (cwV 3 hts gX7_moment_X2_pass rfl rfl rfl (by decide +kernel) ⟨Nat.le_of_ble_eq_true rfl, Nat.le_of_ble_eq_true rfl⟩) (x_preV (k := 20) hK hE hI (by decide) (cX_2 (by decide)) rfl) rfl rfl hl.1 rfl (lv_room (Nat.le_of_ble_eq_true rfl)) dX7_moment_104 ⟨Nat.zero_le _, Nat.zero_le _⟩) hI (fun V14 H locs hw hI => ?_)
            refine lv_aload_n hx hb dX7_moment_107 rfl (lv_at hl 0 rfl) ?_
            refine xg7_2 (k := 0) hx hb hts hin7 hown hK hI (by decide) hw_0 dX7_moment_108 ?_
            refine lv_dup hx hb dX7_moment_111 rfl ?_
            refine xg3_8 (k := 16) hx hb hts hin3 hown hK hI (by decide) hw_4 dX7_moment_112 ?_
            refine lv_iconst (v := (1 : Int32)) hx hb dX7_moment_115 (by decide) ?_
            refine lv_iadd hx hb dX7_moment_116 ?_
            refine xp3_8 (k := 16) hx hb hts hin3 hown hK hI (by decide) hw_4 dX7_moment_117 (fun V15 H locs eV15 hI => ?_)
            replace hw := hw V15 eV15
            refine lv_aload_n hx hb dX7_moment_120 rfl (lv_at hl 0 rfl) ?_
            refine xg7_2 (k := 0) hx hb hts hin7 hown hK hI (by decide) hw_0 dX7_moment_121 ?_
            refine xg3_3 (k := 16) hx hb hts hin3 hown hK hI (by decide) hw_2 dX7_moment_124 ?_
            refine xg2_0 (k := 20) hx hb hts hin2 hown hK hI (by decide) hw_6 dX7_moment_127 ?_
            exact W.iret (v := (V15 20 0)) hx hb hr (x_reti hI hw) hI.2.2.2.2 dX7_moment_130
          · replace hw := hw.2 c8
            refine lv_ldc (v := (-1000003 : Int32)) hx hb hown hw_7 dX7_moment_62 ?_
            exact W.iret (v := (-1000003 : Int32)) hx hb hr (x_reti hI hw) hI.2.2.2.2 dX7_moment_64
        · replace hw := hw.2 c7
          refine lv_ldc (v := (-1000002 : Int32)) hx hb hown hw_8 dX7_moment_46 ?_
          exact W.iret (v := (-1000002 : Int32)) hx hb hr (x_reti hI hw) hI.2.2.2.2 dX7_moment_48
      · replace hw := hw.2 c6
        refine lv_ldc (v := (-1000001 : Int32)) hx hb hown hw_9 dX7_moment_30 ?_
        exact W.iret (v := (-1000001 : Int32)) hx hb hr (x_reti hI hw) hI.2.2.2.2 dX7_moment_32
    · replace hw := hw.2 c3
      refine lv_ldc (v := (-1000002 : Int32)) hx hb hown hw_8 dX7_moment_10 ?_
      exact W.iret (v := (-1000002 : Int32)) hx hb hr (x_reti hI hw) hI.2.2.2.2 dX7_moment_12
  exact hgo s.heap [] hI
def rm_X7_setUp : Room := { frames := 2, cells := 0, slots := 0, locals := 43 }
set_option maxHeartbeats 4000000 in
set_option maxRecDepth 100000 in
theorem c_X7_setUp (l : Launch) (g : GP) (ad : Nat → Nat) (sz : Nat) (V : VT) (x1 : Int32) (x2 : Int32) (x3 : Int32)  (K : Int32 → VT → Prop) (hw : wp_X7_setUp V x1 x2 x3 K) : Met l yX7_setUp wsX7_setUp rm_X7_setUp (va_Pc [.ref (ad 0), .int x1, .int x2, .int x3] (WPre 76 (cX g ad) ad g V sz)) (va_Qi K (WPost 76 (cX g ad) ad g) (AW ad 76 sz)) 0 0 (AW ad 76 sz) := by
  refine Met.ofW (cc := cX7_setUp) (maxL := 5) (ret := (some .int)) (by decide) rfl ?_
  intro p e s m args below meth c s₁ B hml hv
  obtain ⟨ha, hv⟩ := hv
  obtain rfl := hv.1
  have hI : WI g 76 (cX g ad) ad V s.heap s.heap [] := WI.start hv
  have hK := hv.2.2.1
  have hE := hv.2.2.2.2
  have hx := B.exec
  have hb := B.bytes
  have hr := B.returns
  have hts := atoms_spec (ws := wsX7_setUp) B.pre
  have hown : s.vm.findClass RX7 = some m.cls := findClass_of_methodNamed B.named
  have hlocks := B.notSynchronized
  have hw_0 := hts (.fieldLink RX7 22 "HoopLane" "lane" "LHoopLane$Lane;") (by decide +kernel)
  have hw_1 := hts (.fieldLink RX7 173 "HoopLane$Lane" "yards" "I") (by decide +kernel)
  have hw_2 := hts (.constant RX7 76 (-1000001)) (by decide +kernel)
  have hw_3 := hts (.fieldLink RX7 176 "HoopLane$Lane" "holds" "I") (by decide +kernel)
  have hw_4 := hts (.fieldLink RX7 147 "HoopLane$Lane" "hoop" "LHoopLane$Hoop;") (by decide +kernel)
  have hw_5 := hts (.fieldLink RX7 170 "HoopLane$Hoop" "yard" "I") (by decide +kernel)
  have hw_6 := hts (.fieldLink RX7 39 "HoopLane" "acts" "LHoopLane$Acts;") (by decide +kernel)
  have hw_7 := hts (.constant RX7 140 (-1000002)) (by decide +kernel)
  have hin7 : ∀ w ∈ wsX70, w ∈ wsX7_setUp := by decide +kernel
  have hin3 : ∀ w ∈ wsX30, w ∈ wsX7_setUp := by decide +kernel
  have hin2 : ∀ w ∈ wsX20, w ∈ wsX7_setUp := by decide +kernel
  have hl := lv_entry ([.ref (ad 0), .int x1, .int x2, .int x3]) (n := 5) (Nat.le_of_ble_eq_true rfl)
  have hent : entryFrame m args 5 = F0 m 0 ((lg_sl ([.ref (ad 0), .int x1, .int x2, .int x3]) ++ List.replicate (5 - (lg_sl ([.ref (ad 0), .int x1, .int x2, .int x3])).length) Slot.unset).toArray) [] := by rw [ha, lg_entry_eq]
  rw [hent]
  generalize (lg_sl ([.ref (ad 0), .int x1, .int x2, .int x3]) ++ List.replicate (5 - (lg_sl ([.ref (ad 0), .int x1, .int x2, .int x3])).length) Slot.unset).toArray = ls at hl ⊢
  have hl : lv_has ls 5 [(0, .ref (ad 0)), (1, .int x1), (2, .int x2), (3, .int x3)] := hl
  obtain ⟨H, hH⟩ : ∃ H : Heap, H = s.heap := ⟨_, rfl⟩
  have hgo : ∀ (H : Heap) (locs : List Loc), WI g 76 (cX g ad) ad V s.heap H locs → W p l e (headSpec wsX7_setUp rm_X7_setUp).room s m args below meth c H locs 0 0 (MQ below (va_Qi K (WPost 76 (cX g ad) ad g) (AW ad 76 s.heap.size)) args s 0 0 (AW ad 76 s.heap.size)) (F0 m 0 ls []) := by
    intro H locs hI
    refine lv_aload_n hx hb dX7_setUp_0 rfl (lv_at hl 0 rfl) ?_
    refine xg7_2 (k := 0) hx hb hts hin7 hown hK hI (by decide) hw_0 dX7_setUp_1 ?_
    refine x_afti (va_runV (As := []) (rest := []) ⟨hx, hb, hml, hown, hts⟩ (c_X3_isThere l g ad H.size V 16 (by decide) _ hw) (cwV 0 hts gX7_setUp_X3_isThere rfl rfl rfl (by decide +kernel) ⟨Nat.le_of_ble_eq_true rfl, Nat.le_of_ble_eq_true rfl⟩) (x_preV (k := 16) hK hE hI (by decide) (cX_3 (by decide)) rfl) rfl rfl hl.1 rfl (lv_room (Nat.le_of_ble_eq_true rfl)) dX7_setUp_4 ⟨Nat.zero_le _, Nat.zero_le _⟩) hI (fun r2 V1 H locs hw hI => ?_)
    refine lv_if_ne (tgt := 13) hx hb dX7_setUp_7 (by decide) (fun c3 => ?_) (fun c3 => ?_)
    · replace hw := hw.1 c3
      refine lv_iload_n hx hb dX7_setUp_13 rfl (lv_at hl 1 rfl) ?_
      refine lv_iconst (v := (0 : Int32)) hx hb dX7_setUp_14 (by decide) ?_
      refine lv_aload_n hx hb dX7_setUp_15 rfl (lv_at hl 0 rfl) ?_
      refine xg7_2 (k := 0) hx hb hts hin7 hown hK hI (by decide) hw_0 dX7_setUp_16 ?_
      refine xg3_4 (k := 16) hx hb hts hin3 hown hK hI (by decide) hw_1 dX7_setUp_19 ?_
      refine lv_iconst (v := (1 : Int32)) hx hb dX7_setUp_22 (by decide) ?_
      refine lv_isub hx hb dX7_setUp_23 ?_
      refine x_afti (va_runS (As := [.int x1, .int (0 : Int32), .int ((V1 16 4) - (1 : Int32))]) (rest := []) ⟨hx, hb, hml, hown, hts⟩ (c_X7_isOut l g ad H.size V1 x1 (0 : Int32) ((V1 16 4) - (1 : Int32)) _ hw) (cwS 3 hts gX7_setUp_X7_isOut rfl rfl rfl (by decide +kernel) ⟨Nat.le_of_ble_eq_true rfl, Nat.le_of_ble_eq_true rfl⟩) (x_preS hK hE hI) rfl rfl hl.1 rfl (lv_room (Nat.le_of_ble_eq_true rfl)) dX7_setUp_24 ⟨Nat.zero_le _, Nat.zero_le _⟩) hI (fun r5 V4 H locs hw hI => ?_)
      refine lv_if_ne (tgt := 63) hx hb dX7_setUp_27 (by decide) (fun c6 => ?_) (fun c6 => ?_)
      · replace hw := hw.1 c6
        refine lv_ldc (v := (-1000001 : Int32)) hx hb hown hw_2 dX7_setUp_63 ?_
        exact W.iret (v := (-1000001 : Int32)) hx hb hr (x_reti hI hw) hI.2.2.2.2 dX7_setUp_65
      · replace hw := hw.2 c6
        refine lv_iload_n hx hb dX7_setUp_30 rfl (lv_at hl 2 rfl) ?_
        refine lv_iconst (v := (1 : Int32)) hx hb dX7_setUp_31 (by decide) ?_
        refine lv_bipush (v := (9 : Int32)) hx hb dX7_setUp_32 (by decide) ?_
        refine x_afti (va_runS (As := [.int x2, .int (1 : Int32), .int (9 : Int32)]) (rest := []) ⟨hx, hb, hml, hown, hts⟩ (c_X7_isOut l g ad H.size V4 x2 (1 : Int32) (9 : Int32) _ hw) (cwS 3 hts gX7_setUp_X7_isOut rfl rfl rfl (by decide +kernel) ⟨Nat.le_of_ble_eq_true rfl, Nat.le_of_ble_eq_true rfl⟩) (x_preS hK hE hI) rfl rfl hl.1 rfl (lv_room (Nat.le_of_ble_eq_true rfl)) dX7_setUp_34 ⟨Nat.zero_le _, Nat.zero_le _⟩) hI (fun r8 V7 H locs hw hI => ?_)
        refine lv_if_ne (tgt := 63) hx hb dX7_setUp_37 (by decide) (fun c9 => ?_) (fun c9 => ?_)
        · replace hw := hw.1 c9
          refine lv_ldc (v := (-1000001 : Int32)) hx hb hown hw_2 dX7_setUp_63 ?_
          exact W.iret (v := (-1000001 : Int32)) hx hb hr (x_reti hI hw) hI.2.2.2.2 dX7_setUp_65
        · replace hw := hw.2 c9
          refine lv_iload_n hx hb dX7_setUp_40 rfl (lv_at hl 3 rfl) ?_
          refine lv_iconst (v := (0 : Int32)) hx hb dX7_setUp_41 (by decide) ?_
          refine lv_aload_n hx hb dX7_setUp_42 rfl (lv_at hl 0 rfl) ?_
          refine xg7_2 (k := 0) hx hb hts hin7 hown hK hI (by decide) hw_0 dX7_setUp_43 ?_
          refine xg3_6 (k := 16) hx hb hts hin3 hown hK hI (by decide) hw_3 dX7_setUp_46 ?_
          refine lv_isub hx hb dX7_setUp_49 ?_
          refine lv_aload_n hx hb dX7_setUp_50 rfl (lv_at hl 0 rfl) ?_
          refine xg7_2 (k := 0) hx hb hts hin7 hown hK hI (by decide) hw_0 dX7_setUp_51 ?_
          refine xg3_6 (k := 16) hx hb hts hin3 hown hK hI (by decide) hw_3 dX7_setUp_54 ?_
          refine x_afti (va_runS (As := [.int x3, .int ((0 : Int32) - (V7 16 6)), .int (V7 16 6)]) (rest := []) ⟨hx, hb, hml, hown, hts⟩ (c_X7_isOut l g ad H.size V7 x3 ((0 : Int32) - (V7 16 6)) (V7 16 6) _ hw) (cwS 3 hts gX7_setUp_X7_isOut rfl rfl rfl (by decide +kernel) ⟨Nat.le_of_ble_eq_true rfl, Nat.le_of_ble_eq_true rfl⟩) (x_preS hK hE hI) rfl rfl hl.1 rfl (lv_room (Nat.le_of_ble_eq_true rfl)) dX7_setUp_57 ⟨Nat.zero_le _, Nat.zero_le _⟩) hI (fun r11 V10 H locs hw hI => ?_)
          refine lv_if_eq (tgt := 66) hx hb dX7_setUp_60 (by decide) (fun c12 => ?_) (fun c12 => ?_)
          · replace hw := hw.1 c12
            refine lv_aload_n hx hb dX7_setUp_66 rfl (lv_at hl 0 rfl) ?_
            refine xg7_2 (k := 0) hx hb hts hin7 hown hK hI (by decide) hw_0 dX7_setUp_67 ?_
            refine xg3_3 (k := 16) hx hb hts hin3 hown hK hI (by decide) hw_4 dX7_setUp_70 ?_
            refine xg2_0 (k := 20) hx hb hts hin2 hown hK hI (by decide) hw_5 dX7_setUp_73 ?_
            refine lv_istore (lv' := [(4, .int (V10 20 0)), (0, .ref (ad 0)), (1, .int x1), (2, .int x2), (3, .int x3)]) hx hb dX7_setUp_76 hl (by decide) rfl (fun ls hl => ?_)
            refine lv_aload_n hx hb dX7_setUp_78 rfl (lv_at hl 1 rfl) ?_
            refine xg7_5 (k := 0) hx hb hts hin7 hown hK hI (by decide) hw_6 dX7_setUp_79 ?_
            refine lv_aload_n hx hb dX7_setUp_82 rfl (lv_at hl 1 rfl) ?_
            refine xg7_2 (k := 0) hx hb hts hin7 hown hK hI (by decide) hw_0 dX7_setUp_83 ?_
            refine lv_iconst (v := (0 : Int32)) hx hb dX7_setUp_86 (by decide) ?_
            refine x_aftv (va_runV (As := [.ref (ad 16), .int (0 : Int32)]) (rest := []) ⟨hx, hb, hml, hown, hts⟩ (c_X0_keep l g ad H.size V10 16 (0 : Int32) (by decide) _ hw) (cwV 2 hts gX7_setUp_X0_keep rfl rfl rfl (by decide +kernel) ⟨Nat.le_of_ble_eq_true rfl, Nat.le_of_ble_eq_true rfl⟩) (x_preV (k := 5) hK hE hI (by decide) (cX_0 (by decide)) rfl) rfl rfl hl.1 rfl (lv_room (Nat.le_of_ble_eq_true rfl)) dX7_setUp_87 ⟨Nat.zero_le _, Nat.zero_le _⟩) hI (fun V13 H locs hw hI => ?_)
            refine lv_aload_n hx hb dX7_setUp_90 rfl (lv_at hl 1 rfl) ?_
            refine xg7_2 (k := 0) hx hb hts hin7 hown hK hI (by decide) hw_0 dX7_setUp_91 ?_
            refine xg3_3 (k := 16) hx hb hts hin3 hown hK hI (by decide) hw_4 dX7_setUp_94 ?_
            refine lv_iload_n hx hb dX7_setUp_97 rfl (lv_at hl 2 rfl) ?_
            refine lv_iload_n hx hb dX7_setUp_98 rfl (lv_at hl 3 rfl) ?_
            refine lv_iload_n hx hb dX7_setUp_99 rfl (lv_at hl 4 rfl) ?_
            refine x_aftv (va_runV (As := [.int x1, .int x2, .int x3]) (rest := []) ⟨hx, hb, hml, hown, hts⟩ (c_X2_stand l g ad H.size V13 20 x1 x2 x3 (by decide) _ hw) (cwV 3 hts gX7_setUp_X2_stand rfl rfl rfl (by decide +kernel) ⟨Nat.le_of_ble_eq_true rfl, Nat.le_of_ble_eq_true rfl⟩) (x_preV (k := 20) hK hE hI (by decide) (cX_2 (by decide)) rfl) rfl rfl hl.1 rfl (lv_room (Nat.le_of_ble_eq_true rfl)) dX7_setUp_100 ⟨Nat.zero_le _, Nat.zero_le _⟩) hI (fun V14 H locs hw hI => ?_)
            refine lv_iload hx hb dX7_setUp_103 (lv_at hl 0 rfl) ?_
            exact W.iret (v := (V10 20 0)) hx hb hr (x_reti hI hw) hI.2.2.2.2 dX7_setUp_105
          · replace hw := hw.2 c12
            refine lv_ldc (v := (-1000001 : Int32)) hx hb hown hw_2 dX7_setUp_63 ?_
            exact W.iret (v := (-1000001 : Int32)) hx hb hr (x_reti hI hw) hI.2.2.2.2 dX7_setUp_65
    · replace hw := hw.2 c3
      refine lv_ldc (v := (-1000002 : Int32)) hx hb hown hw_7 dX7_setUp_10 ?_
      exact W.iret (v := (-1000002 : Int32)) hx hb hr (x_reti hI hw) hI.2.2.2.2 dX7_setUp_12
  exact hgo s.heap [] hI
def rm_X7_lay : Room := { frames := 2, cells := 0, slots := 0, locals := 43 }
set_option maxHeartbeats 4000000 in
set_option maxRecDepth 100000 in
theorem c_X7_lay (l : Launch) (g : GP) (ad : Nat → Nat) (sz : Nat) (V : VT) (x1 : Int32) (x2 : Int32)  (K : Int32 → VT → Prop) (hw : wp_X7_lay V x1 x2 K) : Met l yX7_lay wsX7_lay rm_X7_lay (va_Pc [.ref (ad 0), .int x1, .int x2] (WPre 76 (cX g ad) ad g V sz)) (va_Qi K (WPost 76 (cX g ad) ad g) (AW ad 76 sz)) 0 0 (AW ad 76 sz) := by
  refine Met.ofW (cc := cX7_lay) (maxL := 4) (ret := (some .int)) (by decide) rfl ?_
  intro p e s m args below meth c s₁ B hml hv
  obtain ⟨ha, hv⟩ := hv
  obtain rfl := hv.1
  have hI : WI g 76 (cX g ad) ad V s.heap s.heap [] := WI.start hv
  have hK := hv.2.2.1
  have hE := hv.2.2.2.2
  have hx := B.exec
  have hb := B.bytes
  have hr := B.returns
  have hts := atoms_spec (ws := wsX7_lay) B.pre
  have hown : s.vm.findClass RX7 = some m.cls := findClass_of_methodNamed B.named
  have hlocks := B.notSynchronized
  have hw_0 := hts (.fieldLink RX7 22 "HoopLane" "lane" "LHoopLane$Lane;") (by decide +kernel)
  have hw_1 := hts (.fieldLink RX7 173 "HoopLane$Lane" "yards" "I") (by decide +kernel)
  have hw_2 := hts (.constant RX7 76 (-1000001)) (by decide +kernel)
  have hw_3 := hts (.fieldLink RX7 183 "HoopLane$Lane" "grounds" "[I") (by decide +kernel)
  have hw_4 := hts (.fieldLink RX7 39 "HoopLane" "acts" "LHoopLane$Acts;") (by decide +kernel)
  have hw_5 := hts (.constant RX7 140 (-1000002)) (by decide +kernel)
  have hin7 : ∀ w ∈ wsX70, w ∈ wsX7_lay := by decide +kernel
  have hin3 : ∀ w ∈ wsX30, w ∈ wsX7_lay := by decide +kernel
  have hl := lv_entry ([.ref (ad 0), .int x1, .int x2]) (n := 4) (Nat.le_of_ble_eq_true rfl)
  have hent : entryFrame m args 4 = F0 m 0 ((lg_sl ([.ref (ad 0), .int x1, .int x2]) ++ List.replicate (4 - (lg_sl ([.ref (ad 0), .int x1, .int x2])).length) Slot.unset).toArray) [] := by rw [ha, lg_entry_eq]
  rw [hent]
  generalize (lg_sl ([.ref (ad 0), .int x1, .int x2]) ++ List.replicate (4 - (lg_sl ([.ref (ad 0), .int x1, .int x2])).length) Slot.unset).toArray = ls at hl ⊢
  have hl : lv_has ls 4 [(0, .ref (ad 0)), (1, .int x1), (2, .int x2)] := hl
  obtain ⟨H, hH⟩ : ∃ H : Heap, H = s.heap := ⟨_, rfl⟩
  have hgo : ∀ (H : Heap) (locs : List Loc), WI g 76 (cX g ad) ad V s.heap H locs → W p l e (headSpec wsX7_lay rm_X7_lay).room s m args below meth c H locs 0 0 (MQ below (va_Qi K (WPost 76 (cX g ad) ad g) (AW ad 76 s.heap.size)) args s 0 0 (AW ad 76 s.heap.size)) (F0 m 0 ls []) := by
    intro H locs hI
    refine lv_aload_n hx hb dX7_lay_0 rfl (lv_at hl 0 rfl) ?_
    refine xg7_2 (k := 0) hx hb hts hin7 hown hK hI (by decide) hw_0 dX7_lay_1 ?_
    refine x_afti (va_runV (As := []) (rest := []) ⟨hx, hb, hml, hown, hts⟩ (c_X3_isThere l g ad H.size V 16 (by decide) _ hw) (cwV 0 hts gX7_lay_X3_isThere rfl rfl rfl (by decide +kernel) ⟨Nat.le_of_ble_eq_true rfl, Nat.le_of_ble_eq_true rfl⟩) (x_preV (k := 16) hK hE hI (by decide) (cX_3 (by decide)) rfl) rfl rfl hl.1 rfl (lv_room (Nat.le_of_ble_eq_true rfl)) dX7_lay_4 ⟨Nat.zero_le _, Nat.zero_le _⟩) hI (fun r2 V1 H locs hw hI => ?_)
    refine lv_if_ne (tgt := 13) hx hb dX7_lay_7 (by decide) (fun c3 => ?_) (fun c3 => ?_)
    · replace hw := hw.1 c3
      refine lv_iload_n hx hb dX7_lay_13 rfl (lv_at hl 1 rfl) ?_
      refine lv_iconst (v := (0 : Int32)) hx hb dX7_lay_14 (by decide) ?_
      refine lv_aload_n hx hb dX7_lay_15 rfl (lv_at hl 0 rfl) ?_
      refine xg7_2 (k := 0) hx hb hts hin7 hown hK hI (by decide) hw_0 dX7_lay_16 ?_
      refine xg3_4 (k := 16) hx hb hts hin3 hown hK hI (by decide) hw_1 dX7_lay_19 ?_
      refine lv_iconst (v := (1 : Int32)) hx hb dX7_lay_22 (by decide) ?_
      refine lv_isub hx hb dX7_lay_23 ?_
      refine x_afti (va_runS (As := [.int x1, .int (0 : Int32), .int ((V1 16 4) - (1 : Int32))]) (rest := []) ⟨hx, hb, hml, hown, hts⟩ (c_X7_isOut l g ad H.size V1 x1 (0 : Int32) ((V1 16 4) - (1 : Int32)) _ hw) (cwS 3 hts gX7_lay_X7_isOut rfl rfl rfl (by decide +kernel) ⟨Nat.le_of_ble_eq_true rfl, Nat.le_of_ble_eq_true rfl⟩) (x_preS hK hE hI) rfl rfl hl.1 rfl (lv_room (Nat.le_of_ble_eq_true rfl)) dX7_lay_24 ⟨Nat.zero_le _, Nat.zero_le _⟩) hI (fun r5 V4 H locs hw hI => ?_)
      refine lv_if_ne (tgt := 39) hx hb dX7_lay_27 (by decide) (fun c6 => ?_) (fun c6 => ?_)
      · replace hw := hw.1 c6
        refine lv_ldc (v := (-1000001 : Int32)) hx hb hown hw_2 dX7_lay_39 ?_
        exact W.iret (v := (-1000001 : Int32)) hx hb hr (x_reti hI hw) hI.2.2.2.2 dX7_lay_41
      · replace hw := hw.2 c6
        refine lv_iload_n hx hb dX7_lay_30 rfl (lv_at hl 2 rfl) ?_
        refine lv_iconst (v := (0 : Int32)) hx hb dX7_lay_31 (by decide) ?_
        refine lv_iconst (v := (5 : Int32)) hx hb dX7_lay_32 (by decide) ?_
        refine x_afti (va_runS (As := [.int x2, .int (0 : Int32), .int (5 : Int32)]) (rest := []) ⟨hx, hb, hml, hown, hts⟩ (c_X7_isOut l g ad H.size V4 x2 (0 : Int32) (5 : Int32) _ hw) (cwS 3 hts gX7_lay_X7_isOut rfl rfl rfl (by decide +kernel) ⟨Nat.le_of_ble_eq_true rfl, Nat.le_of_ble_eq_true rfl⟩) (x_preS hK hE hI) rfl rfl hl.1 rfl (lv_room (Nat.le_of_ble_eq_true rfl)) dX7_lay_33 ⟨Nat.zero_le _, Nat.zero_le _⟩) hI (fun r8 V7 H locs hw hI => ?_)
        refine lv_if_eq (tgt := 42) hx hb dX7_lay_36 (by decide) (fun c9 => ?_) (fun c9 => ?_)
        · replace hw := hw.1 c9
          refine lv_aload_n hx hb dX7_lay_42 rfl (lv_at hl 0 rfl) ?_
          refine xg7_2 (k := 0) hx hb hts hin7 hown hK hI (by decide) hw_0 dX7_lay_43 ?_
          refine xg3_0 (k := 16) hx hb hts hin3 hown hK hI (by decide) hw_3 dX7_lay_46 ?_
          refine lv_iload_n hx hb dX7_lay_49 rfl (lv_at hl 1 rfl) ?_
          obtain ⟨h10, hw⟩ := hw
          refine x_iald (k := 17) hx hb hK hI (by decide) (cX_9 (by decide) (by decide)) h10 dX7_lay_50 ?_
          refine lv_istore_n (lv' := [(3, .int (V7 17 (x1).toNatClampNeg)), (0, .ref (ad 0)), (1, .int x1), (2, .int x2)]) hx hb dX7_lay_51 rfl hl (by decide) rfl (fun ls hl => ?_)
          refine lv_aload_n hx hb dX7_lay_52 rfl (lv_at hl 1 rfl) ?_
          refine xg7_5 (k := 0) hx hb hts hin7 hown hK hI (by decide) hw_4 dX7_lay_53 ?_
          refine lv_aload_n hx hb dX7_lay_56 rfl (lv_at hl 1 rfl) ?_
          refine xg7_2 (k := 0) hx hb hts hin7 hown hK hI (by decide) hw_0 dX7_lay_57 ?_
          refine lv_iload_n hx hb dX7_lay_60 rfl (lv_at hl 2 rfl) ?_
          refine x_aftv (va_runV (As := [.ref (ad 16), .int x1]) (rest := []) ⟨hx, hb, hml, hown, hts⟩ (c_X0_keep l g ad H.size V7 16 x1 (by decide) _ hw) (cwV 2 hts gX7_lay_X0_keep rfl rfl rfl (by decide +kernel) ⟨Nat.le_of_ble_eq_true rfl, Nat.le_of_ble_eq_true rfl⟩) (x_preV (k := 5) hK hE hI (by decide) (cX_0 (by decide)) rfl) rfl rfl hl.1 rfl (lv_room (Nat.le_of_ble_eq_true rfl)) dX7_lay_61 ⟨Nat.zero_le _, Nat.zero_le _⟩) hI (fun V11 H locs hw hI => ?_)
          refine lv_aload_n hx hb dX7_lay_64 rfl (lv_at hl 1 rfl) ?_
          refine xg7_2 (k := 0) hx hb hts hin7 hown hK hI (by decide) hw_0 dX7_lay_65 ?_
          refine xg3_0 (k := 16) hx hb hts hin3 hown hK hI (by decide) hw_3 dX7_lay_68 ?_
          refine lv_iload_n hx hb dX7_lay_71 rfl (lv_at hl 2 rfl) ?_
          refine lv_iload_n hx hb dX7_lay_72 rfl (lv_at hl 3 rfl) ?_
          obtain ⟨h12, hw⟩ := hw
          refine x_iastV (k := 17) hx hb hK hI (cX_loc g ad) (by decide) (fun _ => cX_9 (by decide) (by decide)) h12 dX7_lay_73 (fun V13 H locs eV13 hI => ?_)
          replace hw := hw V13 eV13
          refine lv_iload_n hx hb dX7_lay_74 rfl (lv_at hl 0 rfl) ?_
          exact W.iret (v := (V7 17 (x1).toNatClampNeg)) hx hb hr (x_reti hI hw) hI.2.2.2.2 dX7_lay_75
        · replace hw := hw.2 c9
          refine lv_ldc (v := (-1000001 : Int32)) hx hb hown hw_2 dX7_lay_39 ?_
          exact W.iret (v := (-1000001 : Int32)) hx hb hr (x_reti hI hw) hI.2.2.2.2 dX7_lay_41
    · replace hw := hw.2 c3
      refine lv_ldc (v := (-1000002 : Int32)) hx hb hown hw_5 dX7_lay_10 ?_
      exact W.iret (v := (-1000002 : Int32)) hx hb hr (x_reti hI hw) hI.2.2.2.2 dX7_lay_12
  exact hgo s.heap [] hI
def rm_X7_hoop : Room := { frames := 1, cells := 0, slots := 0, locals := 22 }
set_option maxHeartbeats 4000000 in
set_option maxRecDepth 100000 in
theorem c_X7_hoop (l : Launch) (g : GP) (ad : Nat → Nat) (sz : Nat) (V : VT) (x1 : Int32)  (K : Int32 → VT → Prop) (hw : wp_X7_hoop V x1 K) : Met l yX7_hoop wsX7_hoop rm_X7_hoop (va_Pc [.ref (ad 0), .int x1] (WPre 76 (cX g ad) ad g V sz)) (va_Qi K (WPost 76 (cX g ad) ad g) (AW ad 76 sz)) 0 0 (AW ad 76 sz) := by
  refine Met.ofW (cc := cX7_hoop) (maxL := 2) (ret := (some .int)) (by decide) rfl ?_
  intro p e s m args below meth c s₁ B hml hv
  obtain ⟨ha, hv⟩ := hv
  obtain rfl := hv.1
  have hI : WI g 76 (cX g ad) ad V s.heap s.heap [] := WI.start hv
  have hK := hv.2.2.1
  have hE := hv.2.2.2.2
  have hx := B.exec
  have hb := B.bytes
  have hr := B.returns
  have hts := atoms_spec (ws := wsX7_hoop) B.pre
  have hown : s.vm.findClass RX7 = some m.cls := findClass_of_methodNamed B.named
  have hlocks := B.notSynchronized
  have hw_0 := hts (.fieldLink RX7 22 "HoopLane" "lane" "LHoopLane$Lane;") (by decide +kernel)
  have hw_1 := hts (.fieldLink RX7 147 "HoopLane$Lane" "hoop" "LHoopLane$Hoop;") (by decide +kernel)
  have hw_2 := hts (.fieldLink RX7 153 "HoopLane$Lane" "moment" "I") (by decide +kernel)
  have hw_3 := hts (.constant RX7 76 (-1000001)) (by decide +kernel)
  have hw_4 := hts (.constant RX7 140 (-1000002)) (by decide +kernel)
  have hin7 : ∀ w ∈ wsX70, w ∈ wsX7_hoop := by decide +kernel
  have hin3 : ∀ w ∈ wsX30, w ∈ wsX7_hoop := by decide +kernel
  have hl := lv_entry ([.ref (ad 0), .int x1]) (n := 2) (Nat.le_of_ble_eq_true rfl)
  have hent : entryFrame m args 2 = F0 m 0 ((lg_sl ([.ref (ad 0), .int x1]) ++ List.replicate (2 - (lg_sl ([.ref (ad 0), .int x1])).length) Slot.unset).toArray) [] := by rw [ha, lg_entry_eq]
  rw [hent]
  generalize (lg_sl ([.ref (ad 0), .int x1]) ++ List.replicate (2 - (lg_sl ([.ref (ad 0), .int x1])).length) Slot.unset).toArray = ls at hl ⊢
  have hl : lv_has ls 2 [(0, .ref (ad 0)), (1, .int x1)] := hl
  obtain ⟨H, hH⟩ : ∃ H : Heap, H = s.heap := ⟨_, rfl⟩
  have hgo : ∀ (H : Heap) (locs : List Loc), WI g 76 (cX g ad) ad V s.heap H locs → W p l e (headSpec wsX7_hoop rm_X7_hoop).room s m args below meth c H locs 0 0 (MQ below (va_Qi K (WPost 76 (cX g ad) ad g) (AW ad 76 s.heap.size)) args s 0 0 (AW ad 76 s.heap.size)) (F0 m 0 ls []) := by
    intro H locs hI
    refine lv_aload_n hx hb dX7_hoop_0 rfl (lv_at hl 0 rfl) ?_
    refine xg7_2 (k := 0) hx hb hts hin7 hown hK hI (by decide) hw_0 dX7_hoop_1 ?_
    refine x_afti (va_runV (As := []) (rest := []) ⟨hx, hb, hml, hown, hts⟩ (c_X3_isThere l g ad H.size V 16 (by decide) _ hw) (cwV 0 hts gX7_hoop_X3_isThere rfl rfl rfl (by decide +kernel) ⟨Nat.le_of_ble_eq_true rfl, Nat.le_of_ble_eq_true rfl⟩) (x_preV (k := 16) hK hE hI (by decide) (cX_3 (by decide)) rfl) rfl rfl hl.1 rfl (lv_room (Nat.le_of_ble_eq_true rfl)) dX7_hoop_4 ⟨Nat.zero_le _, Nat.zero_le _⟩) hI (fun r2 V1 H locs hw hI => ?_)
    refine lv_if_ne (tgt := 13) hx hb dX7_hoop_7 (by decide) (fun c3 => ?_) (fun c3 => ?_)
    · replace hw := hw.1 c3
      refine lv_iload_n hx hb dX7_hoop_13 rfl (lv_at hl 1 rfl) ?_
      refine lv_iconst (v := (0 : Int32)) hx hb dX7_hoop_14 (by decide) ?_
      refine lv_iconst (v := (4 : Int32)) hx hb dX7_hoop_15 (by decide) ?_
      refine x_afti (va_runS (As := [.int x1, .int (0 : Int32), .int (4 : Int32)]) (rest := []) ⟨hx, hb, hml, hown, hts⟩ (c_X7_isOut l g ad H.size V1 x1 (0 : Int32) (4 : Int32) _ hw) (cwS 3 hts gX7_hoop_X7_isOut rfl rfl rfl (by decide +kernel) ⟨Nat.le_of_ble_eq_true rfl, Nat.le_of_ble_eq_true rfl⟩) (x_preS hK hE hI) rfl rfl hl.1 rfl (lv_room (Nat.le_of_ble_eq_true rfl)) dX7_hoop_16 ⟨Nat.zero_le _, Nat.zero_le _⟩) hI (fun r5 V4 H locs hw hI => ?_)
      refine lv_if_eq (tgt := 25) hx hb dX7_hoop_19 (by decide) (fun c6 => ?_) (fun c6 => ?_)
      · replace hw := hw.1 c6
        refine lv_iload_n hx hb dX7_hoop_25 rfl (lv_at hl 1 rfl) ?_
        refine lv_iconst (v := (4 : Int32)) hx hb dX7_hoop_26 (by decide) ?_
        refine lv_icmp_ne (tgt := 40) hx hb dX7_hoop_27 (by decide) (fun c7 => ?_) (fun c7 => ?_)
        · replace hw := hw.1 c7
          refine lv_aload_n hx hb dX7_hoop_40 rfl (lv_at hl 0 rfl) ?_
          refine xg7_2 (k := 0) hx hb hts hin7 hown hK hI (by decide) hw_0 dX7_hoop_41 ?_
          refine xg3_3 (k := 16) hx hb hts hin3 hown hK hI (by decide) hw_1 dX7_hoop_44 ?_
          refine lv_iload_n hx hb dX7_hoop_47 rfl (lv_at hl 1 rfl) ?_
          refine x_afti (va_runV (As := [.int x1]) (rest := []) ⟨hx, hb, hml, hown, hts⟩ (c_X2_tell l g ad H.size V4 20 x1 (by decide) _ hw) (cwV 1 hts gX7_hoop_X2_tell rfl rfl rfl (by decide +kernel) ⟨Nat.le_of_ble_eq_true rfl, Nat.le_of_ble_eq_true rfl⟩) (x_preV (k := 20) hK hE hI (by decide) (cX_2 (by decide)) rfl) rfl rfl hl.1 rfl (lv_room (Nat.le_of_ble_eq_true rfl)) dX7_hoop_48 ⟨Nat.zero_le _, Nat.zero_le _⟩) hI (fun r9 V8 H locs hw hI => ?_)
          exact W.iret (v := r9) hx hb hr (x_reti hI hw) hI.2.2.2.2 dX7_hoop_51
        · replace hw := hw.2 c7
          refine lv_aload_n hx hb dX7_hoop_30 rfl (lv_at hl 0 rfl) ?_
          refine xg7_2 (k := 0) hx hb hts hin7 hown hK hI (by decide) hw_0 dX7_hoop_31 ?_
          refine xg3_8 (k := 16) hx hb hts hin3 hown hK hI (by decide) hw_2 dX7_hoop_34 ?_
          refine lv_goto (tgt := 51) hx hb dX7_hoop_37 (by decide) ?_
          exact W.iret (v := (V4 16 8)) hx hb hr (x_reti hI hw) hI.2.2.2.2 dX7_hoop_51
      · replace hw := hw.2 c6
        refine lv_ldc (v := (-1000001 : Int32)) hx hb hown hw_3 dX7_hoop_22 ?_
        exact W.iret (v := (-1000001 : Int32)) hx hb hr (x_reti hI hw) hI.2.2.2.2 dX7_hoop_24
    · replace hw := hw.2 c3
      refine lv_ldc (v := (-1000002 : Int32)) hx hb hown hw_4 dX7_hoop_10 ?_
      exact W.iret (v := (-1000002 : Int32)) hx hb hr (x_reti hI hw) hI.2.2.2.2 dX7_hoop_12
  exact hgo s.heap [] hI
def rm_X7_ground : Room := { frames := 1, cells := 0, slots := 0, locals := 22 }
set_option maxHeartbeats 4000000 in
set_option maxRecDepth 100000 in
theorem c_X7_ground (l : Launch) (g : GP) (ad : Nat → Nat) (sz : Nat) (V : VT) (x1 : Int32)  (K : Int32 → VT → Prop) (hw : wp_X7_ground V x1 K) : Met l yX7_ground wsX7_ground rm_X7_ground (va_Pc [.ref (ad 0), .int x1] (WPre 76 (cX g ad) ad g V sz)) (va_Qi K (WPost 76 (cX g ad) ad g) (AW ad 76 sz)) 0 0 (AW ad 76 sz) := by
  refine Met.ofW (cc := cX7_ground) (maxL := 2) (ret := (some .int)) (by decide) rfl ?_
  intro p e s m args below meth c s₁ B hml hv
  obtain ⟨ha, hv⟩ := hv
  obtain rfl := hv.1
  have hI : WI g 76 (cX g ad) ad V s.heap s.heap [] := WI.start hv
  have hK := hv.2.2.1
  have hE := hv.2.2.2.2
  have hx := B.exec
  have hb := B.bytes
  have hr := B.returns
  have hts := atoms_spec (ws := wsX7_ground) B.pre
  have hown : s.vm.findClass RX7 = some m.cls := findClass_of_methodNamed B.named
  have hlocks := B.notSynchronized
  have hw_0 := hts (.fieldLink RX7 22 "HoopLane" "lane" "LHoopLane$Lane;") (by decide +kernel)
  have hw_1 := hts (.fieldLink RX7 173 "HoopLane$Lane" "yards" "I") (by decide +kernel)
  have hw_2 := hts (.fieldLink RX7 183 "HoopLane$Lane" "grounds" "[I") (by decide +kernel)
  have hw_3 := hts (.constant RX7 76 (-1000001)) (by decide +kernel)
  have hin7 : ∀ w ∈ wsX70, w ∈ wsX7_ground := by decide +kernel
  have hin3 : ∀ w ∈ wsX30, w ∈ wsX7_ground := by decide +kernel
  have hl := lv_entry ([.ref (ad 0), .int x1]) (n := 2) (Nat.le_of_ble_eq_true rfl)
  have hent : entryFrame m args 2 = F0 m 0 ((lg_sl ([.ref (ad 0), .int x1]) ++ List.replicate (2 - (lg_sl ([.ref (ad 0), .int x1])).length) Slot.unset).toArray) [] := by rw [ha, lg_entry_eq]
  rw [hent]
  generalize (lg_sl ([.ref (ad 0), .int x1]) ++ List.replicate (2 - (lg_sl ([.ref (ad 0), .int x1])).length) Slot.unset).toArray = ls at hl ⊢
  have hl : lv_has ls 2 [(0, .ref (ad 0)), (1, .int x1)] := hl
  obtain ⟨H, hH⟩ : ∃ H : Heap, H = s.heap := ⟨_, rfl⟩
  have hgo : ∀ (H : Heap) (locs : List Loc), WI g 76 (cX g ad) ad V s.heap H locs → W p l e (headSpec wsX7_ground rm_X7_ground).room s m args below meth c H locs 0 0 (MQ below (va_Qi K (WPost 76 (cX g ad) ad g) (AW ad 76 s.heap.size)) args s 0 0 (AW ad 76 s.heap.size)) (F0 m 0 ls []) := by
    intro H locs hI
    refine lv_iload_n hx hb dX7_ground_0 rfl (lv_at hl 1 rfl) ?_
    refine lv_iconst (v := (0 : Int32)) hx hb dX7_ground_1 (by decide) ?_
    refine lv_aload_n hx hb dX7_ground_2 rfl (lv_at hl 0 rfl) ?_
    refine xg7_2 (k := 0) hx hb hts hin7 hown hK hI (by decide) hw_0 dX7_ground_3 ?_
    refine xg3_4 (k := 16) hx hb hts hin3 hown hK hI (by decide) hw_1 dX7_ground_6 ?_
    refine lv_iconst (v := (1 : Int32)) hx hb dX7_ground_9 (by decide) ?_
    refine lv_isub hx hb dX7_ground_10 ?_
    refine x_afti (va_runS (As := [.int x1, .int (0 : Int32), .int ((V 16 4) - (1 : Int32))]) (rest := []) ⟨hx, hb, hml, hown, hts⟩ (c_X7_isOut l g ad H.size V x1 (0 : Int32) ((V 16 4) - (1 : Int32)) _ hw) (cwS 3 hts gX7_ground_X7_isOut rfl rfl rfl (by decide +kernel) ⟨Nat.le_of_ble_eq_true rfl, Nat.le_of_ble_eq_true rfl⟩) (x_preS hK hE hI) rfl rfl hl.1 rfl (lv_room (Nat.le_of_ble_eq_true rfl)) dX7_ground_11 ⟨Nat.zero_le _, Nat.zero_le _⟩) hI (fun r2 V1 H locs hw hI => ?_)
    refine lv_if_eq (tgt := 22) hx hb dX7_ground_14 (by decide) (fun c3 => ?_) (fun c3 => ?_)
    · replace hw := hw.1 c3
      refine lv_aload_n hx hb dX7_ground_22 rfl (lv_at hl 0 rfl) ?_
      refine xg7_2 (k := 0) hx hb hts hin7 hown hK hI (by decide) hw_0 dX7_ground_23 ?_
      refine xg3_0 (k := 16) hx hb hts hin3 hown hK hI (by decide) hw_2 dX7_ground_26 ?_
      refine lv_iload_n hx hb dX7_ground_29 rfl (lv_at hl 1 rfl) ?_
      obtain ⟨h4, hw⟩ := hw
      refine x_iald (k := 17) hx hb hK hI (by decide) (cX_9 (by decide) (by decide)) h4 dX7_ground_30 ?_
      exact W.iret (v := (V1 17 (x1).toNatClampNeg)) hx hb hr (x_reti hI hw) hI.2.2.2.2 dX7_ground_31
    · replace hw := hw.2 c3
      refine lv_ldc (v := (-1000001 : Int32)) hx hb hown hw_3 dX7_ground_17 ?_
      refine lv_goto (tgt := 31) hx hb dX7_ground_19 (by decide) ?_
      exact W.iret (v := (-1000001 : Int32)) hx hb hr (x_reti hI hw) hI.2.2.2.2 dX7_ground_31
  exact hgo s.heap [] hI
def rm_X7_force : Room := { frames := 2, cells := 0, slots := 0, locals := 43 }
set_option maxHeartbeats 4000000 in
set_option maxRecDepth 100000 in
theorem c_X7_force (l : Launch) (g : GP) (ad : Nat → Nat) (sz : Nat) (V : VT) (x1 : Int32)  (K : Int32 → VT → Prop) (hw : wp_X7_force V x1 K) : Met l yX7_force wsX7_force rm_X7_force (va_Pc [.ref (ad 0), .int x1] (WPre 76 (cX g ad) ad g V sz)) (va_Qi K (WPost 76 (cX g ad) ad g) (AW ad 76 sz)) 0 0 (AW ad 76 sz) := by
  refine Met.ofW (cc := cX7_force) (maxL := 2) (ret := (some .int)) (by decide) rfl ?_
  intro p e s m args below meth c s₁ B hml hv
  obtain ⟨ha, hv⟩ := hv
  obtain rfl := hv.1
  have hI : WI g 76 (cX g ad) ad V s.heap s.heap [] := WI.start hv
  have hK := hv.2.2.1
  have hE := hv.2.2.2.2
  have hx := B.exec
  have hb := B.bytes
  have hr := B.returns
  have hts := atoms_spec (ws := wsX7_force) B.pre
  have hown : s.vm.findClass RX7 = some m.cls := findClass_of_methodNamed B.named
  have hlocks := B.notSynchronized
  have hw_0 := hts (.fieldLink RX7 22 "HoopLane" "lane" "LHoopLane$Lane;") (by decide +kernel)
  have hw_1 := hts (.fieldLink RX7 134 "HoopLane$Lane" "taps" "I") (by decide +kernel)
  have hw_2 := hts (.constant RX7 76 (-1000001)) (by decide +kernel)
  have hin7 : ∀ w ∈ wsX70, w ∈ wsX7_force := by decide +kernel
  have hin3 : ∀ w ∈ wsX30, w ∈ wsX7_force := by decide +kernel
  have hl := lv_entry ([.ref (ad 0), .int x1]) (n := 2) (Nat.le_of_ble_eq_true rfl)
  have hent : entryFrame m args 2 = F0 m 0 ((lg_sl ([.ref (ad 0), .int x1]) ++ List.replicate (2 - (lg_sl ([.ref (ad 0), .int x1])).length) Slot.unset).toArray) [] := by rw [ha, lg_entry_eq]
  rw [hent]
  generalize (lg_sl ([.ref (ad 0), .int x1]) ++ List.replicate (2 - (lg_sl ([.ref (ad 0), .int x1])).length) Slot.unset).toArray = ls at hl ⊢
  have hl : lv_has ls 2 [(0, .ref (ad 0)), (1, .int x1)] := hl
  obtain ⟨H, hH⟩ : ∃ H : Heap, H = s.heap := ⟨_, rfl⟩
  have hgo : ∀ (H : Heap) (locs : List Loc), WI g 76 (cX g ad) ad V s.heap H locs → W p l e (headSpec wsX7_force rm_X7_force).room s m args below meth c H locs 0 0 (MQ below (va_Qi K (WPost 76 (cX g ad) ad g) (AW ad 76 s.heap.size)) args s 0 0 (AW ad 76 s.heap.size)) (F0 m 0 ls []) := by
    intro H locs hI
    refine lv_iload_n hx hb dX7_force_0 rfl (lv_at hl 1 rfl) ?_
    refine lv_iconst (v := (0 : Int32)) hx hb dX7_force_1 (by decide) ?_
    refine lv_aload_n hx hb dX7_force_2 rfl (lv_at hl 0 rfl) ?_
    refine xg7_2 (k := 0) hx hb hts hin7 hown hK hI (by decide) hw_0 dX7_force_3 ?_
    refine xg3_5 (k := 16) hx hb hts hin3 hown hK hI (by decide) hw_1 dX7_force_6 ?_
    refine lv_iconst (v := (1 : Int32)) hx hb dX7_force_9 (by decide) ?_
    refine lv_isub hx hb dX7_force_10 ?_
    refine x_afti (va_runS (As := [.int x1, .int (0 : Int32), .int ((V 16 5) - (1 : Int32))]) (rest := []) ⟨hx, hb, hml, hown, hts⟩ (c_X7_isOut l g ad H.size V x1 (0 : Int32) ((V 16 5) - (1 : Int32)) _ hw) (cwS 3 hts gX7_force_X7_isOut rfl rfl rfl (by decide +kernel) ⟨Nat.le_of_ble_eq_true rfl, Nat.le_of_ble_eq_true rfl⟩) (x_preS hK hE hI) rfl rfl hl.1 rfl (lv_room (Nat.le_of_ble_eq_true rfl)) dX7_force_11 ⟨Nat.zero_le _, Nat.zero_le _⟩) hI (fun r2 V1 H locs hw hI => ?_)
    refine lv_if_eq (tgt := 22) hx hb dX7_force_14 (by decide) (fun c3 => ?_) (fun c3 => ?_)
    · replace hw := hw.1 c3
      refine lv_aload_n hx hb dX7_force_22 rfl (lv_at hl 0 rfl) ?_
      refine xg7_2 (k := 0) hx hb hts hin7 hown hK hI (by decide) hw_0 dX7_force_23 ?_
      refine lv_iload_n hx hb dX7_force_26 rfl (lv_at hl 1 rfl) ?_
      refine x_afti (va_runV (As := [.int x1]) (rest := []) ⟨hx, hb, hml, hown, hts⟩ (c_X3_forceAt l g ad H.size V1 16 x1 (by decide) _ hw) (cwV 1 hts gX7_force_X3_forceAt rfl rfl rfl (by decide +kernel) ⟨Nat.le_of_ble_eq_true rfl, Nat.le_of_ble_eq_true rfl⟩) (x_preV (k := 16) hK hE hI (by decide) (cX_3 (by decide)) rfl) rfl rfl hl.1 rfl (lv_room (Nat.le_of_ble_eq_true rfl)) dX7_force_27 ⟨Nat.zero_le _, Nat.zero_le _⟩) hI (fun r5 V4 H locs hw hI => ?_)
      exact W.iret (v := r5) hx hb hr (x_reti hI hw) hI.2.2.2.2 dX7_force_30
    · replace hw := hw.2 c3
      refine lv_ldc (v := (-1000001 : Int32)) hx hb hown hw_2 dX7_force_17 ?_
      refine lv_goto (tgt := 30) hx hb dX7_force_19 (by decide) ?_
      exact W.iret (v := (-1000001 : Int32)) hx hb hr (x_reti hI hw) hI.2.2.2.2 dX7_force_30
  exact hgo s.heap [] hI
