def rm_X7_ahead : Room := { frames := 4, cells := 0, slots := 0, locals := 81 }
set_option maxHeartbeats 4000000 in
set_option maxRecDepth 100000 in
theorem c_X7_ahead (l : Launch) (g : GP) (ad : Nat → Nat) (sz : Nat) (V : VT) (x1 : Int32) (x2 : Int32)  (K : Int32 → VT → Prop) (hw : wp_X7_ahead V x1 x2 K) : Met l yX7_ahead wsX7_ahead rm_X7_ahead (va_Pc [.ref (ad 0), .int x1, .int x2] (WPre 76 (cX g ad) ad g V sz)) (va_Qi K (WPost 76 (cX g ad) ad g) (AW ad 76 sz)) 0 0 (AW ad 76 sz) := by
  refine Met.ofW (cc := cX7_ahead) (maxL := 4) (ret := (some .int)) (by decide) rfl ?_
  intro p e s m args below meth c s₁ B hml hv
  obtain ⟨ha, hv⟩ := hv
  obtain rfl := hv.1
  have hI : WI g 76 (cX g ad) ad V s.heap s.heap [] := WI.start hv
  have hK := hv.2.2.1
  have hE := hv.2.2.2.2
  have hx := B.exec
  have hb := B.bytes
  have hr := B.returns
  have hts := atoms_spec (ws := wsX7_ahead) B.pre
  have hown : s.vm.findClass RX7 = some m.cls := findClass_of_methodNamed B.named
  have hlocks := B.notSynchronized
  have hw_0 := hts (.fieldLink RX7 22 "HoopLane" "lane" "LHoopLane$Lane;") (by decide +kernel)
  have hw_1 := hts (.constant RX7 76 (-1000001)) (by decide +kernel)
  have hw_2 := hts (.fieldLink RX7 60 "HoopLane" "trial" "LHoopLane$Hoop;") (by decide +kernel)
  have hw_3 := hts (.fieldLink RX7 147 "HoopLane$Lane" "hoop" "LHoopLane$Hoop;") (by decide +kernel)
  have hw_4 := hts (.constant RX7 140 (-1000002)) (by decide +kernel)
  have hin7 : ∀ w ∈ wsX70, w ∈ wsX7_ahead := by decide +kernel
  have hin3 : ∀ w ∈ wsX30, w ∈ wsX7_ahead := by decide +kernel
  have hl := lv_entry ([.ref (ad 0), .int x1, .int x2]) (n := 4) (Nat.le_of_ble_eq_true rfl)
  have hent : entryFrame m args 4 = F0 m 0 ((lg_sl ([.ref (ad 0), .int x1, .int x2]) ++ List.replicate (4 - (lg_sl ([.ref (ad 0), .int x1, .int x2])).length) Slot.unset).toArray) [] := by rw [ha, lg_entry_eq]
  rw [hent]
  generalize (lg_sl ([.ref (ad 0), .int x1, .int x2]) ++ List.replicate (4 - (lg_sl ([.ref (ad 0), .int x1, .int x2])).length) Slot.unset).toArray = ls at hl ⊢
  have hl : lv_has ls 4 [(0, .ref (ad 0)), (1, .int x1), (2, .int x2)] := hl
  obtain ⟨H, hH⟩ : ∃ H : Heap, H = s.heap := ⟨_, rfl⟩
  have hL51 : ∀ (n51 : Nat) (V : VT) (H : Heap) (locs : List Loc) (ls : Array Slot) (x1 : Int32) (x2 : Int32) (x3 : Int32), WI g 76 (cX g ad) ad V s.heap H locs → lv_has ls 4 [(0, .ref (ad 0)), (1, .int x1), (2, .int x2), (3, .int x3)] → wp_X7_ahead_L51 K  n51 V x1 x2 x3 → W p l e (headSpec wsX7_ahead rm_X7_ahead).room s m args below meth c H locs 0 0 (MQ below (va_Qi K (WPost 76 (cX g ad) ad g) (AW ad 76 s.heap.size)) args s 0 0 (AW ad 76 s.heap.size)) (F0 m 51 ls []) := by
    intro n51
    induction n51 with
    | zero => intro V H locs ls x1 x2 x3  hI hl hw; exact False.elim hw
    | succ n51 ihL51 =>
      intro V H locs ls x1 x2 x3  hI hl hw
      refine lv_iload_n hx hb dX7_ahead_51 rfl (lv_at hl 3 rfl) ?_
      refine lv_iload_n hx hb dX7_ahead_52 rfl (lv_at hl 1 rfl) ?_
      refine lv_icmp_ge (tgt := 75) hx hb dX7_ahead_53 (by decide) (fun c11 => ?_) (fun c11 => ?_)
      · replace hw := hw.1 c11
        refine lv_aload_n hx hb dX7_ahead_75 rfl (lv_at hl 0 rfl) ?_
        refine xg7_8 (k := 0) hx hb hts hin7 hown hK hI (by decide) hw_2 dX7_ahead_76 ?_
        refine lv_iload_n hx hb dX7_ahead_79 rfl (lv_at hl 2 rfl) ?_
        refine x_afti (va_runV (As := [.int x2]) (rest := []) ⟨hx, hb, hml, hown, hts⟩ (c_X2_tell l g ad H.size V 15 x2 (by decide) _ hw) (cwV 1 hts gX7_ahead_X2_tell rfl rfl rfl (by decide +kernel) ⟨Nat.le_of_ble_eq_true rfl, Nat.le_of_ble_eq_true rfl⟩) (x_preV (k := 15) hK hE hI (by decide) (cX_2 (by decide)) rfl) rfl rfl hl.1 rfl (lv_room (Nat.le_of_ble_eq_true rfl)) dX7_ahead_80 ⟨Nat.zero_le _, Nat.zero_le _⟩) hI (fun r13 V12 H locs hw hI => ?_)
        exact W.iret (v := r13) hx hb hr (x_reti hI hw) hI.2.2.2.2 dX7_ahead_83
      · replace hw := hw.2 c11
        refine lv_aload_n hx hb dX7_ahead_56 rfl (lv_at hl 0 rfl) ?_
        refine xg7_8 (k := 0) hx hb hts hin7 hown hK hI (by decide) hw_2 dX7_ahead_57 ?_
        refine lv_aload_n hx hb dX7_ahead_60 rfl (lv_at hl 0 rfl) ?_
        refine xg7_2 (k := 0) hx hb hts hin7 hown hK hI (by decide) hw_0 dX7_ahead_61 ?_
        refine lv_iconst (v := (0 : Int32)) hx hb dX7_ahead_64 (by decide) ?_
        refine lv_iconst (v := (0 : Int32)) hx hb dX7_ahead_65 (by decide) ?_
        refine x_aftv (va_runV (As := [.ref (ad 16), .int (0 : Int32), .int (0 : Int32)]) (rest := []) ⟨hx, hb, hml, hown, hts⟩ (c_X2_pass l g ad H.size V 15 16 (0 : Int32) (0 : Int32) (by decide) (by decide) _ hw) (cwV 3 hts gX7_ahead_X2_pass rfl rfl rfl (by decide +kernel) ⟨Nat.le_of_ble_eq_true rfl, Nat.le_of_ble_eq_true rfl⟩) (x_preV (k := 15) hK hE hI (by decide) (cX_2 (by decide)) rfl) rfl rfl hl.1 rfl (lv_room (Nat.le_of_ble_eq_true rfl)) dX7_ahead_66 ⟨Nat.zero_le _, Nat.zero_le _⟩) hI (fun V14 H locs hw hI => ?_)
        refine lv_iinc (v := (x3 + (1 : Int32))) (lv' := [(3, .int (x3 + (1 : Int32))), (0, .ref (ad 0)), (1, .int x1), (2, .int x2)]) hx hb dX7_ahead_69 hl (k := 3) rfl rfl (by decide) rfl (fun ls hl => ?_)
        refine lv_goto (tgt := 51) hx hb dX7_ahead_72 (by decide) ?_
        exact ihL51 V14 H locs ls x1 x2 (x3 + (1 : Int32)) hI (lv_sub hl [1, 2, 3, 0] rfl) hw
  have hgo : ∀ (H : Heap) (locs : List Loc), WI g 76 (cX g ad) ad V s.heap H locs → W p l e (headSpec wsX7_ahead rm_X7_ahead).room s m args below meth c H locs 0 0 (MQ below (va_Qi K (WPost 76 (cX g ad) ad g) (AW ad 76 s.heap.size)) args s 0 0 (AW ad 76 s.heap.size)) (F0 m 0 ls []) := by
    intro H locs hI
    refine lv_aload_n hx hb dX7_ahead_0 rfl (lv_at hl 0 rfl) ?_
    refine xg7_2 (k := 0) hx hb hts hin7 hown hK hI (by decide) hw_0 dX7_ahead_1 ?_
    refine x_afti (va_runV (As := []) (rest := []) ⟨hx, hb, hml, hown, hts⟩ (c_X3_isThere l g ad H.size V 16 (by decide) _ hw) (cwV 0 hts gX7_ahead_X3_isThere rfl rfl rfl (by decide +kernel) ⟨Nat.le_of_ble_eq_true rfl, Nat.le_of_ble_eq_true rfl⟩) (x_preV (k := 16) hK hE hI (by decide) (cX_3 (by decide)) rfl) rfl rfl hl.1 rfl (lv_room (Nat.le_of_ble_eq_true rfl)) dX7_ahead_4 ⟨Nat.zero_le _, Nat.zero_le _⟩) hI (fun r2 V1 H locs hw hI => ?_)
    refine lv_if_ne (tgt := 13) hx hb dX7_ahead_7 (by decide) (fun c3 => ?_) (fun c3 => ?_)
    · replace hw := hw.1 c3
      refine lv_iload_n hx hb dX7_ahead_13 rfl (lv_at hl 1 rfl) ?_
      refine lv_iconst (v := (0 : Int32)) hx hb dX7_ahead_14 (by decide) ?_
      refine lv_bipush (v := (40 : Int32)) hx hb dX7_ahead_15 (by decide) ?_
      refine x_afti (va_runS (As := [.int x1, .int (0 : Int32), .int (40 : Int32)]) (rest := []) ⟨hx, hb, hml, hown, hts⟩ (c_X7_isOut l g ad H.size V1 x1 (0 : Int32) (40 : Int32) _ hw) (cwS 3 hts gX7_ahead_X7_isOut rfl rfl rfl (by decide +kernel) ⟨Nat.le_of_ble_eq_true rfl, Nat.le_of_ble_eq_true rfl⟩) (x_preS hK hE hI) rfl rfl hl.1 rfl (lv_room (Nat.le_of_ble_eq_true rfl)) dX7_ahead_17 ⟨Nat.zero_le _, Nat.zero_le _⟩) hI (fun r5 V4 H locs hw hI => ?_)
      refine lv_if_ne (tgt := 32) hx hb dX7_ahead_20 (by decide) (fun c6 => ?_) (fun c6 => ?_)
      · replace hw := hw.1 c6
        refine lv_ldc (v := (-1000001 : Int32)) hx hb hown hw_1 dX7_ahead_32 ?_
        exact W.iret (v := (-1000001 : Int32)) hx hb hr (x_reti hI hw) hI.2.2.2.2 dX7_ahead_34
      · replace hw := hw.2 c6
        refine lv_iload_n hx hb dX7_ahead_23 rfl (lv_at hl 2 rfl) ?_
        refine lv_iconst (v := (0 : Int32)) hx hb dX7_ahead_24 (by decide) ?_
        refine lv_iconst (v := (3 : Int32)) hx hb dX7_ahead_25 (by decide) ?_
        refine x_afti (va_runS (As := [.int x2, .int (0 : Int32), .int (3 : Int32)]) (rest := []) ⟨hx, hb, hml, hown, hts⟩ (c_X7_isOut l g ad H.size V4 x2 (0 : Int32) (3 : Int32) _ hw) (cwS 3 hts gX7_ahead_X7_isOut rfl rfl rfl (by decide +kernel) ⟨Nat.le_of_ble_eq_true rfl, Nat.le_of_ble_eq_true rfl⟩) (x_preS hK hE hI) rfl rfl hl.1 rfl (lv_room (Nat.le_of_ble_eq_true rfl)) dX7_ahead_26 ⟨Nat.zero_le _, Nat.zero_le _⟩) hI (fun r8 V7 H locs hw hI => ?_)
        refine lv_if_eq (tgt := 35) hx hb dX7_ahead_29 (by decide) (fun c9 => ?_) (fun c9 => ?_)
        · replace hw := hw.1 c9
          refine lv_aload_n hx hb dX7_ahead_35 rfl (lv_at hl 0 rfl) ?_
          refine xg7_8 (k := 0) hx hb hts hin7 hown hK hI (by decide) hw_2 dX7_ahead_36 ?_
          refine lv_aload_n hx hb dX7_ahead_39 rfl (lv_at hl 0 rfl) ?_
          refine xg7_2 (k := 0) hx hb hts hin7 hown hK hI (by decide) hw_0 dX7_ahead_40 ?_
          refine xg3_3 (k := 16) hx hb hts hin3 hown hK hI (by decide) hw_3 dX7_ahead_43 ?_
          refine x_aftv (va_runV (As := [.ref (ad 20)]) (rest := []) ⟨hx, hb, hml, hown, hts⟩ (c_X2_be l g ad H.size V7 15 20 (by decide) (by decide) _ hw) (cwV 1 hts gX7_ahead_X2_be rfl rfl rfl (by decide +kernel) ⟨Nat.le_of_ble_eq_true rfl, Nat.le_of_ble_eq_true rfl⟩) (x_preV (k := 15) hK hE hI (by decide) (cX_2 (by decide)) rfl) rfl rfl hl.1 rfl (lv_room (Nat.le_of_ble_eq_true rfl)) dX7_ahead_46 ⟨Nat.zero_le _, Nat.zero_le _⟩) hI (fun V10 H locs hw hI => ?_)
          refine lv_iconst (v := (0 : Int32)) hx hb dX7_ahead_49 (by decide) ?_
          refine lv_istore_n (lv' := [(3, .int (0 : Int32)), (0, .ref (ad 0)), (1, .int x1), (2, .int x2)]) hx hb dX7_ahead_50 rfl hl (by decide) rfl (fun ls hl => ?_)
          obtain ⟨n51, hw⟩ := hw
          exact hL51 n51 V10 H locs ls x1 x2 (0 : Int32) hI (lv_sub hl [1, 2, 3, 0] rfl) hw
        · replace hw := hw.2 c9
          refine lv_ldc (v := (-1000001 : Int32)) hx hb hown hw_1 dX7_ahead_32 ?_
          exact W.iret (v := (-1000001 : Int32)) hx hb hr (x_reti hI hw) hI.2.2.2.2 dX7_ahead_34
    · replace hw := hw.2 c3
      refine lv_ldc (v := (-1000002 : Int32)) hx hb hown hw_4 dX7_ahead_10 ?_
      exact W.iret (v := (-1000002 : Int32)) hx hb hr (x_reti hI hw) hI.2.2.2.2 dX7_ahead_12
  exact hgo s.heap [] hI
def rm_X7_leastCost : Room := { frames := 6, cells := 0, slots := 0, locals := 133 }
set_option maxHeartbeats 4000000 in
set_option maxRecDepth 100000 in
theorem c_X7_leastCost (l : Launch) (g : GP) (ad : Nat → Nat) (sz : Nat) (V : VT) (x1 : Int32) (x2 : Int32) (x3 : Int32)  (K : Int32 → VT → Prop) (hw : wp_X7_leastCost V x1 x2 x3 K) : Met l yX7_leastCost wsX7_leastCost rm_X7_leastCost (va_Pc [.ref (ad 0), .int x1, .int x2, .int x3] (WPre 76 (cX g ad) ad g V sz)) (va_Qi K (WPost 76 (cX g ad) ad g) (AW ad 76 sz)) 0 0 (AW ad 76 sz) := by
  refine Met.ofW (cc := cX7_leastCost) (maxL := 4) (ret := (some .int)) (by decide) rfl ?_
  intro p e s m args below meth c s₁ B hml hv
  obtain ⟨ha, hv⟩ := hv
  obtain rfl := hv.1
  have hI : WI g 76 (cX g ad) ad V s.heap s.heap [] := WI.start hv
  have hK := hv.2.2.1
  have hE := hv.2.2.2.2
  have hx := B.exec
  have hb := B.bytes
  have hr := B.returns
  have hts := atoms_spec (ws := wsX7_leastCost) B.pre
  have hown : s.vm.findClass RX7 = some m.cls := findClass_of_methodNamed B.named
  have hlocks := B.notSynchronized
  have hw_0 := hts (.fieldLink RX7 22 "HoopLane" "lane" "LHoopLane$Lane;") (by decide +kernel)
  have hw_1 := hts (.fieldLink RX7 46 "HoopLane" "paths" "LHoopLane$Paths;") (by decide +kernel)
  have hw_2 := hts (.fieldLink RX7 147 "HoopLane$Lane" "hoop" "LHoopLane$Hoop;") (by decide +kernel)
  have hw_3 := hts (.constant RX7 221 (1000000)) (by decide +kernel)
  have hw_4 := hts (.constant RX7 196 (-1000000)) (by decide +kernel)
  have hw_5 := hts (.constant RX7 76 (-1000001)) (by decide +kernel)
  have hw_6 := hts (.constant RX7 140 (-1000002)) (by decide +kernel)
  have hin7 : ∀ w ∈ wsX70, w ∈ wsX7_leastCost := by decide +kernel
  have hin3 : ∀ w ∈ wsX30, w ∈ wsX7_leastCost := by decide +kernel
  have hl := lv_entry ([.ref (ad 0), .int x1, .int x2, .int x3]) (n := 4) (Nat.le_of_ble_eq_true rfl)
  have hent : entryFrame m args 4 = F0 m 0 ((lg_sl ([.ref (ad 0), .int x1, .int x2, .int x3]) ++ List.replicate (4 - (lg_sl ([.ref (ad 0), .int x1, .int x2, .int x3])).length) Slot.unset).toArray) [] := by rw [ha, lg_entry_eq]
  rw [hent]
  generalize (lg_sl ([.ref (ad 0), .int x1, .int x2, .int x3]) ++ List.replicate (4 - (lg_sl ([.ref (ad 0), .int x1, .int x2, .int x3])).length) Slot.unset).toArray = ls at hl ⊢
  have hl : lv_has ls 4 [(0, .ref (ad 0)), (1, .int x1), (2, .int x2), (3, .int x3)] := hl
  obtain ⟨H, hH⟩ : ∃ H : Heap, H = s.heap := ⟨_, rfl⟩
  have hgo : ∀ (H : Heap) (locs : List Loc), WI g 76 (cX g ad) ad V s.heap H locs → W p l e (headSpec wsX7_leastCost rm_X7_leastCost).room s m args below meth c H locs 0 0 (MQ below (va_Qi K (WPost 76 (cX g ad) ad g) (AW ad 76 s.heap.size)) args s 0 0 (AW ad 76 s.heap.size)) (F0 m 0 ls []) := by
    intro H locs hI
    refine lv_aload_n hx hb dX7_leastCost_0 rfl (lv_at hl 0 rfl) ?_
    refine xg7_2 (k := 0) hx hb hts hin7 hown hK hI (by decide) hw_0 dX7_leastCost_1 ?_
    refine x_afti (va_runV (As := []) (rest := []) ⟨hx, hb, hml, hown, hts⟩ (c_X3_isThere l g ad H.size V 16 (by decide) _ hw) (cwV 0 hts gX7_leastCost_X3_isThere rfl rfl rfl (by decide +kernel) ⟨Nat.le_of_ble_eq_true rfl, Nat.le_of_ble_eq_true rfl⟩) (x_preV (k := 16) hK hE hI (by decide) (cX_3 (by decide)) rfl) rfl rfl hl.1 rfl (lv_room (Nat.le_of_ble_eq_true rfl)) dX7_leastCost_4 ⟨Nat.zero_le _, Nat.zero_le _⟩) hI (fun r2 V1 H locs hw hI => ?_)
    refine lv_if_ne (tgt := 13) hx hb dX7_leastCost_7 (by decide) (fun c3 => ?_) (fun c3 => ?_)
    · replace hw := hw.1 c3
      refine lv_iload_n hx hb dX7_leastCost_13 rfl (lv_at hl 1 rfl) ?_
      refine lv_iconst (v := (0 : Int32)) hx hb dX7_leastCost_14 (by decide) ?_
      refine lv_iconst (v := (1 : Int32)) hx hb dX7_leastCost_15 (by decide) ?_
      refine x_afti (va_runS (As := [.int x1, .int (0 : Int32), .int (1 : Int32)]) (rest := []) ⟨hx, hb, hml, hown, hts⟩ (c_X7_isOut l g ad H.size V1 x1 (0 : Int32) (1 : Int32) _ hw) (cwS 3 hts gX7_leastCost_X7_isOut rfl rfl rfl (by decide +kernel) ⟨Nat.le_of_ble_eq_true rfl, Nat.le_of_ble_eq_true rfl⟩) (x_preS hK hE hI) rfl rfl hl.1 rfl (lv_room (Nat.le_of_ble_eq_true rfl)) dX7_leastCost_16 ⟨Nat.zero_le _, Nat.zero_le _⟩) hI (fun r5 V4 H locs hw hI => ?_)
      refine lv_if_eq (tgt := 25) hx hb dX7_leastCost_19 (by decide) (fun c6 => ?_) (fun c6 => ?_)
      · replace hw := hw.1 c6
        refine lv_aload_n hx hb dX7_leastCost_25 rfl (lv_at hl 0 rfl) ?_
        refine xg7_6 (k := 0) hx hb hts hin7 hown hK hI (by decide) hw_1 dX7_leastCost_26 ?_
        refine lv_aload_n hx hb dX7_leastCost_29 rfl (lv_at hl 0 rfl) ?_
        refine xg7_2 (k := 0) hx hb hts hin7 hown hK hI (by decide) hw_0 dX7_leastCost_30 ?_
        refine lv_aload_n hx hb dX7_leastCost_33 rfl (lv_at hl 0 rfl) ?_
        refine xg7_2 (k := 0) hx hb hts hin7 hown hK hI (by decide) hw_0 dX7_leastCost_34 ?_
        refine xg3_3 (k := 16) hx hb hts hin3 hown hK hI (by decide) hw_2 dX7_leastCost_37 ?_
        refine lv_iload_n hx hb dX7_leastCost_40 rfl (lv_at hl 2 rfl) ?_
        refine lv_iload_n hx hb dX7_leastCost_41 rfl (lv_at hl 3 rfl) ?_
        refine lv_ldc (v := (1000000 : Int32)) hx hb hown hw_3 dX7_leastCost_42 ?_
        refine x_aftv (va_runV (As := [.ref (ad 16), .ref (ad 20), .int x2, .int x3, .int (1000000 : Int32)]) (rest := []) ⟨hx, hb, hml, hown, hts⟩ (c_X4_walk l g ad H.size V4 16 20 x2 x3 (1000000 : Int32) (by decide) (by decide) _ hw) (cwV 5 hts gX7_leastCost_X4_walk rfl rfl rfl (by decide +kernel) ⟨Nat.le_of_ble_eq_true rfl, Nat.le_of_ble_eq_true rfl⟩) (x_preV (k := 10) hK hE hI (by decide) (cX_4 (by decide)) rfl) rfl rfl hl.1 rfl (lv_room (Nat.le_of_ble_eq_true rfl)) dX7_leastCost_44 ⟨Nat.zero_le _, Nat.zero_le _⟩) hI (fun V7 H locs hw hI => ?_)
        refine lv_aload_n hx hb dX7_leastCost_47 rfl (lv_at hl 0 rfl) ?_
        refine xg7_6 (k := 0) hx hb hts hin7 hown hK hI (by decide) hw_1 dX7_leastCost_48 ?_
        refine x_afti (va_runV (As := []) (rest := []) ⟨hx, hb, hml, hown, hts⟩ (c_X4_cost l g ad H.size V7  _ hw) (cwV 0 hts gX7_leastCost_X4_cost rfl rfl rfl (by decide +kernel) ⟨Nat.le_of_ble_eq_true rfl, Nat.le_of_ble_eq_true rfl⟩) (x_preV (k := 10) hK hE hI (by decide) (cX_4 (by decide)) rfl) rfl rfl hl.1 rfl (lv_room (Nat.le_of_ble_eq_true rfl)) dX7_leastCost_51 ⟨Nat.zero_le _, Nat.zero_le _⟩) hI (fun r9 V8 H locs hw hI => ?_)
        refine lv_ldc (v := (1000000 : Int32)) hx hb hown hw_3 dX7_leastCost_54 ?_
        refine lv_icmp_ne (tgt := 62) hx hb dX7_leastCost_56 (by decide) (fun c10 => ?_) (fun c10 => ?_)
        · replace hw := hw.1 c10
          refine lv_iload_n hx hb dX7_leastCost_62 rfl (lv_at hl 1 rfl) ?_
          refine lv_if_ne (tgt := 76) hx hb dX7_leastCost_63 (by decide) (fun c11 => ?_) (fun c11 => ?_)
          · replace hw := hw.1 c11
            refine lv_aload_n hx hb dX7_leastCost_76 rfl (lv_at hl 0 rfl) ?_
            refine xg7_6 (k := 0) hx hb hts hin7 hown hK hI (by decide) hw_1 dX7_leastCost_77 ?_
            refine x_afti (va_runV (As := []) (rest := []) ⟨hx, hb, hml, hown, hts⟩ (c_X4_first l g ad H.size V8  _ hw) (cwV 0 hts gX7_leastCost_X4_first rfl rfl rfl (by decide +kernel) ⟨Nat.le_of_ble_eq_true rfl, Nat.le_of_ble_eq_true rfl⟩) (x_preV (k := 10) hK hE hI (by decide) (cX_4 (by decide)) rfl) rfl rfl hl.1 rfl (lv_room (Nat.le_of_ble_eq_true rfl)) dX7_leastCost_80 ⟨Nat.zero_le _, Nat.zero_le _⟩) hI (fun r13 V12 H locs hw hI => ?_)
            exact W.iret (v := r13) hx hb hr (x_reti hI hw) hI.2.2.2.2 dX7_leastCost_83
          · replace hw := hw.2 c11
            refine lv_aload_n hx hb dX7_leastCost_66 rfl (lv_at hl 0 rfl) ?_
            refine xg7_6 (k := 0) hx hb hts hin7 hown hK hI (by decide) hw_1 dX7_leastCost_67 ?_
            refine x_afti (va_runV (As := []) (rest := []) ⟨hx, hb, hml, hown, hts⟩ (c_X4_cost l g ad H.size V8  _ hw) (cwV 0 hts gX7_leastCost_X4_cost rfl rfl rfl (by decide +kernel) ⟨Nat.le_of_ble_eq_true rfl, Nat.le_of_ble_eq_true rfl⟩) (x_preV (k := 10) hK hE hI (by decide) (cX_4 (by decide)) rfl) rfl rfl hl.1 rfl (lv_room (Nat.le_of_ble_eq_true rfl)) dX7_leastCost_70 ⟨Nat.zero_le _, Nat.zero_le _⟩) hI (fun r15 V14 H locs hw hI => ?_)
            refine lv_goto (tgt := 83) hx hb dX7_leastCost_73 (by decide) ?_
            exact W.iret (v := r15) hx hb hr (x_reti hI hw) hI.2.2.2.2 dX7_leastCost_83
        · replace hw := hw.2 c10
          refine lv_ldc (v := (-1000000 : Int32)) hx hb hown hw_4 dX7_leastCost_59 ?_
          exact W.iret (v := (-1000000 : Int32)) hx hb hr (x_reti hI hw) hI.2.2.2.2 dX7_leastCost_61
      · replace hw := hw.2 c6
        refine lv_ldc (v := (-1000001 : Int32)) hx hb hown hw_5 dX7_leastCost_22 ?_
        exact W.iret (v := (-1000001 : Int32)) hx hb hr (x_reti hI hw) hI.2.2.2.2 dX7_leastCost_24
    · replace hw := hw.2 c3
      refine lv_ldc (v := (-1000002 : Int32)) hx hb hown hw_6 dX7_leastCost_10 ?_
      exact W.iret (v := (-1000002 : Int32)) hx hb hr (x_reti hI hw) hI.2.2.2.2 dX7_leastCost_12
  exact hgo s.heap [] hI
def rm_X7_fewest : Room := { frames := 7, cells := 0, slots := 0, locals := 156 }
set_option maxHeartbeats 4000000 in
set_option maxRecDepth 100000 in
theorem c_X7_fewest (l : Launch) (g : GP) (ad : Nat → Nat) (sz : Nat) (V : VT) (x1 : Int32)  (K : Int32 → VT → Prop) (hw : wp_X7_fewest V x1 K) : Met l yX7_fewest wsX7_fewest rm_X7_fewest (va_Pc [.ref (ad 0), .int x1] (WPre 76 (cX g ad) ad g V sz)) (va_Qi K (WPost 76 (cX g ad) ad g) (AW ad 76 sz)) 0 0 (AW ad 76 sz) := by
  refine Met.ofW (cc := cX7_fewest) (maxL := 2) (ret := (some .int)) (by decide) rfl ?_
  intro p e s m args below meth c s₁ B hml hv
  obtain ⟨ha, hv⟩ := hv
  obtain rfl := hv.1
  have hI : WI g 76 (cX g ad) ad V s.heap s.heap [] := WI.start hv
  have hK := hv.2.2.1
  have hE := hv.2.2.2.2
  have hx := B.exec
  have hb := B.bytes
  have hr := B.returns
  have hts := atoms_spec (ws := wsX7_fewest) B.pre
  have hown : s.vm.findClass RX7 = some m.cls := findClass_of_methodNamed B.named
  have hlocks := B.notSynchronized
  have hl := lv_entry ([.ref (ad 0), .int x1]) (n := 2) (Nat.le_of_ble_eq_true rfl)
  have hent : entryFrame m args 2 = F0 m 0 ((lg_sl ([.ref (ad 0), .int x1]) ++ List.replicate (2 - (lg_sl ([.ref (ad 0), .int x1])).length) Slot.unset).toArray) [] := by rw [ha, lg_entry_eq]
  rw [hent]
  generalize (lg_sl ([.ref (ad 0), .int x1]) ++ List.replicate (2 - (lg_sl ([.ref (ad 0), .int x1])).length) Slot.unset).toArray = ls at hl ⊢
  have hl : lv_has ls 2 [(0, .ref (ad 0)), (1, .int x1)] := hl
  obtain ⟨H, hH⟩ : ∃ H : Heap, H = s.heap := ⟨_, rfl⟩
  have hgo : ∀ (H : Heap) (locs : List Loc), WI g 76 (cX g ad) ad V s.heap H locs → W p l e (headSpec wsX7_fewest rm_X7_fewest).room s m args below meth c H locs 0 0 (MQ below (va_Qi K (WPost 76 (cX g ad) ad g) (AW ad 76 s.heap.size)) args s 0 0 (AW ad 76 s.heap.size)) (F0 m 0 ls []) := by
    intro H locs hI
    refine lv_aload_n hx hb dX7_fewest_0 rfl (lv_at hl 0 rfl) ?_
    refine lv_iload_n hx hb dX7_fewest_1 rfl (lv_at hl 1 rfl) ?_
    refine lv_iconst (v := (1 : Int32)) hx hb dX7_fewest_2 (by decide) ?_
    refine lv_iconst (v := (0 : Int32)) hx hb dX7_fewest_3 (by decide) ?_
    refine x_afti (va_runV (As := [.int x1, .int (1 : Int32), .int (0 : Int32)]) (rest := []) ⟨hx, hb, hml, hown, hts⟩ (c_X7_leastCost l g ad H.size V x1 (1 : Int32) (0 : Int32) _ hw) (cwV 3 hts gX7_fewest_X7_leastCost rfl rfl rfl (by decide +kernel) ⟨Nat.le_of_ble_eq_true rfl, Nat.le_of_ble_eq_true rfl⟩) (x_preV (k := 0) hK hE hI (by decide) (cX_7 (by decide)) rfl) rfl rfl hl.1 rfl (lv_room (Nat.le_of_ble_eq_true rfl)) dX7_fewest_4 ⟨Nat.zero_le _, Nat.zero_le _⟩) hI (fun r2 V1 H locs hw hI => ?_)
    exact W.iret (v := r2) hx hb hr (x_reti hI hw) hI.2.2.2.2 dX7_fewest_7
  exact hgo s.heap [] hI
def rm_X7_soonest : Room := { frames := 7, cells := 0, slots := 0, locals := 156 }
set_option maxHeartbeats 4000000 in
set_option maxRecDepth 100000 in
theorem c_X7_soonest (l : Launch) (g : GP) (ad : Nat → Nat) (sz : Nat) (V : VT) (x1 : Int32)  (K : Int32 → VT → Prop) (hw : wp_X7_soonest V x1 K) : Met l yX7_soonest wsX7_soonest rm_X7_soonest (va_Pc [.ref (ad 0), .int x1] (WPre 76 (cX g ad) ad g V sz)) (va_Qi K (WPost 76 (cX g ad) ad g) (AW ad 76 sz)) 0 0 (AW ad 76 sz) := by
  refine Met.ofW (cc := cX7_soonest) (maxL := 2) (ret := (some .int)) (by decide) rfl ?_
  intro p e s m args below meth c s₁ B hml hv
  obtain ⟨ha, hv⟩ := hv
  obtain rfl := hv.1
  have hI : WI g 76 (cX g ad) ad V s.heap s.heap [] := WI.start hv
  have hK := hv.2.2.1
  have hE := hv.2.2.2.2
  have hx := B.exec
  have hb := B.bytes
  have hr := B.returns
  have hts := atoms_spec (ws := wsX7_soonest) B.pre
  have hown : s.vm.findClass RX7 = some m.cls := findClass_of_methodNamed B.named
  have hlocks := B.notSynchronized
  have hl := lv_entry ([.ref (ad 0), .int x1]) (n := 2) (Nat.le_of_ble_eq_true rfl)
  have hent : entryFrame m args 2 = F0 m 0 ((lg_sl ([.ref (ad 0), .int x1]) ++ List.replicate (2 - (lg_sl ([.ref (ad 0), .int x1])).length) Slot.unset).toArray) [] := by rw [ha, lg_entry_eq]
  rw [hent]
  generalize (lg_sl ([.ref (ad 0), .int x1]) ++ List.replicate (2 - (lg_sl ([.ref (ad 0), .int x1])).length) Slot.unset).toArray = ls at hl ⊢
  have hl : lv_has ls 2 [(0, .ref (ad 0)), (1, .int x1)] := hl
  obtain ⟨H, hH⟩ : ∃ H : Heap, H = s.heap := ⟨_, rfl⟩
  have hgo : ∀ (H : Heap) (locs : List Loc), WI g 76 (cX g ad) ad V s.heap H locs → W p l e (headSpec wsX7_soonest rm_X7_soonest).room s m args below meth c H locs 0 0 (MQ below (va_Qi K (WPost 76 (cX g ad) ad g) (AW ad 76 s.heap.size)) args s 0 0 (AW ad 76 s.heap.size)) (F0 m 0 ls []) := by
    intro H locs hI
    refine lv_aload_n hx hb dX7_soonest_0 rfl (lv_at hl 0 rfl) ?_
    refine lv_iload_n hx hb dX7_soonest_1 rfl (lv_at hl 1 rfl) ?_
    refine lv_iconst (v := (0 : Int32)) hx hb dX7_soonest_2 (by decide) ?_
    refine lv_iconst (v := (1 : Int32)) hx hb dX7_soonest_3 (by decide) ?_
    refine x_afti (va_runV (As := [.int x1, .int (0 : Int32), .int (1 : Int32)]) (rest := []) ⟨hx, hb, hml, hown, hts⟩ (c_X7_leastCost l g ad H.size V x1 (0 : Int32) (1 : Int32) _ hw) (cwV 3 hts gX7_soonest_X7_leastCost rfl rfl rfl (by decide +kernel) ⟨Nat.le_of_ble_eq_true rfl, Nat.le_of_ble_eq_true rfl⟩) (x_preV (k := 0) hK hE hI (by decide) (cX_7 (by decide)) rfl) rfl rfl hl.1 rfl (lv_room (Nat.le_of_ble_eq_true rfl)) dX7_soonest_4 ⟨Nat.zero_le _, Nat.zero_le _⟩) hI (fun r2 V1 H locs hw hI => ?_)
    exact W.iret (v := r2) hx hb hr (x_reti hI hw) hI.2.2.2.2 dX7_soonest_7
  exact hgo s.heap [] hI
def rm_X7_canBeHome : Room := { frames := 6, cells := 0, slots := 0, locals := 133 }
set_option maxHeartbeats 4000000 in
set_option maxRecDepth 100000 in
theorem c_X7_canBeHome (l : Launch) (g : GP) (ad : Nat → Nat) (sz : Nat) (V : VT) (k1 : Nat) (hk1 : kX k1 = 2) (K : Int32 → VT → Prop) (hw : wp_X7_canBeHome V k1 K) : Met l yX7_canBeHome wsX7_canBeHome rm_X7_canBeHome (va_Pc [.ref (ad 0), .ref (ad k1)] (WPre 76 (cX g ad) ad g V sz)) (va_Qi K (WPost 76 (cX g ad) ad g) (AW ad 76 sz)) 0 0 (AW ad 76 sz) := by
  refine Met.ofW (cc := cX7_canBeHome) (maxL := 2) (ret := (some .boolean)) (by decide) rfl ?_
  intro p e s m args below meth c s₁ B hml hv
  obtain ⟨ha, hv⟩ := hv
  obtain rfl := hv.1
  have hI : WI g 76 (cX g ad) ad V s.heap s.heap [] := WI.start hv
  have hK := hv.2.2.1
  have hE := hv.2.2.2.2
  have hx := B.exec
  have hb := B.bytes
  have hr := B.returns
  have hts := atoms_spec (ws := wsX7_canBeHome) B.pre
  have hown : s.vm.findClass RX7 = some m.cls := findClass_of_methodNamed B.named
  have hlocks := B.notSynchronized
  have hw_0 := hts (.fieldLink RX7 46 "HoopLane" "paths" "LHoopLane$Paths;") (by decide +kernel)
  have hw_1 := hts (.fieldLink RX7 22 "HoopLane" "lane" "LHoopLane$Lane;") (by decide +kernel)
  have hw_2 := hts (.constant RX7 221 (1000000)) (by decide +kernel)
  have hin7 : ∀ w ∈ wsX70, w ∈ wsX7_canBeHome := by decide +kernel
  have hl := lv_entry ([.ref (ad 0), .ref (ad k1)]) (n := 2) (Nat.le_of_ble_eq_true rfl)
  have hent : entryFrame m args 2 = F0 m 0 ((lg_sl ([.ref (ad 0), .ref (ad k1)]) ++ List.replicate (2 - (lg_sl ([.ref (ad 0), .ref (ad k1)])).length) Slot.unset).toArray) [] := by rw [ha, lg_entry_eq]
  rw [hent]
  generalize (lg_sl ([.ref (ad 0), .ref (ad k1)]) ++ List.replicate (2 - (lg_sl ([.ref (ad 0), .ref (ad k1)])).length) Slot.unset).toArray = ls at hl ⊢
  have hl : lv_has ls 2 [(0, .ref (ad 0)), (1, .ref (ad k1))] := hl
  obtain ⟨H, hH⟩ : ∃ H : Heap, H = s.heap := ⟨_, rfl⟩
  have hgo : ∀ (H : Heap) (locs : List Loc), WI g 76 (cX g ad) ad V s.heap H locs → W p l e (headSpec wsX7_canBeHome rm_X7_canBeHome).room s m args below meth c H locs 0 0 (MQ below (va_Qi K (WPost 76 (cX g ad) ad g) (AW ad 76 s.heap.size)) args s 0 0 (AW ad 76 s.heap.size)) (F0 m 0 ls []) := by
    intro H locs hI
    refine lv_aload_n hx hb dX7_canBeHome_0 rfl (lv_at hl 0 rfl) ?_
    refine xg7_6 (k := 0) hx hb hts hin7 hown hK hI (by decide) hw_0 dX7_canBeHome_1 ?_
    refine lv_aload_n hx hb dX7_canBeHome_4 rfl (lv_at hl 0 rfl) ?_
    refine xg7_2 (k := 0) hx hb hts hin7 hown hK hI (by decide) hw_1 dX7_canBeHome_5 ?_
    refine lv_aload_n hx hb dX7_canBeHome_8 rfl (lv_at hl 1 rfl) ?_
    refine lv_iconst (v := (1 : Int32)) hx hb dX7_canBeHome_9 (by decide) ?_
    refine lv_iconst (v := (0 : Int32)) hx hb dX7_canBeHome_10 (by decide) ?_
    refine lv_ldc (v := (1000000 : Int32)) hx hb hown hw_2 dX7_canBeHome_11 ?_
    refine x_aftv (va_runV (As := [.ref (ad 16), .ref (ad k1), .int (1 : Int32), .int (0 : Int32), .int (1000000 : Int32)]) (rest := []) ⟨hx, hb, hml, hown, hts⟩ (c_X4_walk l g ad H.size V 16 k1 (1 : Int32) (0 : Int32) (1000000 : Int32) (by decide) hk1 _ hw) (cwV 5 hts gX7_canBeHome_X4_walk rfl rfl rfl (by decide +kernel) ⟨Nat.le_of_ble_eq_true rfl, Nat.le_of_ble_eq_true rfl⟩) (x_preV (k := 10) hK hE hI (by decide) (cX_4 (by decide)) rfl) rfl rfl hl.1 rfl (lv_room (Nat.le_of_ble_eq_true rfl)) dX7_canBeHome_13 ⟨Nat.zero_le _, Nat.zero_le _⟩) hI (fun V1 H locs hw hI => ?_)
    refine lv_aload_n hx hb dX7_canBeHome_16 rfl (lv_at hl 0 rfl) ?_
    refine xg7_6 (k := 0) hx hb hts hin7 hown hK hI (by decide) hw_0 dX7_canBeHome_17 ?_
    refine x_afti (va_runV (As := []) (rest := []) ⟨hx, hb, hml, hown, hts⟩ (c_X4_cost l g ad H.size V1  _ hw) (cwV 0 hts gX7_canBeHome_X4_cost rfl rfl rfl (by decide +kernel) ⟨Nat.le_of_ble_eq_true rfl, Nat.le_of_ble_eq_true rfl⟩) (x_preV (k := 10) hK hE hI (by decide) (cX_4 (by decide)) rfl) rfl rfl hl.1 rfl (lv_room (Nat.le_of_ble_eq_true rfl)) dX7_canBeHome_20 ⟨Nat.zero_le _, Nat.zero_le _⟩) hI (fun r3 V2 H locs hw hI => ?_)
    refine lv_ldc (v := (1000000 : Int32)) hx hb hown hw_2 dX7_canBeHome_23 ?_
    refine lv_icmp_eq (tgt := 32) hx hb dX7_canBeHome_25 (by decide) (fun c4 => ?_) (fun c4 => ?_)
    · replace hw := hw.1 c4
      refine lv_iconst (v := (0 : Int32)) hx hb dX7_canBeHome_32 (by decide) ?_
      exact W.zret (v := (0 : Int32)) hx hb hr rfl (x_reti hI hw) hI.2.2.2.2 dX7_canBeHome_33
    · replace hw := hw.2 c4
      refine lv_iconst (v := (1 : Int32)) hx hb dX7_canBeHome_28 (by decide) ?_
      refine lv_goto (tgt := 33) hx hb dX7_canBeHome_29 (by decide) ?_
      exact W.zret (v := (1 : Int32)) hx hb hr rfl (x_reti hI hw) hI.2.2.2.2 dX7_canBeHome_33
  exact hgo s.heap [] hI
def rm_X7_heldFrom : Room := { frames := 7, cells := 0, slots := 0, locals := 154 }
set_option maxHeartbeats 4000000 in
set_option maxRecDepth 100000 in
theorem c_X7_heldFrom (l : Launch) (g : GP) (ad : Nat → Nat) (sz : Nat) (V : VT)   (K : Int32 → VT → Prop) (hw : wp_X7_heldFrom V  K) : Met l yX7_heldFrom wsX7_heldFrom rm_X7_heldFrom (va_Pc [.ref (ad 0)] (WPre 76 (cX g ad) ad g V sz)) (va_Qi K (WPost 76 (cX g ad) ad g) (AW ad 76 sz)) 0 0 (AW ad 76 sz) := by
  refine Met.ofW (cc := cX7_heldFrom) (maxL := 2) (ret := (some .int)) (by decide) rfl ?_
  intro p e s m args below meth c s₁ B hml hv
  obtain ⟨ha, hv⟩ := hv
  obtain rfl := hv.1
  have hI : WI g 76 (cX g ad) ad V s.heap s.heap [] := WI.start hv
  have hK := hv.2.2.1
  have hE := hv.2.2.2.2
  have hx := B.exec
  have hb := B.bytes
  have hr := B.returns
  have hts := atoms_spec (ws := wsX7_heldFrom) B.pre
  have hown : s.vm.findClass RX7 = some m.cls := findClass_of_methodNamed B.named
  have hlocks := B.notSynchronized
  have hw_0 := hts (.fieldLink RX7 22 "HoopLane" "lane" "LHoopLane$Lane;") (by decide +kernel)
  have hw_1 := hts (.fieldLink RX7 147 "HoopLane$Lane" "hoop" "LHoopLane$Hoop;") (by decide +kernel)
  have hw_2 := hts (.fieldLink RX7 150 "HoopLane$Hoop" "end" "I") (by decide +kernel)
  have hw_3 := hts (.constant RX7 196 (-1000000)) (by decide +kernel)
  have hw_4 := hts (.constant RX7 140 (-1000002)) (by decide +kernel)
  have hw_5 := hts (.fieldLink RX7 60 "HoopLane" "trial" "LHoopLane$Hoop;") (by decide +kernel)
  have hw_6 := hts (.fieldLink RX7 170 "HoopLane$Hoop" "yard" "I") (by decide +kernel)
  have hw_7 := hts (.fieldLink RX7 197 "HoopLane$Hoop" "lean" "I") (by decide +kernel)
  have hin7 : ∀ w ∈ wsX70, w ∈ wsX7_heldFrom := by decide +kernel
  have hin3 : ∀ w ∈ wsX30, w ∈ wsX7_heldFrom := by decide +kernel
  have hin2 : ∀ w ∈ wsX20, w ∈ wsX7_heldFrom := by decide +kernel
  have hl := lv_entry ([.ref (ad 0)]) (n := 2) (Nat.le_of_ble_eq_true rfl)
  have hent : entryFrame m args 2 = F0 m 0 ((lg_sl ([.ref (ad 0)]) ++ List.replicate (2 - (lg_sl ([.ref (ad 0)])).length) Slot.unset).toArray) [] := by rw [ha, lg_entry_eq]
  rw [hent]
  generalize (lg_sl ([.ref (ad 0)]) ++ List.replicate (2 - (lg_sl ([.ref (ad 0)])).length) Slot.unset).toArray = ls at hl ⊢
  have hl : lv_has ls 2 [(0, .ref (ad 0))] := hl
  obtain ⟨H, hH⟩ : ∃ H : Heap, H = s.heap := ⟨_, rfl⟩
  have hL31 : ∀ (n31 : Nat) (V : VT) (H : Heap) (locs : List Loc) (ls : Array Slot) (x1 : Int32), WI g 76 (cX g ad) ad V s.heap H locs → lv_has ls 2 [(0, .ref (ad 0)), (1, .int x1)] → wp_X7_heldFrom_L31 K  n31 V x1 → W p l e (headSpec wsX7_heldFrom rm_X7_heldFrom).room s m args below meth c H locs 0 0 (MQ below (va_Qi K (WPost 76 (cX g ad) ad g) (AW ad 76 s.heap.size)) args s 0 0 (AW ad 76 s.heap.size)) (F0 m 31 ls []) := by
    intro n31
    induction n31 with
    | zero => intro V H locs ls x1  hI hl hw; exact False.elim hw
    | succ n31 ihL31 =>
      intro V H locs ls x1  hI hl hw
      refine lv_iload_n hx hb dX7_heldFrom_31 rfl (lv_at hl 1 rfl) ?_
      refine lv_bipush (v := (9 : Int32)) hx hb dX7_heldFrom_32 (by decide) ?_
      refine lv_icmp_gt (tgt := 84) hx hb dX7_heldFrom_34 (by decide) (fun c5 => ?_) (fun c5 => ?_)
      · replace hw := hw.1 c5
        refine lv_ldc (v := (-1000000 : Int32)) hx hb hown hw_3 dX7_heldFrom_84 ?_
        exact W.iret (v := (-1000000 : Int32)) hx hb hr (x_reti hI hw) hI.2.2.2.2 dX7_heldFrom_86
      · replace hw := hw.2 c5
        refine lv_aload_n hx hb dX7_heldFrom_37 rfl (lv_at hl 0 rfl) ?_
        refine xg7_8 (k := 0) hx hb hts hin7 hown hK hI (by decide) hw_5 dX7_heldFrom_38 ?_
        refine lv_aload_n hx hb dX7_heldFrom_41 rfl (lv_at hl 0 rfl) ?_
        refine xg7_2 (k := 0) hx hb hts hin7 hown hK hI (by decide) hw_0 dX7_heldFrom_42 ?_
        refine xg3_3 (k := 16) hx hb hts hin3 hown hK hI (by decide) hw_1 dX7_heldFrom_45 ?_
        refine xg2_0 (k := 20) hx hb hts hin2 hown hK hI (by decide) hw_6 dX7_heldFrom_48 ?_
        refine lv_iload_n hx hb dX7_heldFrom_51 rfl (lv_at hl 1 rfl) ?_
        refine lv_aload_n hx hb dX7_heldFrom_52 rfl (lv_at hl 0 rfl) ?_
        refine xg7_2 (k := 0) hx hb hts hin7 hown hK hI (by decide) hw_0 dX7_heldFrom_53 ?_
        refine xg3_3 (k := 16) hx hb hts hin3 hown hK hI (by decide) hw_1 dX7_heldFrom_56 ?_
        refine xg2_2 (k := 20) hx hb hts hin2 hown hK hI (by decide) hw_7 dX7_heldFrom_59 ?_
        refine x_aftv (va_runV (As := [.int (V 20 0), .int x1, .int (V 20 2)]) (rest := []) ⟨hx, hb, hml, hown, hts⟩ (c_X2_stand l g ad H.size V 15 (V 20 0) x1 (V 20 2) (by decide) _ hw) (cwV 3 hts gX7_heldFrom_X2_stand rfl rfl rfl (by decide +kernel) ⟨Nat.le_of_ble_eq_true rfl, Nat.le_of_ble_eq_true rfl⟩) (x_preV (k := 15) hK hE hI (by decide) (cX_2 (by decide)) rfl) rfl rfl hl.1 rfl (lv_room (Nat.le_of_ble_eq_true rfl)) dX7_heldFrom_62 ⟨Nat.zero_le _, Nat.zero_le _⟩) hI (fun V6 H locs hw hI => ?_)
        refine lv_aload_n hx hb dX7_heldFrom_65 rfl (lv_at hl 0 rfl) ?_
        refine lv_aload_n hx hb dX7_heldFrom_66 rfl (lv_at hl 0 rfl) ?_
        refine xg7_8 (k := 0) hx hb hts hin7 hown hK hI (by decide) hw_5 dX7_heldFrom_67 ?_
        refine x_afti (va_runV (As := [.ref (ad 15)]) (rest := []) ⟨hx, hb, hml, hown, hts⟩ (c_X7_canBeHome l g ad H.size V6 15 (by decide) _ hw) (cwV 1 hts gX7_heldFrom_X7_canBeHome rfl rfl rfl (by decide +kernel) ⟨Nat.le_of_ble_eq_true rfl, Nat.le_of_ble_eq_true rfl⟩) (x_preV (k := 0) hK hE hI (by decide) (cX_7 (by decide)) rfl) rfl rfl hl.1 rfl (lv_room (Nat.le_of_ble_eq_true rfl)) dX7_heldFrom_70 ⟨Nat.zero_le _, Nat.zero_le _⟩) hI (fun r8 V7 H locs hw hI => ?_)
        refine lv_if_eq (tgt := 78) hx hb dX7_heldFrom_73 (by decide) (fun c9 => ?_) (fun c9 => ?_)
        · replace hw := hw.1 c9
          refine lv_iinc (v := (x1 + (1 : Int32))) (lv' := [(1, .int (x1 + (1 : Int32))), (0, .ref (ad 0))]) hx hb dX7_heldFrom_78 hl (k := 1) rfl rfl (by decide) rfl (fun ls hl => ?_)
          refine lv_goto (tgt := 31) hx hb dX7_heldFrom_81 (by decide) ?_
          exact ihL31 V7 H locs ls (x1 + (1 : Int32)) hI (lv_sub hl [1, 0] rfl) hw
        · replace hw := hw.2 c9
          refine lv_iload_n hx hb dX7_heldFrom_76 rfl (lv_at hl 1 rfl) ?_
          exact W.iret (v := x1) hx hb hr (x_reti hI hw) hI.2.2.2.2 dX7_heldFrom_77
  have hgo : ∀ (H : Heap) (locs : List Loc), WI g 76 (cX g ad) ad V s.heap H locs → W p l e (headSpec wsX7_heldFrom rm_X7_heldFrom).room s m args below meth c H locs 0 0 (MQ below (va_Qi K (WPost 76 (cX g ad) ad g) (AW ad 76 s.heap.size)) args s 0 0 (AW ad 76 s.heap.size)) (F0 m 0 ls []) := by
    intro H locs hI
    refine lv_aload_n hx hb dX7_heldFrom_0 rfl (lv_at hl 0 rfl) ?_
    refine xg7_2 (k := 0) hx hb hts hin7 hown hK hI (by decide) hw_0 dX7_heldFrom_1 ?_
    refine x_afti (va_runV (As := []) (rest := []) ⟨hx, hb, hml, hown, hts⟩ (c_X3_isThere l g ad H.size V 16 (by decide) _ hw) (cwV 0 hts gX7_heldFrom_X3_isThere rfl rfl rfl (by decide +kernel) ⟨Nat.le_of_ble_eq_true rfl, Nat.le_of_ble_eq_true rfl⟩) (x_preV (k := 16) hK hE hI (by decide) (cX_3 (by decide)) rfl) rfl rfl hl.1 rfl (lv_room (Nat.le_of_ble_eq_true rfl)) dX7_heldFrom_4 ⟨Nat.zero_le _, Nat.zero_le _⟩) hI (fun r2 V1 H locs hw hI => ?_)
    refine lv_if_ne (tgt := 13) hx hb dX7_heldFrom_7 (by decide) (fun c3 => ?_) (fun c3 => ?_)
    · replace hw := hw.1 c3
      refine lv_aload_n hx hb dX7_heldFrom_13 rfl (lv_at hl 0 rfl) ?_
      refine xg7_2 (k := 0) hx hb hts hin7 hown hK hI (by decide) hw_0 dX7_heldFrom_14 ?_
      refine xg3_3 (k := 16) hx hb hts hin3 hown hK hI (by decide) hw_1 dX7_heldFrom_17 ?_
      refine xg2_3 (k := 20) hx hb hts hin2 hown hK hI (by decide) hw_2 dX7_heldFrom_20 ?_
      refine lv_if_eq (tgt := 29) hx hb dX7_heldFrom_23 (by decide) (fun c4 => ?_) (fun c4 => ?_)
      · replace hw := hw.1 c4
        refine lv_iconst (v := (1 : Int32)) hx hb dX7_heldFrom_29 (by decide) ?_
        refine lv_istore_n (lv' := [(1, .int (1 : Int32)), (0, .ref (ad 0))]) hx hb dX7_heldFrom_30 rfl hl (by decide) rfl (fun ls hl => ?_)
        obtain ⟨n31, hw⟩ := hw
        exact hL31 n31 V1 H locs ls (1 : Int32) hI (lv_sub hl [1, 0] rfl) hw
      · replace hw := hw.2 c4
        refine lv_ldc (v := (-1000000 : Int32)) hx hb hown hw_3 dX7_heldFrom_26 ?_
        exact W.iret (v := (-1000000 : Int32)) hx hb hr (x_reti hI hw) hI.2.2.2.2 dX7_heldFrom_28
    · replace hw := hw.2 c3
      refine lv_ldc (v := (-1000002 : Int32)) hx hb hown hw_4 dX7_heldFrom_10 ?_
      exact W.iret (v := (-1000002 : Int32)) hx hb hr (x_reti hI hw) hI.2.2.2.2 dX7_heldFrom_12
  exact hgo s.heap [] hI
def rm_X7_righted : Room := { frames := 7, cells := 0, slots := 0, locals := 154 }
set_option maxHeartbeats 4000000 in
set_option maxRecDepth 100000 in
theorem c_X7_righted (l : Launch) (g : GP) (ad : Nat → Nat) (sz : Nat) (V : VT)   (K : Int32 → VT → Prop) (hw : wp_X7_righted V  K) : Met l yX7_righted wsX7_righted rm_X7_righted (va_Pc [.ref (ad 0)] (WPre 76 (cX g ad) ad g V sz)) (va_Qi K (WPost 76 (cX g ad) ad g) (AW ad 76 sz)) 0 0 (AW ad 76 sz) := by
  refine Met.ofW (cc := cX7_righted) (maxL := 3) (ret := (some .int)) (by decide) rfl ?_
  intro p e s m args below meth c s₁ B hml hv
  obtain ⟨ha, hv⟩ := hv
  obtain rfl := hv.1
  have hI : WI g 76 (cX g ad) ad V s.heap s.heap [] := WI.start hv
  have hK := hv.2.2.1
  have hE := hv.2.2.2.2
  have hx := B.exec
  have hb := B.bytes
  have hr := B.returns
  have hts := atoms_spec (ws := wsX7_righted) B.pre
  have hown : s.vm.findClass RX7 = some m.cls := findClass_of_methodNamed B.named
  have hlocks := B.notSynchronized
  have hw_0 := hts (.fieldLink RX7 22 "HoopLane" "lane" "LHoopLane$Lane;") (by decide +kernel)
  have hw_1 := hts (.fieldLink RX7 134 "HoopLane$Lane" "taps" "I") (by decide +kernel)
  have hw_2 := hts (.constant RX7 196 (-1000000)) (by decide +kernel)
  have hw_3 := hts (.fieldLink RX7 147 "HoopLane$Lane" "hoop" "LHoopLane$Hoop;") (by decide +kernel)
  have hw_4 := hts (.fieldLink RX7 150 "HoopLane$Hoop" "end" "I") (by decide +kernel)
  have hw_5 := hts (.constant RX7 140 (-1000002)) (by decide +kernel)
  have hw_6 := hts (.fieldLink RX7 176 "HoopLane$Lane" "holds" "I") (by decide +kernel)
  have hw_7 := hts (.fieldLink RX7 60 "HoopLane" "trial" "LHoopLane$Hoop;") (by decide +kernel)
  have hw_8 := hts (.fieldLink RX7 170 "HoopLane$Hoop" "yard" "I") (by decide +kernel)
  have hw_9 := hts (.fieldLink RX7 204 "HoopLane$Hoop" "pace" "I") (by decide +kernel)
  have hin7 : ∀ w ∈ wsX70, w ∈ wsX7_righted := by decide +kernel
  have hin3 : ∀ w ∈ wsX30, w ∈ wsX7_righted := by decide +kernel
  have hin2 : ∀ w ∈ wsX20, w ∈ wsX7_righted := by decide +kernel
  have hl := lv_entry ([.ref (ad 0)]) (n := 3) (Nat.le_of_ble_eq_true rfl)
  have hent : entryFrame m args 3 = F0 m 0 ((lg_sl ([.ref (ad 0)]) ++ List.replicate (3 - (lg_sl ([.ref (ad 0)])).length) Slot.unset).toArray) [] := by rw [ha, lg_entry_eq]
  rw [hent]
  generalize (lg_sl ([.ref (ad 0)]) ++ List.replicate (3 - (lg_sl ([.ref (ad 0)])).length) Slot.unset).toArray = ls at hl ⊢
  have hl : lv_has ls 3 [(0, .ref (ad 0))] := hl
  obtain ⟨H, hH⟩ : ∃ H : Heap, H = s.heap := ⟨_, rfl⟩
  have hL43 : ∀ (n43 : Nat) (V : VT) (H : Heap) (locs : List Loc) (ls : Array Slot) (x1 : Int32) (x2 : Int32), WI g 76 (cX g ad) ad V s.heap H locs → lv_has ls 3 [(0, .ref (ad 0)), (1, .int x1), (2, .int x2)] → wp_X7_righted_L43 K  n43 V x1 x2 → W p l e (headSpec wsX7_righted rm_X7_righted).room s m args below meth c H locs 0 0 (MQ below (va_Qi K (WPost 76 (cX g ad) ad g) (AW ad 76 s.heap.size)) args s 0 0 (AW ad 76 s.heap.size)) (F0 m 43 ls []) := by
    intro n43
    induction n43 with
    | zero => intro V H locs ls x1 x2  hI hl hw; exact False.elim hw
    | succ n43 ihL43 =>
      have hb96 : ∀ (V : VT) (H : Heap) (locs : List Loc) (ls : Array Slot) (x1 : Int32) (x2 : Int32), WI g 76 (cX g ad) ad V s.heap H locs → lv_has ls 3 [(0, .ref (ad 0)), (1, .int x1), (2, .int x2)] → wp_X7_righted_b96 K (wp_X7_righted_L43 K  n43) V x1 x2 → W p l e (headSpec wsX7_righted rm_X7_righted).room s m args below meth c H locs 0 0 (MQ below (va_Qi K (WPost 76 (cX g ad) ad g) (AW ad 76 s.heap.size)) args s 0 0 (AW ad 76 s.heap.size)) (F0 m 96 ls []) := by
        intro V H locs ls x1 x2  hI hl hw
        refine lv_iinc (v := (x2 + (1 : Int32))) (lv' := [(2, .int (x2 + (1 : Int32))), (0, .ref (ad 0)), (1, .int x1)]) hx hb dX7_righted_96 hl (k := 2) rfl rfl (by decide) rfl (fun ls hl => ?_)
        refine lv_goto (tgt := 43) hx hb dX7_righted_99 (by decide) ?_
        exact ihL43 V H locs ls x1 (x2 + (1 : Int32)) hI (lv_sub hl [1, 2, 0] rfl) hw
      intro V H locs ls x1 x2  hI hl hw
      refine lv_iload_n hx hb dX7_righted_43 rfl (lv_at hl 2 rfl) ?_
      refine lv_aload_n hx hb dX7_righted_44 rfl (lv_at hl 0 rfl) ?_
      refine xg7_2 (k := 0) hx hb hts hin7 hown hK hI (by decide) hw_0 dX7_righted_45 ?_
      refine xg3_6 (k := 16) hx hb hts hin3 hown hK hI (by decide) hw_6 dX7_righted_48 ?_
      refine lv_icmp_gt (tgt := 102) hx hb dX7_righted_51 (by decide) (fun c6 => ?_) (fun c6 => ?_)
      · replace hw := hw.1 c6
        refine lv_iload_n hx hb dX7_righted_102 rfl (lv_at hl 1 rfl) ?_
        exact W.iret (v := x1) hx hb hr (x_reti hI hw) hI.2.2.2.2 dX7_righted_103
      · replace hw := hw.2 c6
        refine lv_aload_n hx hb dX7_righted_54 rfl (lv_at hl 0 rfl) ?_
        refine xg7_8 (k := 0) hx hb hts hin7 hown hK hI (by decide) hw_7 dX7_righted_55 ?_
        refine lv_aload_n hx hb dX7_righted_58 rfl (lv_at hl 0 rfl) ?_
        refine xg7_2 (k := 0) hx hb hts hin7 hown hK hI (by decide) hw_0 dX7_righted_59 ?_
        refine xg3_3 (k := 16) hx hb hts hin3 hown hK hI (by decide) hw_3 dX7_righted_62 ?_
        refine xg2_0 (k := 20) hx hb hts hin2 hown hK hI (by decide) hw_8 dX7_righted_65 ?_
        refine lv_aload_n hx hb dX7_righted_68 rfl (lv_at hl 0 rfl) ?_
        refine xg7_2 (k := 0) hx hb hts hin7 hown hK hI (by decide) hw_0 dX7_righted_69 ?_
        refine xg3_3 (k := 16) hx hb hts hin3 hown hK hI (by decide) hw_3 dX7_righted_72 ?_
        refine xg2_1 (k := 20) hx hb hts hin2 hown hK hI (by decide) hw_9 dX7_righted_75 ?_
        refine lv_iload_n hx hb dX7_righted_78 rfl (lv_at hl 2 rfl) ?_
        refine x_aftv (va_runV (As := [.int (V 20 0), .int (V 20 1), .int x2]) (rest := []) ⟨hx, hb, hml, hown, hts⟩ (c_X2_stand l g ad H.size V 15 (V 20 0) (V 20 1) x2 (by decide) _ hw) (cwV 3 hts gX7_righted_X2_stand rfl rfl rfl (by decide +kernel) ⟨Nat.le_of_ble_eq_true rfl, Nat.le_of_ble_eq_true rfl⟩) (x_preV (k := 15) hK hE hI (by decide) (cX_2 (by decide)) rfl) rfl rfl hl.1 rfl (lv_room (Nat.le_of_ble_eq_true rfl)) dX7_righted_79 ⟨Nat.zero_le _, Nat.zero_le _⟩) hI (fun V7 H locs hw hI => ?_)
        refine lv_aload_n hx hb dX7_righted_82 rfl (lv_at hl 0 rfl) ?_
        refine lv_aload_n hx hb dX7_righted_83 rfl (lv_at hl 0 rfl) ?_
        refine xg7_8 (k := 0) hx hb hts hin7 hown hK hI (by decide) hw_7 dX7_righted_84 ?_
        refine x_afti (va_runV (As := [.ref (ad 15)]) (rest := []) ⟨hx, hb, hml, hown, hts⟩ (c_X7_canBeHome l g ad H.size V7 15 (by decide) _ hw) (cwV 1 hts gX7_righted_X7_canBeHome rfl rfl rfl (by decide +kernel) ⟨Nat.le_of_ble_eq_true rfl, Nat.le_of_ble_eq_true rfl⟩) (x_preV (k := 0) hK hE hI (by decide) (cX_7 (by decide)) rfl) rfl rfl hl.1 rfl (lv_room (Nat.le_of_ble_eq_true rfl)) dX7_righted_87 ⟨Nat.zero_le _, Nat.zero_le _⟩) hI (fun r9 V8 H locs hw hI => ?_)
        refine lv_if_eq (tgt := 96) hx hb dX7_righted_90 (by decide) (fun c10 => ?_) (fun c10 => ?_)
        · replace hw := hw.1 c10
          exact hb96 V8 H locs ls x1 x2 hI (lv_sub hl [0, 1, 2] rfl) hw
        · replace hw := hw.2 c10
          refine lv_iinc (v := (x1 + (1 : Int32))) (lv' := [(1, .int (x1 + (1 : Int32))), (0, .ref (ad 0)), (2, .int x2)]) hx hb dX7_righted_93 hl (k := 1) rfl rfl (by decide) rfl (fun ls hl => ?_)
          exact hb96 V8 H locs ls (x1 + (1 : Int32)) x2 hI (lv_sub hl [1, 0, 2] rfl) hw
  have hgo : ∀ (H : Heap) (locs : List Loc), WI g 76 (cX g ad) ad V s.heap H locs → W p l e (headSpec wsX7_righted rm_X7_righted).room s m args below meth c H locs 0 0 (MQ below (va_Qi K (WPost 76 (cX g ad) ad g) (AW ad 76 s.heap.size)) args s 0 0 (AW ad 76 s.heap.size)) (F0 m 0 ls []) := by
    intro H locs hI
    refine lv_aload_n hx hb dX7_righted_0 rfl (lv_at hl 0 rfl) ?_
    refine xg7_2 (k := 0) hx hb hts hin7 hown hK hI (by decide) hw_0 dX7_righted_1 ?_
    refine x_afti (va_runV (As := []) (rest := []) ⟨hx, hb, hml, hown, hts⟩ (c_X3_isThere l g ad H.size V 16 (by decide) _ hw) (cwV 0 hts gX7_righted_X3_isThere rfl rfl rfl (by decide +kernel) ⟨Nat.le_of_ble_eq_true rfl, Nat.le_of_ble_eq_true rfl⟩) (x_preV (k := 16) hK hE hI (by decide) (cX_3 (by decide)) rfl) rfl rfl hl.1 rfl (lv_room (Nat.le_of_ble_eq_true rfl)) dX7_righted_4 ⟨Nat.zero_le _, Nat.zero_le _⟩) hI (fun r2 V1 H locs hw hI => ?_)
    refine lv_if_ne (tgt := 13) hx hb dX7_righted_7 (by decide) (fun c3 => ?_) (fun c3 => ?_)
    · replace hw := hw.1 c3
      refine lv_aload_n hx hb dX7_righted_13 rfl (lv_at hl 0 rfl) ?_
      refine xg7_2 (k := 0) hx hb hts hin7 hown hK hI (by decide) hw_0 dX7_righted_14 ?_
      refine xg3_5 (k := 16) hx hb hts hin3 hown hK hI (by decide) hw_1 dX7_righted_17 ?_
      refine lv_if_eq (tgt := 36) hx hb dX7_righted_20 (by decide) (fun c4 => ?_) (fun c4 => ?_)
      · replace hw := hw.1 c4
        refine lv_ldc (v := (-1000000 : Int32)) hx hb hown hw_2 dX7_righted_36 ?_
        exact W.iret (v := (-1000000 : Int32)) hx hb hr (x_reti hI hw) hI.2.2.2.2 dX7_righted_38
      · replace hw := hw.2 c4
        refine lv_aload_n hx hb dX7_righted_23 rfl (lv_at hl 0 rfl) ?_
        refine xg7_2 (k := 0) hx hb hts hin7 hown hK hI (by decide) hw_0 dX7_righted_24 ?_
        refine xg3_3 (k := 16) hx hb hts hin3 hown hK hI (by decide) hw_3 dX7_righted_27 ?_
        refine xg2_3 (k := 20) hx hb hts hin2 hown hK hI (by decide) hw_4 dX7_righted_30 ?_
        refine lv_if_eq (tgt := 39) hx hb dX7_righted_33 (by decide) (fun c5 => ?_) (fun c5 => ?_)
        · replace hw := hw.1 c5
          refine lv_iconst (v := (0 : Int32)) hx hb dX7_righted_39 (by decide) ?_
          refine lv_istore_n (lv' := [(1, .int (0 : Int32)), (0, .ref (ad 0))]) hx hb dX7_righted_40 rfl hl (by decide) rfl (fun ls hl => ?_)
          refine lv_iconst (v := (0 : Int32)) hx hb dX7_righted_41 (by decide) ?_
          refine lv_istore_n (lv' := [(2, .int (0 : Int32)), (1, .int (0 : Int32)), (0, .ref (ad 0))]) hx hb dX7_righted_42 rfl hl (by decide) rfl (fun ls hl => ?_)
          obtain ⟨n43, hw⟩ := hw
          exact hL43 n43 V1 H locs ls (0 : Int32) (0 : Int32) hI (lv_sub hl [2, 1, 0] rfl) hw
        · replace hw := hw.2 c5
          refine lv_ldc (v := (-1000000 : Int32)) hx hb hown hw_2 dX7_righted_36 ?_
          exact W.iret (v := (-1000000 : Int32)) hx hb hr (x_reti hI hw) hI.2.2.2.2 dX7_righted_38
    · replace hw := hw.2 c3
      refine lv_ldc (v := (-1000002 : Int32)) hx hb hown hw_5 dX7_righted_10 ?_
      exact W.iret (v := (-1000002 : Int32)) hx hb hr (x_reti hI hw) hI.2.2.2.2 dX7_righted_12
  exact hgo s.heap [] hI
def rm_X7_tapsIn : Room := { frames := 1, cells := 0, slots := 0, locals := 22 }
set_option maxHeartbeats 4000000 in
set_option maxRecDepth 100000 in
theorem c_X7_tapsIn (l : Launch) (g : GP) (ad : Nat → Nat) (sz : Nat) (V : VT) (k1 : Nat) (x2 : Int32) (x3 : Int32) (hk1 : kX k1 = 5) (K : Int32 → VT → Prop) (hw : wp_X7_tapsIn V k1 x2 x3 K) : Met l yX7_tapsIn wsX7_tapsIn rm_X7_tapsIn (va_Pc [.ref (ad 0), .ref (ad k1), .int x2, .int x3] (WPre 76 (cX g ad) ad g V sz)) (va_Qi K (WPost 76 (cX g ad) ad g) (AW ad 76 sz)) 0 0 (AW ad 76 sz) := by
  refine Met.ofW (cc := cX7_tapsIn) (maxL := 6) (ret := (some .int)) (by decide) rfl ?_
  intro p e s m args below meth c s₁ B hml hv
  obtain ⟨ha, hv⟩ := hv
  obtain rfl := hv.1
  have hI : WI g 76 (cX g ad) ad V s.heap s.heap [] := WI.start hv
  have hK := hv.2.2.1
  have hE := hv.2.2.2.2
  have hx := B.exec
  have hb := B.bytes
  have hr := B.returns
  have hts := atoms_spec (ws := wsX7_tapsIn) B.pre
  have hown : s.vm.findClass RX7 = some m.cls := findClass_of_methodNamed B.named
  have hlocks := B.notSynchronized
  have hw_0 := hts (.fieldLink RX7 99 "HoopLane$Row" "items" "[I") (by decide +kernel)
  have hw_1 := hts (.fieldLink RX7 22 "HoopLane" "lane" "LHoopLane$Lane;") (by decide +kernel)
  have hw_2 := hts (.fieldLink RX7 134 "HoopLane$Lane" "taps" "I") (by decide +kernel)
  have hw_3 := hts (.constant RX7 196 (-1000000)) (by decide +kernel)
  have hin5 : ∀ w ∈ wsX50, w ∈ wsX7_tapsIn := by decide +kernel
  have hin7 : ∀ w ∈ wsX70, w ∈ wsX7_tapsIn := by decide +kernel
  have hin3 : ∀ w ∈ wsX30, w ∈ wsX7_tapsIn := by decide +kernel
  have hl := lv_entry ([.ref (ad 0), .ref (ad k1), .int x2, .int x3]) (n := 6) (Nat.le_of_ble_eq_true rfl)
  have hent : entryFrame m args 6 = F0 m 0 ((lg_sl ([.ref (ad 0), .ref (ad k1), .int x2, .int x3]) ++ List.replicate (6 - (lg_sl ([.ref (ad 0), .ref (ad k1), .int x2, .int x3])).length) Slot.unset).toArray) [] := by rw [ha, lg_entry_eq]
  rw [hent]
  generalize (lg_sl ([.ref (ad 0), .ref (ad k1), .int x2, .int x3]) ++ List.replicate (6 - (lg_sl ([.ref (ad 0), .ref (ad k1), .int x2, .int x3])).length) Slot.unset).toArray = ls at hl ⊢
  have hl : lv_has ls 6 [(0, .ref (ad 0)), (1, .ref (ad k1)), (2, .int x2), (3, .int x3)] := hl
  obtain ⟨H, hH⟩ : ∃ H : Heap, H = s.heap := ⟨_, rfl⟩
  have hL6 : ∀ (n6 : Nat) (V : VT) (H : Heap) (locs : List Loc) (ls : Array Slot) (k1 : Nat) (x2 : Int32) (x3 : Int32) (x4 : Int32) (x5 : Int32), kX k1 = 5 → WI g 76 (cX g ad) ad V s.heap H locs → lv_has ls 6 [(0, .ref (ad 0)), (1, .ref (ad k1)), (2, .int x2), (3, .int x3), (4, .int x4), (5, .int x5)] → wp_X7_tapsIn_L6 K  n6 V k1 x2 x3 x4 x5 → W p l e (headSpec wsX7_tapsIn rm_X7_tapsIn).room s m args below meth c H locs 0 0 (MQ below (va_Qi K (WPost 76 (cX g ad) ad g) (AW ad 76 s.heap.size)) args s 0 0 (AW ad 76 s.heap.size)) (F0 m 6 ls []) := by
    intro n6
    induction n6 with
    | zero => intro V H locs ls k1 x2 x3 x4 x5 hk1 hI hl hw; exact False.elim hw
    | succ n6 ihL6 =>
      have hb53 : ∀ (V : VT) (H : Heap) (locs : List Loc) (ls : Array Slot) (k1 : Nat) (x2 : Int32) (x3 : Int32) (x4 : Int32) (x5 : Int32), kX k1 = 5 → WI g 76 (cX g ad) ad V s.heap H locs → lv_has ls 6 [(0, .ref (ad 0)), (1, .ref (ad k1)), (2, .int x2), (3, .int x3), (4, .int x4), (5, .int x5)] → wp_X7_tapsIn_b53 K (wp_X7_tapsIn_L6 K  n6) V k1 x2 x3 x4 x5 → W p l e (headSpec wsX7_tapsIn rm_X7_tapsIn).room s m args below meth c H locs 0 0 (MQ below (va_Qi K (WPost 76 (cX g ad) ad g) (AW ad 76 s.heap.size)) args s 0 0 (AW ad 76 s.heap.size)) (F0 m 53 ls []) := by
        intro V H locs ls k1 x2 x3 x4 x5 hk1 hI hl hw
        refine lv_iinc (v := (x5 + (1 : Int32))) (lv' := [(5, .int (x5 + (1 : Int32))), (0, .ref (ad 0)), (1, .ref (ad k1)), (2, .int x2), (3, .int x3), (4, .int x4)]) hx hb dX7_tapsIn_53 hl (k := 5) rfl rfl (by decide) rfl (fun ls hl => ?_)
        refine lv_goto (tgt := 6) hx hb dX7_tapsIn_56 (by decide) ?_
        exact ihL6 V H locs ls k1 x2 x3 x4 (x5 + (1 : Int32)) hk1 hI (lv_sub hl [1, 2, 3, 4, 5, 0] rfl) hw
      intro V H locs ls k1 x2 x3 x4 x5 hk1 hI hl hw
      refine lv_iload hx hb dX7_tapsIn_6 (lv_at hl 5 rfl) ?_
      refine lv_iload_n hx hb dX7_tapsIn_8 rfl (lv_at hl 2 rfl) ?_
      refine lv_iload_n hx hb dX7_tapsIn_9 rfl (lv_at hl 3 rfl) ?_
      refine lv_iadd hx hb dX7_tapsIn_10 ?_
      refine lv_icmp_ge (tgt := 59) hx hb dX7_tapsIn_11 (by decide) (fun c1 => ?_) (fun c1 => ?_)
      · replace hw := hw.1 c1
        refine lv_iload hx hb dX7_tapsIn_59 (lv_at hl 4 rfl) ?_
        exact W.iret (v := x4) hx hb hr (x_reti hI hw) hI.2.2.2.2 dX7_tapsIn_61
      · replace hw := hw.2 c1
        refine lv_aload_n hx hb dX7_tapsIn_14 rfl (lv_at hl 1 rfl) ?_
        refine xg5_0 (k := k1) hx hb hts hin5 hown hK hI hk1 hw_0 dX7_tapsIn_15 ?_
        refine lv_iload hx hb dX7_tapsIn_18 (lv_at hl 5 rfl) ?_
        obtain ⟨h2, hw⟩ := hw
        refine x_iald (k := k1 + 1) hx hb hK hI (kX_lt (kX_5s hk1).1 (by decide)) (cX_9 (kX_5s hk1).1 (kX_5s hk1).2) h2 dX7_tapsIn_20 ?_
        refine lv_iconst (v := (-1 : Int32)) hx hb dX7_tapsIn_21 (by decide) ?_
        refine lv_aload_n hx hb dX7_tapsIn_22 rfl (lv_at hl 0 rfl) ?_
        refine xg7_2 (k := 0) hx hb hts hin7 hown hK hI (by decide) hw_1 dX7_tapsIn_23 ?_
        refine xg3_5 (k := 16) hx hb hts hin3 hown hK hI (by decide) hw_2 dX7_tapsIn_26 ?_
        refine lv_iconst (v := (1 : Int32)) hx hb dX7_tapsIn_29 (by decide) ?_
        refine lv_isub hx hb dX7_tapsIn_30 ?_
        refine x_afti (va_runS (As := [.int (V (k1 + 1) (x5).toNatClampNeg), .int (-1 : Int32), .int ((V 16 5) - (1 : Int32))]) (rest := []) ⟨hx, hb, hml, hown, hts⟩ (c_X7_isOut l g ad H.size V (V (k1 + 1) (x5).toNatClampNeg) (-1 : Int32) ((V 16 5) - (1 : Int32)) _ hw) (cwS 3 hts gX7_tapsIn_X7_isOut rfl rfl rfl (by decide +kernel) ⟨Nat.le_of_ble_eq_true rfl, Nat.le_of_ble_eq_true rfl⟩) (x_preS hK hE hI) rfl rfl hl.1 rfl (lv_room (Nat.le_of_ble_eq_true rfl)) dX7_tapsIn_31 ⟨Nat.zero_le _, Nat.zero_le _⟩) hI (fun r4 V3 H locs hw hI => ?_)
        refine lv_if_eq (tgt := 40) hx hb dX7_tapsIn_34 (by decide) (fun c5 => ?_) (fun c5 => ?_)
        · replace hw := hw.1 c5
          refine lv_aload_n hx hb dX7_tapsIn_40 rfl (lv_at hl 1 rfl) ?_
          refine xg5_0 (k := k1) hx hb hts hin5 hown hK hI hk1 hw_0 dX7_tapsIn_41 ?_
          refine lv_iload hx hb dX7_tapsIn_44 (lv_at hl 5 rfl) ?_
          obtain ⟨h6, hw⟩ := hw
          refine x_iald (k := k1 + 1) hx hb hK hI (kX_lt (kX_5s hk1).1 (by decide)) (cX_9 (kX_5s hk1).1 (kX_5s hk1).2) h6 dX7_tapsIn_46 ?_
          refine lv_if_lt (tgt := 53) hx hb dX7_tapsIn_47 (by decide) (fun c7 => ?_) (fun c7 => ?_)
          · replace hw := hw.1 c7
            exact hb53 V3 H locs ls k1 x2 x3 x4 x5 hk1 hI (lv_sub hl [0, 1, 2, 3, 4, 5] rfl) hw
          · replace hw := hw.2 c7
            refine lv_iinc (v := (x4 + (1 : Int32))) (lv' := [(4, .int (x4 + (1 : Int32))), (0, .ref (ad 0)), (1, .ref (ad k1)), (2, .int x2), (3, .int x3), (5, .int x5)]) hx hb dX7_tapsIn_50 hl (k := 4) rfl rfl (by decide) rfl (fun ls hl => ?_)
            exact hb53 V3 H locs ls k1 x2 x3 (x4 + (1 : Int32)) x5 hk1 hI (lv_sub hl [1, 2, 3, 4, 0, 5] rfl) hw
        · replace hw := hw.2 c5
          refine lv_ldc (v := (-1000000 : Int32)) hx hb hown hw_3 dX7_tapsIn_37 ?_
          exact W.iret (v := (-1000000 : Int32)) hx hb hr (x_reti hI hw) hI.2.2.2.2 dX7_tapsIn_39
  have hgo : ∀ (H : Heap) (locs : List Loc), WI g 76 (cX g ad) ad V s.heap H locs → W p l e (headSpec wsX7_tapsIn rm_X7_tapsIn).room s m args below meth c H locs 0 0 (MQ below (va_Qi K (WPost 76 (cX g ad) ad g) (AW ad 76 s.heap.size)) args s 0 0 (AW ad 76 s.heap.size)) (F0 m 0 ls []) := by
    intro H locs hI
    refine lv_iconst (v := (0 : Int32)) hx hb dX7_tapsIn_0 (by decide) ?_
    refine lv_istore (lv' := [(4, .int (0 : Int32)), (0, .ref (ad 0)), (1, .ref (ad k1)), (2, .int x2), (3, .int x3)]) hx hb dX7_tapsIn_1 hl (by decide) rfl (fun ls hl => ?_)
    refine lv_iload_n hx hb dX7_tapsIn_3 rfl (lv_at hl 3 rfl) ?_
    refine lv_istore (lv' := [(5, .int x2), (4, .int (0 : Int32)), (0, .ref (ad 0)), (1, .ref (ad k1)), (2, .int x2), (3, .int x3)]) hx hb dX7_tapsIn_4 hl (by decide) rfl (fun ls hl => ?_)
    obtain ⟨n6, hw⟩ := hw
    exact hL6 n6 V H locs ls k1 x2 x3 (0 : Int32) x2 hk1 hI (lv_sub hl [2, 3, 4, 5, 1, 0] rfl) hw
  exact hgo s.heap [] hI
def rm_X7_plan : Room := { frames := 4, cells := 0, slots := 0, locals := 81 }
set_option maxHeartbeats 4000000 in
set_option maxRecDepth 100000 in
theorem c_X7_plan (l : Launch) (g : GP) (ad : Nat → Nat) (sz : Nat) (V : VT) (x1 : Int32) (x2 : Int32) (x3 : Int32) (x4 : Int32)  (K : Int32 → VT → Prop) (hw : wp_X7_plan V x1 x2 x3 x4 K) : Met l yX7_plan wsX7_plan rm_X7_plan (va_Pc [.ref (ad 0), .int x1, .int x2, .int x3, .int x4] (WPre 76 (cX g ad) ad g V sz)) (va_Qi K (WPost 76 (cX g ad) ad g) (AW ad 76 sz)) 0 0 (AW ad 76 sz) := by
  refine Met.ofW (cc := cX7_plan) (maxL := 9) (ret := (some .int)) (by decide) rfl ?_
  intro p e s m args below meth c s₁ B hml hv
  obtain ⟨ha, hv⟩ := hv
  obtain rfl := hv.1
  have hI : WI g 76 (cX g ad) ad V s.heap s.heap [] := WI.start hv
  have hK := hv.2.2.1
  have hE := hv.2.2.2.2
  have hx := B.exec
  have hb := B.bytes
  have hr := B.returns
  have hts := atoms_spec (ws := wsX7_plan) B.pre
  have hown : s.vm.findClass RX7 = some m.cls := findClass_of_methodNamed B.named
  have hlocks := B.notSynchronized
  have hw_0 := hts (.fieldLink RX7 22 "HoopLane" "lane" "LHoopLane$Lane;") (by decide +kernel)
  have hw_1 := hts (.constant RX7 76 (-1000001)) (by decide +kernel)
  have hw_2 := hts (.fieldLink RX7 11 "HoopLane" "rows" "[LHoopLane$Row;") (by decide +kernel)
  have hw_3 := hts (.constant RX7 196 (-1000000)) (by decide +kernel)
  have hw_4 := hts (.fieldLink RX7 68 "HoopLane" "status" "I") (by decide +kernel)
  have hw_5 := hts (.fieldLink RX7 60 "HoopLane" "trial" "LHoopLane$Hoop;") (by decide +kernel)
  have hw_6 := hts (.fieldLink RX7 147 "HoopLane$Lane" "hoop" "LHoopLane$Hoop;") (by decide +kernel)
  have hw_7 := hts (.constant RX7 140 (-1000002)) (by decide +kernel)
  have hw_8 := hts (.fieldLink RX7 150 "HoopLane$Hoop" "end" "I") (by decide +kernel)
  have hw_9 := hts (.fieldLink RX7 99 "HoopLane$Row" "items" "[I") (by decide +kernel)
  have hin7 : ∀ w ∈ wsX70, w ∈ wsX7_plan := by decide +kernel
  have hin3 : ∀ w ∈ wsX30, w ∈ wsX7_plan := by decide +kernel
  have hin2 : ∀ w ∈ wsX20, w ∈ wsX7_plan := by decide +kernel
  have hin5 : ∀ w ∈ wsX50, w ∈ wsX7_plan := by decide +kernel
  have hl := lv_entry ([.ref (ad 0), .int x1, .int x2, .int x3, .int x4]) (n := 9) (Nat.le_of_ble_eq_true rfl)
  have hent : entryFrame m args 9 = F0 m 0 ((lg_sl ([.ref (ad 0), .int x1, .int x2, .int x3, .int x4]) ++ List.replicate (9 - (lg_sl ([.ref (ad 0), .int x1, .int x2, .int x3, .int x4])).length) Slot.unset).toArray) [] := by rw [ha, lg_entry_eq]
  rw [hent]
  generalize (lg_sl ([.ref (ad 0), .int x1, .int x2, .int x3, .int x4]) ++ List.replicate (9 - (lg_sl ([.ref (ad 0), .int x1, .int x2, .int x3, .int x4])).length) Slot.unset).toArray = ls at hl ⊢
  have hl : lv_has ls 9 [(0, .ref (ad 0)), (1, .int x1), (2, .int x2), (3, .int x3), (4, .int x4)] := hl
  obtain ⟨H, hH⟩ : ∃ H : Heap, H = s.heap := ⟨_, rfl⟩
  have hb176 : ∀ (V : VT) (H : Heap) (locs : List Loc) (ls : Array Slot) (x4 : Int32) (x7 : Int32), WI g 76 (cX g ad) ad V s.heap H locs → lv_has ls 9 [(0, .ref (ad 0)), (4, .int x4), (7, .int x7)] → wp_X7_plan_b176 K  V x4 x7 → W p l e (headSpec wsX7_plan rm_X7_plan).room s m args below meth c H locs 0 0 (MQ below (va_Qi K (WPost 76 (cX g ad) ad g) (AW ad 76 s.heap.size)) args s 0 0 (AW ad 76 s.heap.size)) (F0 m 176 ls []) := by
    intro V H locs ls x4 x7  hI hl hw
    refine lv_iload hx hb dX7_plan_176 (lv_at hl 1 rfl) ?_
    refine lv_if_ne (tgt := 186) hx hb dX7_plan_178 (by decide) (fun c32 => ?_) (fun c32 => ?_)
    · replace hw := hw.1 c32
      refine lv_aload_n hx hb dX7_plan_186 rfl (lv_at hl 0 rfl) ?_
      refine xg7_8 (k := 0) hx hb hts hin7 hown hK hI (by decide) hw_5 dX7_plan_187 ?_
      refine xg2_3 (k := 15) hx hb hts hin2 hown hK hI (by decide) hw_8 dX7_plan_190 ?_
      exact W.iret (v := (V 15 3)) hx hb hr (x_reti hI hw) hI.2.2.2.2 dX7_plan_193
    · replace hw := hw.2 c32
      refine lv_iload hx hb dX7_plan_181 (lv_at hl 2 rfl) ?_
      refine lv_goto (tgt := 193) hx hb dX7_plan_183 (by decide) ?_
      exact W.iret (v := x7) hx hb hr (x_reti hI hw) hI.2.2.2.2 dX7_plan_193
  have hL113 : ∀ (n113 : Nat) (V : VT) (H : Heap) (locs : List Loc) (ls : Array Slot) (x2 : Int32) (x3 : Int32) (x4 : Int32) (k5 : Nat) (x7 : Int32), kX k5 = 5 → WI g 76 (cX g ad) ad V s.heap H locs → lv_has ls 9 [(0, .ref (ad 0)), (2, .int x2), (3, .int x3), (4, .int x4), (5, .ref (ad k5)), (7, .int x7)] → wp_X7_plan_L113 K  n113 V x2 x3 x4 k5 x7 → W p l e (headSpec wsX7_plan rm_X7_plan).room s m args below meth c H locs 0 0 (MQ below (va_Qi K (WPost 76 (cX g ad) ad g) (AW ad 76 s.heap.size)) args s 0 0 (AW ad 76 s.heap.size)) (F0 m 113 ls []) := by
    intro n113
    induction n113 with
    | zero => intro V H locs ls x2 x3 x4 k5 x7 hk5 hI hl hw; exact False.elim hw
    | succ n113 ihL113 =>
      intro V H locs ls x2 x3 x4 k5 x7 hk5 hI hl hw
      refine lv_iload hx hb dX7_plan_113 (lv_at hl 5 rfl) ?_
      refine lv_iload_n hx hb dX7_plan_115 rfl (lv_at hl 2 rfl) ?_
      refine lv_icmp_ge (tgt := 176) hx hb dX7_plan_116 (by decide) (fun c24 => ?_) (fun c24 => ?_)
      · replace hw := hw.1 c24
        exact hb176 V H locs ls x4 x7 hI (lv_sub hl [0, 3, 5] rfl) hw
      · replace hw := hw.2 c24
        refine lv_aload_n hx hb dX7_plan_119 rfl (lv_at hl 0 rfl) ?_
        refine xg7_8 (k := 0) hx hb hts hin7 hown hK hI (by decide) hw_5 dX7_plan_120 ?_
        refine xg2_3 (k := 15) hx hb hts hin2 hown hK hI (by decide) hw_8 dX7_plan_123 ?_
        refine lv_if_ne (tgt := 176) hx hb dX7_plan_126 (by decide) (fun c25 => ?_) (fun c25 => ?_)
        · replace hw := hw.1 c25
          exact hb176 V H locs ls x4 x7 hI (lv_sub hl [0, 3, 5] rfl) hw
        · replace hw := hw.2 c25
          refine lv_aload hx hb dX7_plan_129 (lv_at hl 4 rfl) ?_
          refine xg5_0 (k := k5) hx hb hts hin5 hown hK hI hk5 hw_9 dX7_plan_131 ?_
          refine lv_iload_n hx hb dX7_plan_134 rfl (lv_at hl 1 rfl) ?_
          refine lv_iload hx hb dX7_plan_135 (lv_at hl 5 rfl) ?_
          refine lv_iadd hx hb dX7_plan_137 ?_
          obtain ⟨h26, hw⟩ := hw
          refine x_iald (k := k5 + 1) hx hb hK hI (kX_lt (kX_5s hk5).1 (by decide)) (cX_9 (kX_5s hk5).1 (kX_5s hk5).2) h26 dX7_plan_138 ?_
          refine lv_istore (lv' := [(8, .int (V (k5 + 1) ((x2 + x7)).toNatClampNeg)), (0, .ref (ad 0)), (2, .int x2), (3, .int x3), (4, .int x4), (5, .ref (ad k5)), (7, .int x7)]) hx hb dX7_plan_139 hl (by decide) rfl (fun ls hl => ?_)
          refine lv_aload_n hx hb dX7_plan_141 rfl (lv_at hl 1 rfl) ?_
          refine xg7_8 (k := 0) hx hb hts hin7 hown hK hI (by decide) hw_5 dX7_plan_142 ?_
          refine lv_aload_n hx hb dX7_plan_145 rfl (lv_at hl 1 rfl) ?_
          refine xg7_2 (k := 0) hx hb hts hin7 hown hK hI (by decide) hw_0 dX7_plan_146 ?_
          refine lv_aload_n hx hb dX7_plan_149 rfl (lv_at hl 1 rfl) ?_
          refine xg7_2 (k := 0) hx hb hts hin7 hown hK hI (by decide) hw_0 dX7_plan_150 ?_
          refine lv_iload hx hb dX7_plan_153 (lv_at hl 0 rfl) ?_
          refine x_afti (va_runV (As := [.int (V (k5 + 1) ((x2 + x7)).toNatClampNeg)]) (rest := [.ref (ad 16), .ref (ad 15)]) ⟨hx, hb, hml, hown, hts⟩ (c_X3_kindAt l g ad H.size V 16 (V (k5 + 1) ((x2 + x7)).toNatClampNeg) (by decide) _ hw) (cwV 1 hts gX7_plan_X3_kindAt rfl rfl rfl (by decide +kernel) ⟨Nat.le_of_ble_eq_true rfl, Nat.le_of_ble_eq_true rfl⟩) (x_preV (k := 16) hK hE hI (by decide) (cX_3 (by decide)) rfl) rfl rfl hl.1 rfl (lv_room (Nat.le_of_ble_eq_true rfl)) dX7_plan_155 ⟨Nat.zero_le _, Nat.zero_le _⟩) hI (fun r28 V27 H locs hw hI => ?_)
          refine lv_aload_n hx hb dX7_plan_158 rfl (lv_at hl 1 rfl) ?_
          refine xg7_2 (k := 0) hx hb hts hin7 hown hK hI (by decide) hw_0 dX7_plan_159 ?_
          refine lv_iload hx hb dX7_plan_162 (lv_at hl 0 rfl) ?_
          refine x_afti (va_runV (As := [.int (V (k5 + 1) ((x2 + x7)).toNatClampNeg)]) (rest := [.int r28, .ref (ad 16), .ref (ad 15)]) ⟨hx, hb, hml, hown, hts⟩ (c_X3_forceAt l g ad H.size V27 16 (V (k5 + 1) ((x2 + x7)).toNatClampNeg) (by decide) _ hw) (cwV 1 hts gX7_plan_X3_forceAt rfl rfl rfl (by decide +kernel) ⟨Nat.le_of_ble_eq_true rfl, Nat.le_of_ble_eq_true rfl⟩) (x_preV (k := 16) hK hE hI (by decide) (cX_3 (by decide)) rfl) rfl rfl hl.1 rfl (lv_room (Nat.le_of_ble_eq_true rfl)) dX7_plan_164 ⟨Nat.zero_le _, Nat.zero_le _⟩) hI (fun r30 V29 H locs hw hI => ?_)
          refine x_aftv (va_runV (As := [.ref (ad 16), .int r28, .int r30]) (rest := []) ⟨hx, hb, hml, hown, hts⟩ (c_X2_pass l g ad H.size V29 15 16 r28 r30 (by decide) (by decide) _ hw) (cwV 3 hts gX7_plan_X2_pass rfl rfl rfl (by decide +kernel) ⟨Nat.le_of_ble_eq_true rfl, Nat.le_of_ble_eq_true rfl⟩) (x_preV (k := 15) hK hE hI (by decide) (cX_2 (by decide)) rfl) rfl rfl hl.1 rfl (lv_room (Nat.le_of_ble_eq_true rfl)) dX7_plan_167 ⟨Nat.zero_le _, Nat.zero_le _⟩) hI (fun V31 H locs hw hI => ?_)
          refine lv_iinc (v := (x7 + (1 : Int32))) (lv' := [(7, .int (x7 + (1 : Int32))), (8, .int (V (k5 + 1) ((x2 + x7)).toNatClampNeg)), (0, .ref (ad 0)), (2, .int x2), (3, .int x3), (4, .int x4), (5, .ref (ad k5))]) hx hb dX7_plan_170 hl (k := 6) rfl rfl (by decide) rfl (fun ls hl => ?_)
          refine lv_goto (tgt := 113) hx hb dX7_plan_173 (by decide) ?_
          exact ihL113 V31 H locs ls x2 x3 x4 k5 (x7 + (1 : Int32)) hk5 hI (lv_sub hl [2, 3, 4, 5, 6, 0] rfl) hw
  have hgo : ∀ (H : Heap) (locs : List Loc), WI g 76 (cX g ad) ad V s.heap H locs → W p l e (headSpec wsX7_plan rm_X7_plan).room s m args below meth c H locs 0 0 (MQ below (va_Qi K (WPost 76 (cX g ad) ad g) (AW ad 76 s.heap.size)) args s 0 0 (AW ad 76 s.heap.size)) (F0 m 0 ls []) := by
    intro H locs hI
    refine lv_aload_n hx hb dX7_plan_0 rfl (lv_at hl 0 rfl) ?_
    refine xg7_2 (k := 0) hx hb hts hin7 hown hK hI (by decide) hw_0 dX7_plan_1 ?_
    refine x_afti (va_runV (As := []) (rest := []) ⟨hx, hb, hml, hown, hts⟩ (c_X3_isThere l g ad H.size V 16 (by decide) _ hw) (cwV 0 hts gX7_plan_X3_isThere rfl rfl rfl (by decide +kernel) ⟨Nat.le_of_ble_eq_true rfl, Nat.le_of_ble_eq_true rfl⟩) (x_preV (k := 16) hK hE hI (by decide) (cX_3 (by decide)) rfl) rfl rfl hl.1 rfl (lv_room (Nat.le_of_ble_eq_true rfl)) dX7_plan_4 ⟨Nat.zero_le _, Nat.zero_le _⟩) hI (fun r2 V1 H locs hw hI => ?_)
    refine lv_if_ne (tgt := 13) hx hb dX7_plan_7 (by decide) (fun c3 => ?_) (fun c3 => ?_)
    · replace hw := hw.1 c3
      refine lv_iload_n hx hb dX7_plan_13 rfl (lv_at hl 1 rfl) ?_
      refine lv_iconst (v := (0 : Int32)) hx hb dX7_plan_14 (by decide) ?_
      refine lv_bipush (v := (7 : Int32)) hx hb dX7_plan_15 (by decide) ?_
      refine x_afti (va_runS (As := [.int x1, .int (0 : Int32), .int (7 : Int32)]) (rest := []) ⟨hx, hb, hml, hown, hts⟩ (c_X7_isOut l g ad H.size V1 x1 (0 : Int32) (7 : Int32) _ hw) (cwS 3 hts gX7_plan_X7_isOut rfl rfl rfl (by decide +kernel) ⟨Nat.le_of_ble_eq_true rfl, Nat.le_of_ble_eq_true rfl⟩) (x_preS hK hE hI) rfl rfl hl.1 rfl (lv_room (Nat.le_of_ble_eq_true rfl)) dX7_plan_17 ⟨Nat.zero_le _, Nat.zero_le _⟩) hI (fun r5 V4 H locs hw hI => ?_)
      refine lv_if_ne (tgt := 43) hx hb dX7_plan_20 (by decide) (fun c6 => ?_) (fun c6 => ?_)
      · replace hw := hw.1 c6
        refine lv_ldc (v := (-1000001 : Int32)) hx hb hown hw_1 dX7_plan_43 ?_
        exact W.iret (v := (-1000001 : Int32)) hx hb hr (x_reti hI hw) hI.2.2.2.2 dX7_plan_45
      · replace hw := hw.2 c6
        refine lv_iload_n hx hb dX7_plan_23 rfl (lv_at hl 3 rfl) ?_
        refine lv_iconst (v := (0 : Int32)) hx hb dX7_plan_24 (by decide) ?_
        refine lv_bipush (v := (24 : Int32)) hx hb dX7_plan_25 (by decide) ?_
        refine x_afti (va_runS (As := [.int x3, .int (0 : Int32), .int (24 : Int32)]) (rest := []) ⟨hx, hb, hml, hown, hts⟩ (c_X7_isOut l g ad H.size V4 x3 (0 : Int32) (24 : Int32) _ hw) (cwS 3 hts gX7_plan_X7_isOut rfl rfl rfl (by decide +kernel) ⟨Nat.le_of_ble_eq_true rfl, Nat.le_of_ble_eq_true rfl⟩) (x_preS hK hE hI) rfl rfl hl.1 rfl (lv_room (Nat.le_of_ble_eq_true rfl)) dX7_plan_27 ⟨Nat.zero_le _, Nat.zero_le _⟩) hI (fun r8 V7 H locs hw hI => ?_)
        refine lv_if_ne (tgt := 43) hx hb dX7_plan_30 (by decide) (fun c9 => ?_) (fun c9 => ?_)
        · replace hw := hw.1 c9
          refine lv_ldc (v := (-1000001 : Int32)) hx hb hown hw_1 dX7_plan_43 ?_
          exact W.iret (v := (-1000001 : Int32)) hx hb hr (x_reti hI hw) hI.2.2.2.2 dX7_plan_45
        · replace hw := hw.2 c9
          refine lv_iload hx hb dX7_plan_33 (lv_at hl 4 rfl) ?_
          refine lv_iconst (v := (0 : Int32)) hx hb dX7_plan_35 (by decide) ?_
          refine lv_iconst (v := (1 : Int32)) hx hb dX7_plan_36 (by decide) ?_
          refine x_afti (va_runS (As := [.int x4, .int (0 : Int32), .int (1 : Int32)]) (rest := []) ⟨hx, hb, hml, hown, hts⟩ (c_X7_isOut l g ad H.size V7 x4 (0 : Int32) (1 : Int32) _ hw) (cwS 3 hts gX7_plan_X7_isOut rfl rfl rfl (by decide +kernel) ⟨Nat.le_of_ble_eq_true rfl, Nat.le_of_ble_eq_true rfl⟩) (x_preS hK hE hI) rfl rfl hl.1 rfl (lv_room (Nat.le_of_ble_eq_true rfl)) dX7_plan_37 ⟨Nat.zero_le _, Nat.zero_le _⟩) hI (fun r11 V10 H locs hw hI => ?_)
          refine lv_if_eq (tgt := 46) hx hb dX7_plan_40 (by decide) (fun c12 => ?_) (fun c12 => ?_)
          · replace hw := hw.1 c12
            refine lv_aload_n hx hb dX7_plan_46 rfl (lv_at hl 0 rfl) ?_
            refine xg7_0 (k := 0) hx hb hts hin7 hown hK hI (by decide) hw_2 dX7_plan_47 ?_
            refine lv_iload_n hx hb dX7_plan_50 rfl (lv_at hl 1 rfl) ?_
            obtain ⟨h13, hw⟩ := hw
            refine x_aald (k := 1) (n := 8) (q := ad (36 + 2 * (x1).toNatClampNeg)) hx hb hK hI (by decide) 4 rfl rfl h13 rfl dX7_plan_51 ?_
            refine lv_astore (lv' := [(5, .ref (ad (36 + 2 * (x1).toNatClampNeg))), (0, .ref (ad 0)), (1, .int x1), (2, .int x2), (3, .int x3), (4, .int x4)]) hx hb dX7_plan_52 hl (by decide) rfl (fun ls hl => ?_)
            refine lv_aload hx hb dX7_plan_54 (lv_at hl 0 rfl) ?_
            refine lv_iload_n hx hb dX7_plan_56 rfl (lv_at hl 3 rfl) ?_
            refine lv_iload_n hx hb dX7_plan_57 rfl (lv_at hl 4 rfl) ?_
            refine x_afti (va_runV (As := [.int x2, .int x3]) (rest := []) ⟨hx, hb, hml, hown, hts⟩ (c_X5_findingAt l g ad H.size V10 (36 + 2 * (x1).toNatClampNeg) x2 x3 (kX_at13 h13) _ hw) (cwV 2 hts gX7_plan_X5_findingAt rfl rfl rfl (by decide +kernel) ⟨Nat.le_of_ble_eq_true rfl, Nat.le_of_ble_eq_true rfl⟩) (x_preV (k := (36 + 2 * (x1).toNatClampNeg)) hK hE hI (kX_lt (kX_at13 h13) (by decide)) (cX_5 (kX_at13 h13)) rfl) rfl rfl hl.1 rfl (lv_room (Nat.le_of_ble_eq_true rfl)) dX7_plan_58 ⟨Nat.zero_le _, Nat.zero_le _⟩) hI (fun r15 V14 H locs hw hI => ?_)
            refine lv_istore (lv' := [(6, .int r15), (5, .ref (ad (36 + 2 * (x1).toNatClampNeg))), (0, .ref (ad 0)), (1, .int x1), (2, .int x2), (3, .int x3), (4, .int x4)]) hx hb dX7_plan_61 hl (by decide) rfl (fun ls hl => ?_)
            refine lv_iload hx hb dX7_plan_63 (lv_at hl 0 rfl) ?_
            refine lv_if_eq (tgt := 75) hx hb dX7_plan_65 (by decide) (fun c16 => ?_) (fun c16 => ?_)
            · replace hw := hw.1 c16
              refine lv_aload_n hx hb dX7_plan_75 rfl (lv_at hl 2 rfl) ?_
              refine lv_aload hx hb dX7_plan_76 (lv_at hl 1 rfl) ?_
              refine lv_iload_n hx hb dX7_plan_78 rfl (lv_at hl 4 rfl) ?_
              refine lv_iload_n hx hb dX7_plan_79 rfl (lv_at hl 5 rfl) ?_
              refine x_afti (va_runV (As := [.ref (ad (36 + 2 * (x1).toNatClampNeg)), .int x2, .int x3]) (rest := []) ⟨hx, hb, hml, hown, hts⟩ (c_X7_tapsIn l g ad H.size V14 (36 + 2 * (x1).toNatClampNeg) x2 x3 (kX_at13 h13) _ hw) (cwV 3 hts gX7_plan_X7_tapsIn rfl rfl rfl (by decide +kernel) ⟨Nat.le_of_ble_eq_true rfl, Nat.le_of_ble_eq_true rfl⟩) (x_preV (k := 0) hK hE hI (by decide) (cX_7 (by decide)) rfl) rfl rfl hl.1 rfl (lv_room (Nat.le_of_ble_eq_true rfl)) dX7_plan_80 ⟨Nat.zero_le _, Nat.zero_le _⟩) hI (fun r18 V17 H locs hw hI => ?_)
              refine lv_ldc (v := (-1000000 : Int32)) hx hb hown hw_3 dX7_plan_83 ?_
              refine lv_icmp_ne (tgt := 91) hx hb dX7_plan_85 (by decide) (fun c19 => ?_) (fun c19 => ?_)
              · replace hw := hw.1 c19
                refine lv_aload_n hx hb dX7_plan_91 rfl (lv_at hl 2 rfl) ?_
                refine lv_iconst (v := (0 : Int32)) hx hb dX7_plan_92 (by decide) ?_
                refine xp7_10 (k := 0) hx hb hts hin7 hown hK hI (by decide) hw_4 dX7_plan_93 (fun V20 H locs eV20 hI => ?_)
                replace hw := hw V20 eV20
                refine lv_aload_n hx hb dX7_plan_96 rfl (lv_at hl 2 rfl) ?_
                refine xg7_8 (k := 0) hx hb hts hin7 hown hK hI (by decide) hw_5 dX7_plan_97 ?_
                refine lv_aload_n hx hb dX7_plan_100 rfl (lv_at hl 2 rfl) ?_
                refine xg7_2 (k := 0) hx hb hts hin7 hown hK hI (by decide) hw_0 dX7_plan_101 ?_
                refine xg3_3 (k := 16) hx hb hts hin3 hown hK hI (by decide) hw_6 dX7_plan_104 ?_
                refine x_aftv (va_runV (As := [.ref (ad 20)]) (rest := []) ⟨hx, hb, hml, hown, hts⟩ (c_X2_be l g ad H.size V20 15 20 (by decide) (by decide) _ hw) (cwV 1 hts gX7_plan_X2_be rfl rfl rfl (by decide +kernel) ⟨Nat.le_of_ble_eq_true rfl, Nat.le_of_ble_eq_true rfl⟩) (x_preV (k := 15) hK hE hI (by decide) (cX_2 (by decide)) rfl) rfl rfl hl.1 rfl (lv_room (Nat.le_of_ble_eq_true rfl)) dX7_plan_107 ⟨Nat.zero_le _, Nat.zero_le _⟩) hI (fun V21 H locs hw hI => ?_)
                refine lv_iconst (v := (0 : Int32)) hx hb dX7_plan_110 (by decide) ?_
                refine lv_istore (lv' := [(7, .int (0 : Int32)), (6, .int r15), (5, .ref (ad (36 + 2 * (x1).toNatClampNeg))), (0, .ref (ad 0)), (1, .int x1), (2, .int x2), (3, .int x3), (4, .int x4)]) hx hb dX7_plan_111 hl (by decide) rfl (fun ls hl => ?_)
                obtain ⟨n113, hw⟩ := hw
                exact hL113 n113 V21 H locs ls x2 x3 x4 (36 + 2 * (x1).toNatClampNeg) (0 : Int32) (kX_at13 h13) hI (lv_sub hl [3, 5, 6, 7, 2, 0] rfl) hw
              · replace hw := hw.2 c19
                refine lv_ldc (v := (-1000001 : Int32)) hx hb hown hw_1 dX7_plan_88 ?_
                exact W.iret (v := (-1000001 : Int32)) hx hb hr (x_reti hI hw) hI.2.2.2.2 dX7_plan_90
            · replace hw := hw.2 c16
              refine lv_aload_n hx hb dX7_plan_68 rfl (lv_at hl 2 rfl) ?_
              refine lv_iload hx hb dX7_plan_69 (lv_at hl 0 rfl) ?_
              refine x_afti (va_runV (As := [.int r15]) (rest := []) ⟨hx, hb, hml, hown, hts⟩ (c_X7_found l g ad H.size V14 r15 _ hw) (cwV 1 hts gX7_plan_X7_found rfl rfl rfl (by decide +kernel) ⟨Nat.le_of_ble_eq_true rfl, Nat.le_of_ble_eq_true rfl⟩) (x_preV (k := 0) hK hE hI (by decide) (cX_7 (by decide)) rfl) rfl rfl hl.1 rfl (lv_room (Nat.le_of_ble_eq_true rfl)) dX7_plan_71 ⟨Nat.zero_le _, Nat.zero_le _⟩) hI (fun r23 V22 H locs hw hI => ?_)
              exact W.iret (v := r23) hx hb hr (x_reti hI hw) hI.2.2.2.2 dX7_plan_74
          · replace hw := hw.2 c12
            refine lv_ldc (v := (-1000001 : Int32)) hx hb hown hw_1 dX7_plan_43 ?_
            exact W.iret (v := (-1000001 : Int32)) hx hb hr (x_reti hI hw) hI.2.2.2.2 dX7_plan_45
    · replace hw := hw.2 c3
      refine lv_ldc (v := (-1000002 : Int32)) hx hb hown hw_7 dX7_plan_10 ?_
      exact W.iret (v := (-1000002 : Int32)) hx hb hr (x_reti hI hw) hI.2.2.2.2 dX7_plan_12
  exact hgo s.heap [] hI
def rm_X7_comesSo : Room := { frames := 4, cells := 0, slots := 0, locals := 81 }
set_option maxHeartbeats 4000000 in
set_option maxRecDepth 100000 in
theorem c_X7_comesSo (l : Launch) (g : GP) (ad : Nat → Nat) (sz : Nat) (V : VT) (k1 : Nat) (x2 : Int32) (x3 : Int32) (hk1 : kX k1 = 5) (K : Int32 → VT → Prop) (hw : wp_X7_comesSo V k1 x2 x3 K) : Met l yX7_comesSo wsX7_comesSo rm_X7_comesSo (va_Pc [.ref (ad 0), .ref (ad k1), .int x2, .int x3] (WPre 76 (cX g ad) ad g V sz)) (va_Qi K (WPost 76 (cX g ad) ad g) (AW ad 76 sz)) 0 0 (AW ad 76 sz) := by
  refine Met.ofW (cc := cX7_comesSo) (maxL := 5) (ret := (some .boolean)) (by decide) rfl ?_
  intro p e s m args below meth c s₁ B hml hv
  obtain ⟨ha, hv⟩ := hv
  obtain rfl := hv.1
  have hI : WI g 76 (cX g ad) ad V s.heap s.heap [] := WI.start hv
  have hK := hv.2.2.1
  have hE := hv.2.2.2.2
  have hx := B.exec
  have hb := B.bytes
  have hr := B.returns
  have hts := atoms_spec (ws := wsX7_comesSo) B.pre
  have hown : s.vm.findClass RX7 = some m.cls := findClass_of_methodNamed B.named
  have hlocks := B.notSynchronized
  have hw_0 := hts (.fieldLink RX7 60 "HoopLane" "trial" "LHoopLane$Hoop;") (by decide +kernel)
  have hw_1 := hts (.fieldLink RX7 170 "HoopLane$Hoop" "yard" "I") (by decide +kernel)
  have hw_2 := hts (.fieldLink RX7 99 "HoopLane$Row" "items" "[I") (by decide +kernel)
  have hw_3 := hts (.fieldLink RX7 22 "HoopLane" "lane" "LHoopLane$Lane;") (by decide +kernel)
  have hin7 : ∀ w ∈ wsX70, w ∈ wsX7_comesSo := by decide +kernel
  have hin2 : ∀ w ∈ wsX20, w ∈ wsX7_comesSo := by decide +kernel
  have hin5 : ∀ w ∈ wsX50, w ∈ wsX7_comesSo := by decide +kernel
  have hl := lv_entry ([.ref (ad 0), .ref (ad k1), .int x2, .int x3]) (n := 5) (Nat.le_of_ble_eq_true rfl)
  have hent : entryFrame m args 5 = F0 m 0 ((lg_sl ([.ref (ad 0), .ref (ad k1), .int x2, .int x3]) ++ List.replicate (5 - (lg_sl ([.ref (ad 0), .ref (ad k1), .int x2, .int x3])).length) Slot.unset).toArray) [] := by rw [ha, lg_entry_eq]
  rw [hent]
  generalize (lg_sl ([.ref (ad 0), .ref (ad k1), .int x2, .int x3]) ++ List.replicate (5 - (lg_sl ([.ref (ad 0), .ref (ad k1), .int x2, .int x3])).length) Slot.unset).toArray = ls at hl ⊢
  have hl : lv_has ls 5 [(0, .ref (ad 0)), (1, .ref (ad k1)), (2, .int x2), (3, .int x3)] := hl
  obtain ⟨H, hH⟩ : ∃ H : Heap, H = s.heap := ⟨_, rfl⟩
  have hL3 : ∀ (n3 : Nat) (V : VT) (H : Heap) (locs : List Loc) (ls : Array Slot) (k1 : Nat) (x2 : Int32) (x3 : Int32) (x4 : Int32), kX k1 = 5 → WI g 76 (cX g ad) ad V s.heap H locs → lv_has ls 5 [(0, .ref (ad 0)), (1, .ref (ad k1)), (2, .int x2), (3, .int x3), (4, .int x4)] → wp_X7_comesSo_L3 K  n3 V k1 x2 x3 x4 → W p l e (headSpec wsX7_comesSo rm_X7_comesSo).room s m args below meth c H locs 0 0 (MQ below (va_Qi K (WPost 76 (cX g ad) ad g) (AW ad 76 s.heap.size)) args s 0 0 (AW ad 76 s.heap.size)) (F0 m 3 ls []) := by
    intro n3
    induction n3 with
    | zero => intro V H locs ls k1 x2 x3 x4 hk1 hI hl hw; exact False.elim hw
    | succ n3 ihL3 =>
      intro V H locs ls k1 x2 x3 x4 hk1 hI hl hw
      refine lv_iload hx hb dX7_comesSo_3 (lv_at hl 4 rfl) ?_
      refine lv_iload_n hx hb dX7_comesSo_5 rfl (lv_at hl 3 rfl) ?_
      refine lv_icmp_ge (tgt := 49) hx hb dX7_comesSo_6 (by decide) (fun c1 => ?_) (fun c1 => ?_)
      · replace hw := hw.1 c1
        refine lv_iconst (v := (1 : Int32)) hx hb dX7_comesSo_49 (by decide) ?_
        exact W.zret (v := (1 : Int32)) hx hb hr rfl (x_reti hI hw) hI.2.2.2.2 dX7_comesSo_50
      · replace hw := hw.2 c1
        refine lv_aload_n hx hb dX7_comesSo_9 rfl (lv_at hl 0 rfl) ?_
        refine xg7_8 (k := 0) hx hb hts hin7 hown hK hI (by decide) hw_0 dX7_comesSo_10 ?_
        refine xg2_0 (k := 15) hx hb hts hin2 hown hK hI (by decide) hw_1 dX7_comesSo_13 ?_
        refine lv_aload_n hx hb dX7_comesSo_16 rfl (lv_at hl 1 rfl) ?_
        refine xg5_0 (k := k1) hx hb hts hin5 hown hK hI hk1 hw_2 dX7_comesSo_17 ?_
        refine lv_iload_n hx hb dX7_comesSo_20 rfl (lv_at hl 2 rfl) ?_
        refine lv_iload hx hb dX7_comesSo_21 (lv_at hl 4 rfl) ?_
        refine lv_iadd hx hb dX7_comesSo_23 ?_
        obtain ⟨h2, hw⟩ := hw
        refine x_iald (k := k1 + 1) hx hb hK hI (kX_lt (kX_5s hk1).1 (by decide)) (cX_9 (kX_5s hk1).1 (kX_5s hk1).2) h2 dX7_comesSo_24 ?_
        refine lv_icmp_eq (tgt := 30) hx hb dX7_comesSo_25 (by decide) (fun c3 => ?_) (fun c3 => ?_)
        · replace hw := hw.1 c3
          refine lv_aload_n hx hb dX7_comesSo_30 rfl (lv_at hl 0 rfl) ?_
          refine xg7_8 (k := 0) hx hb hts hin7 hown hK hI (by decide) hw_0 dX7_comesSo_31 ?_
          refine lv_aload_n hx hb dX7_comesSo_34 rfl (lv_at hl 0 rfl) ?_
          refine xg7_2 (k := 0) hx hb hts hin7 hown hK hI (by decide) hw_3 dX7_comesSo_35 ?_
          refine lv_iconst (v := (0 : Int32)) hx hb dX7_comesSo_38 (by decide) ?_
          refine lv_iconst (v := (0 : Int32)) hx hb dX7_comesSo_39 (by decide) ?_
          refine x_aftv (va_runV (As := [.ref (ad 16), .int (0 : Int32), .int (0 : Int32)]) (rest := []) ⟨hx, hb, hml, hown, hts⟩ (c_X2_pass l g ad H.size V 15 16 (0 : Int32) (0 : Int32) (by decide) (by decide) _ hw) (cwV 3 hts gX7_comesSo_X2_pass rfl rfl rfl (by decide +kernel) ⟨Nat.le_of_ble_eq_true rfl, Nat.le_of_ble_eq_true rfl⟩) (x_preV (k := 15) hK hE hI (by decide) (cX_2 (by decide)) rfl) rfl rfl hl.1 rfl (lv_room (Nat.le_of_ble_eq_true rfl)) dX7_comesSo_40 ⟨Nat.zero_le _, Nat.zero_le _⟩) hI (fun V4 H locs hw hI => ?_)
          refine lv_iinc (v := (x4 + (1 : Int32))) (lv' := [(4, .int (x4 + (1 : Int32))), (0, .ref (ad 0)), (1, .ref (ad k1)), (2, .int x2), (3, .int x3)]) hx hb dX7_comesSo_43 hl (k := 4) rfl rfl (by decide) rfl (fun ls hl => ?_)
          refine lv_goto (tgt := 3) hx hb dX7_comesSo_46 (by decide) ?_
          exact ihL3 V4 H locs ls k1 x2 x3 (x4 + (1 : Int32)) hk1 hI (lv_sub hl [1, 2, 3, 4, 0] rfl) hw
        · replace hw := hw.2 c3
          refine lv_iconst (v := (0 : Int32)) hx hb dX7_comesSo_28 (by decide) ?_
          exact W.zret (v := (0 : Int32)) hx hb hr rfl (x_reti hI hw) hI.2.2.2.2 dX7_comesSo_29
  have hgo : ∀ (H : Heap) (locs : List Loc), WI g 76 (cX g ad) ad V s.heap H locs → W p l e (headSpec wsX7_comesSo rm_X7_comesSo).room s m args below meth c H locs 0 0 (MQ below (va_Qi K (WPost 76 (cX g ad) ad g) (AW ad 76 s.heap.size)) args s 0 0 (AW ad 76 s.heap.size)) (F0 m 0 ls []) := by
    intro H locs hI
    refine lv_iconst (v := (0 : Int32)) hx hb dX7_comesSo_0 (by decide) ?_
    refine lv_istore (lv' := [(4, .int (0 : Int32)), (0, .ref (ad 0)), (1, .ref (ad k1)), (2, .int x2), (3, .int x3)]) hx hb dX7_comesSo_1 hl (by decide) rfl (fun ls hl => ?_)
    obtain ⟨n3, hw⟩ := hw
    exact hL3 n3 V H locs ls k1 x2 x3 (0 : Int32) hk1 hI (lv_sub hl [1, 2, 3, 4, 0] rfl) hw
  exact hgo s.heap [] hI
