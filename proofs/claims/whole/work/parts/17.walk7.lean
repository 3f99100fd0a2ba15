def rm_X7_pacesSeen : Room := { frames := 5, cells := 0, slots := 0, locals := 105 }
set_option maxHeartbeats 4000000 in
set_option maxRecDepth 100000 in
theorem c_X7_pacesSeen (l : Launch) (g : GP) (ad : Nat → Nat) (sz : Nat) (V : VT) (k1 : Nat) (x2 : Int32) (x3 : Int32) (hk1 : kX k1 = 5) (K : Int32 → VT → Prop) (hw : wp_X7_pacesSeen V k1 x2 x3 K) : Met l yX7_pacesSeen wsX7_pacesSeen rm_X7_pacesSeen (va_Pc [.ref (ad 0), .ref (ad k1), .int x2, .int x3] (WPre 76 (cX g ad) ad g V sz)) (va_Qi K (WPost 76 (cX g ad) ad g) (AW ad 76 sz)) 0 0 (AW ad 76 sz) := by
  refine Met.ofW (cc := cX7_pacesSeen) (maxL := 6) (ret := (some .int)) (by decide) rfl ?_
  intro p e s m args below meth c s₁ B hml hv
  obtain ⟨ha, hv⟩ := hv
  obtain rfl := hv.1
  have hI : WI g 76 (cX g ad) ad V s.heap s.heap [] := WI.start hv
  have hK := hv.2.2.1
  have hE := hv.2.2.2.2
  have hx := B.exec
  have hb := B.bytes
  have hr := B.returns
  have hts := atoms_spec (ws := wsX7_pacesSeen) B.pre
  have hown : s.vm.findClass RX7 = some m.cls := findClass_of_methodNamed B.named
  have hlocks := B.notSynchronized
  have hw_0 := hts (.fieldLink RX7 60 "HoopLane" "trial" "LHoopLane$Hoop;") (by decide +kernel)
  have hw_1 := hts (.fieldLink RX7 22 "HoopLane" "lane" "LHoopLane$Lane;") (by decide +kernel)
  have hw_2 := hts (.fieldLink RX7 147 "HoopLane$Lane" "hoop" "LHoopLane$Hoop;") (by decide +kernel)
  have hw_3 := hts (.fieldLink RX7 170 "HoopLane$Hoop" "yard" "I") (by decide +kernel)
  have hw_4 := hts (.fieldLink RX7 197 "HoopLane$Hoop" "lean" "I") (by decide +kernel)
  have hin7 : ∀ w ∈ wsX70, w ∈ wsX7_pacesSeen := by decide +kernel
  have hin3 : ∀ w ∈ wsX30, w ∈ wsX7_pacesSeen := by decide +kernel
  have hin2 : ∀ w ∈ wsX20, w ∈ wsX7_pacesSeen := by decide +kernel
  have hl := lv_entry ([.ref (ad 0), .ref (ad k1), .int x2, .int x3]) (n := 6) (Nat.le_of_ble_eq_true rfl)
  have hent : entryFrame m args 6 = F0 m 0 ((lg_sl ([.ref (ad 0), .ref (ad k1), .int x2, .int x3]) ++ List.replicate (6 - (lg_sl ([.ref (ad 0), .ref (ad k1), .int x2, .int x3])).length) Slot.unset).toArray) [] := by rw [ha, lg_entry_eq]
  rw [hent]
  generalize (lg_sl ([.ref (ad 0), .ref (ad k1), .int x2, .int x3]) ++ List.replicate (6 - (lg_sl ([.ref (ad 0), .ref (ad k1), .int x2, .int x3])).length) Slot.unset).toArray = ls at hl ⊢
  have hl : lv_has ls 6 [(0, .ref (ad 0)), (1, .ref (ad k1)), (2, .int x2), (3, .int x3)] := hl
  obtain ⟨H, hH⟩ : ∃ H : Heap, H = s.heap := ⟨_, rfl⟩
  have hL6 : ∀ (n6 : Nat) (V : VT) (H : Heap) (locs : List Loc) (ls : Array Slot) (k1 : Nat) (x2 : Int32) (x3 : Int32) (x4 : Int32) (x5 : Int32), kX k1 = 5 → WI g 76 (cX g ad) ad V s.heap H locs → lv_has ls 6 [(0, .ref (ad 0)), (1, .ref (ad k1)), (2, .int x2), (3, .int x3), (4, .int x4), (5, .int x5)] → wp_X7_pacesSeen_L6 K  n6 V k1 x2 x3 x4 x5 → W p l e (headSpec wsX7_pacesSeen rm_X7_pacesSeen).room s m args below meth c H locs 0 0 (MQ below (va_Qi K (WPost 76 (cX g ad) ad g) (AW ad 76 s.heap.size)) args s 0 0 (AW ad 76 s.heap.size)) (F0 m 6 ls []) := by
    intro n6
    induction n6 with
    | zero => intro V H locs ls k1 x2 x3 x4 x5 hk1 hI hl hw; exact False.elim hw
    | succ n6 ihL6 =>
      have hb74 : ∀ (V : VT) (H : Heap) (locs : List Loc) (ls : Array Slot) (k1 : Nat) (x2 : Int32) (x3 : Int32) (x4 : Int32) (x5 : Int32), kX k1 = 5 → WI g 76 (cX g ad) ad V s.heap H locs → lv_has ls 6 [(0, .ref (ad 0)), (1, .ref (ad k1)), (2, .int x2), (3, .int x3), (4, .int x4), (5, .int x5)] → wp_X7_pacesSeen_b74 K (wp_X7_pacesSeen_L6 K  n6) V k1 x2 x3 x4 x5 → W p l e (headSpec wsX7_pacesSeen rm_X7_pacesSeen).room s m args below meth c H locs 0 0 (MQ below (va_Qi K (WPost 76 (cX g ad) ad g) (AW ad 76 s.heap.size)) args s 0 0 (AW ad 76 s.heap.size)) (F0 m 74 ls []) := by
        intro V H locs ls k1 x2 x3 x4 x5 hk1 hI hl hw
        refine lv_iinc (v := (x5 + (1 : Int32))) (lv' := [(5, .int (x5 + (1 : Int32))), (0, .ref (ad 0)), (1, .ref (ad k1)), (2, .int x2), (3, .int x3), (4, .int x4)]) hx hb dX7_pacesSeen_74 hl (k := 5) rfl rfl (by decide) rfl (fun ls hl => ?_)
        refine lv_goto (tgt := 6) hx hb dX7_pacesSeen_77 (by decide) ?_
        exact ihL6 V H locs ls k1 x2 x3 x4 (x5 + (1 : Int32)) hk1 hI (lv_sub hl [1, 2, 3, 4, 5, 0] rfl) hw
      intro V H locs ls k1 x2 x3 x4 x5 hk1 hI hl hw
      refine lv_iload hx hb dX7_pacesSeen_6 (lv_at hl 5 rfl) ?_
      refine lv_bipush (v := (9 : Int32)) hx hb dX7_pacesSeen_8 (by decide) ?_
      refine lv_icmp_gt (tgt := 80) hx hb dX7_pacesSeen_10 (by decide) (fun c1 => ?_) (fun c1 => ?_)
      · replace hw := hw.1 c1
        refine lv_iload hx hb dX7_pacesSeen_80 (lv_at hl 4 rfl) ?_
        exact W.iret (v := x4) hx hb hr (x_reti hI hw) hI.2.2.2.2 dX7_pacesSeen_82
      · replace hw := hw.2 c1
        refine lv_aload_n hx hb dX7_pacesSeen_13 rfl (lv_at hl 0 rfl) ?_
        refine xg7_8 (k := 0) hx hb hts hin7 hown hK hI (by decide) hw_0 dX7_pacesSeen_14 ?_
        refine lv_aload_n hx hb dX7_pacesSeen_17 rfl (lv_at hl 0 rfl) ?_
        refine xg7_2 (k := 0) hx hb hts hin7 hown hK hI (by decide) hw_1 dX7_pacesSeen_18 ?_
        refine xg3_3 (k := 16) hx hb hts hin3 hown hK hI (by decide) hw_2 dX7_pacesSeen_21 ?_
        refine xg2_0 (k := 20) hx hb hts hin2 hown hK hI (by decide) hw_3 dX7_pacesSeen_24 ?_
        refine lv_iload hx hb dX7_pacesSeen_27 (lv_at hl 5 rfl) ?_
        refine lv_aload_n hx hb dX7_pacesSeen_29 rfl (lv_at hl 0 rfl) ?_
        refine xg7_2 (k := 0) hx hb hts hin7 hown hK hI (by decide) hw_1 dX7_pacesSeen_30 ?_
        refine xg3_3 (k := 16) hx hb hts hin3 hown hK hI (by decide) hw_2 dX7_pacesSeen_33 ?_
        refine xg2_2 (k := 20) hx hb hts hin2 hown hK hI (by decide) hw_4 dX7_pacesSeen_36 ?_
        refine x_aftv (va_runV (As := [.int (V 20 0), .int x5, .int (V 20 2)]) (rest := []) ⟨hx, hb, hml, hown, hts⟩ (c_X2_stand l g ad H.size V 15 (V 20 0) x5 (V 20 2) (by decide) _ hw) (cwV 3 hts gX7_pacesSeen_X2_stand rfl rfl rfl (by decide +kernel) ⟨Nat.le_of_ble_eq_true rfl, Nat.le_of_ble_eq_true rfl⟩) (x_preV (k := 15) hK hE hI (by decide) (cX_2 (by decide)) rfl) rfl rfl hl.1 rfl (lv_room (Nat.le_of_ble_eq_true rfl)) dX7_pacesSeen_39 ⟨Nat.zero_le _, Nat.zero_le _⟩) hI (fun V2 H locs hw hI => ?_)
        refine lv_aload_n hx hb dX7_pacesSeen_42 rfl (lv_at hl 0 rfl) ?_
        refine xg7_8 (k := 0) hx hb hts hin7 hown hK hI (by decide) hw_0 dX7_pacesSeen_43 ?_
        refine lv_aload_n hx hb dX7_pacesSeen_46 rfl (lv_at hl 0 rfl) ?_
        refine xg7_2 (k := 0) hx hb hts hin7 hown hK hI (by decide) hw_1 dX7_pacesSeen_47 ?_
        refine lv_iconst (v := (0 : Int32)) hx hb dX7_pacesSeen_50 (by decide) ?_
        refine lv_iconst (v := (0 : Int32)) hx hb dX7_pacesSeen_51 (by decide) ?_
        refine x_aftv (va_runV (As := [.ref (ad 16), .int (0 : Int32), .int (0 : Int32)]) (rest := []) ⟨hx, hb, hml, hown, hts⟩ (c_X2_pass l g ad H.size V2 15 16 (0 : Int32) (0 : Int32) (by decide) (by decide) _ hw) (cwV 3 hts gX7_pacesSeen_X2_pass rfl rfl rfl (by decide +kernel) ⟨Nat.le_of_ble_eq_true rfl, Nat.le_of_ble_eq_true rfl⟩) (x_preV (k := 15) hK hE hI (by decide) (cX_2 (by decide)) rfl) rfl rfl hl.1 rfl (lv_room (Nat.le_of_ble_eq_true rfl)) dX7_pacesSeen_52 ⟨Nat.zero_le _, Nat.zero_le _⟩) hI (fun V3 H locs hw hI => ?_)
        refine lv_aload_n hx hb dX7_pacesSeen_55 rfl (lv_at hl 0 rfl) ?_
        refine lv_aload_n hx hb dX7_pacesSeen_56 rfl (lv_at hl 1 rfl) ?_
        refine lv_iload_n hx hb dX7_pacesSeen_57 rfl (lv_at hl 2 rfl) ?_
        refine lv_iload_n hx hb dX7_pacesSeen_58 rfl (lv_at hl 3 rfl) ?_
        refine x_afti (va_runV (As := [.ref (ad k1), .int x2, .int x3]) (rest := []) ⟨hx, hb, hml, hown, hts⟩ (c_X7_comesSo l g ad H.size V3 k1 x2 x3 hk1 _ hw) (cwV 3 hts gX7_pacesSeen_X7_comesSo rfl rfl rfl (by decide +kernel) ⟨Nat.le_of_ble_eq_true rfl, Nat.le_of_ble_eq_true rfl⟩) (x_preV (k := 0) hK hE hI (by decide) (cX_7 (by decide)) rfl) rfl rfl hl.1 rfl (lv_room (Nat.le_of_ble_eq_true rfl)) dX7_pacesSeen_59 ⟨Nat.zero_le _, Nat.zero_le _⟩) hI (fun r5 V4 H locs hw hI => ?_)
        refine lv_if_eq (tgt := 74) hx hb dX7_pacesSeen_62 (by decide) (fun c6 => ?_) (fun c6 => ?_)
        · replace hw := hw.1 c6
          exact hb74 V4 H locs ls k1 x2 x3 x4 x5 hk1 hI (lv_sub hl [0, 1, 2, 3, 4, 5] rfl) hw
        · replace hw := hw.2 c6
          refine lv_iload hx hb dX7_pacesSeen_65 (lv_at hl 4 rfl) ?_
          refine lv_iconst (v := (1 : Int32)) hx hb dX7_pacesSeen_67 (by decide) ?_
          refine lv_iload hx hb dX7_pacesSeen_68 (lv_at hl 5 rfl) ?_
          refine lv_ishl hx hb dX7_pacesSeen_70 ?_
          refine lv_ior hx hb dX7_pacesSeen_71 ?_
          refine lv_istore (lv' := [(4, .int (x4 ||| ((1 : Int32) <<< (x5 &&& (31 : Int32))))), (0, .ref (ad 0)), (1, .ref (ad k1)), (2, .int x2), (3, .int x3), (5, .int x5)]) hx hb dX7_pacesSeen_72 hl (by decide) rfl (fun ls hl => ?_)
          exact hb74 V4 H locs ls k1 x2 x3 (x4 ||| ((1 : Int32) <<< (x5 &&& (31 : Int32)))) x5 hk1 hI (lv_sub hl [1, 2, 3, 4, 0, 5] rfl) hw
  have hgo : ∀ (H : Heap) (locs : List Loc), WI g 76 (cX g ad) ad V s.heap H locs → W p l e (headSpec wsX7_pacesSeen rm_X7_pacesSeen).room s m args below meth c H locs 0 0 (MQ below (va_Qi K (WPost 76 (cX g ad) ad g) (AW ad 76 s.heap.size)) args s 0 0 (AW ad 76 s.heap.size)) (F0 m 0 ls []) := by
    intro H locs hI
    refine lv_iconst (v := (0 : Int32)) hx hb dX7_pacesSeen_0 (by decide) ?_
    refine lv_istore (lv' := [(4, .int (0 : Int32)), (0, .ref (ad 0)), (1, .ref (ad k1)), (2, .int x2), (3, .int x3)]) hx hb dX7_pacesSeen_1 hl (by decide) rfl (fun ls hl => ?_)
    refine lv_iconst (v := (1 : Int32)) hx hb dX7_pacesSeen_3 (by decide) ?_
    refine lv_istore (lv' := [(5, .int (1 : Int32)), (4, .int (0 : Int32)), (0, .ref (ad 0)), (1, .ref (ad k1)), (2, .int x2), (3, .int x3)]) hx hb dX7_pacesSeen_4 hl (by decide) rfl (fun ls hl => ?_)
    obtain ⟨n6, hw⟩ := hw
    exact hL6 n6 V H locs ls k1 x2 x3 (0 : Int32) (1 : Int32) hk1 hI (lv_sub hl [2, 3, 4, 5, 1, 0] rfl) hw
  exact hgo s.heap [] hI
def rm_X7_leansSeen : Room := { frames := 5, cells := 0, slots := 0, locals := 105 }
set_option maxHeartbeats 4000000 in
set_option maxRecDepth 100000 in
theorem c_X7_leansSeen (l : Launch) (g : GP) (ad : Nat → Nat) (sz : Nat) (V : VT) (k1 : Nat) (x2 : Int32) (x3 : Int32) (hk1 : kX k1 = 5) (K : Int32 → VT → Prop) (hw : wp_X7_leansSeen V k1 x2 x3 K) : Met l yX7_leansSeen wsX7_leansSeen rm_X7_leansSeen (va_Pc [.ref (ad 0), .ref (ad k1), .int x2, .int x3] (WPre 76 (cX g ad) ad g V sz)) (va_Qi K (WPost 76 (cX g ad) ad g) (AW ad 76 sz)) 0 0 (AW ad 76 sz) := by
  refine Met.ofW (cc := cX7_leansSeen) (maxL := 6) (ret := (some .int)) (by decide) rfl ?_
  intro p e s m args below meth c s₁ B hml hv
  obtain ⟨ha, hv⟩ := hv
  obtain rfl := hv.1
  have hI : WI g 76 (cX g ad) ad V s.heap s.heap [] := WI.start hv
  have hK := hv.2.2.1
  have hE := hv.2.2.2.2
  have hx := B.exec
  have hb := B.bytes
  have hr := B.returns
  have hts := atoms_spec (ws := wsX7_leansSeen) B.pre
  have hown : s.vm.findClass RX7 = some m.cls := findClass_of_methodNamed B.named
  have hlocks := B.notSynchronized
  have hw_0 := hts (.fieldLink RX7 22 "HoopLane" "lane" "LHoopLane$Lane;") (by decide +kernel)
  have hw_1 := hts (.fieldLink RX7 176 "HoopLane$Lane" "holds" "I") (by decide +kernel)
  have hw_2 := hts (.fieldLink RX7 60 "HoopLane" "trial" "LHoopLane$Hoop;") (by decide +kernel)
  have hw_3 := hts (.fieldLink RX7 147 "HoopLane$Lane" "hoop" "LHoopLane$Hoop;") (by decide +kernel)
  have hw_4 := hts (.fieldLink RX7 170 "HoopLane$Hoop" "yard" "I") (by decide +kernel)
  have hw_5 := hts (.fieldLink RX7 204 "HoopLane$Hoop" "pace" "I") (by decide +kernel)
  have hin7 : ∀ w ∈ wsX70, w ∈ wsX7_leansSeen := by decide +kernel
  have hin3 : ∀ w ∈ wsX30, w ∈ wsX7_leansSeen := by decide +kernel
  have hin2 : ∀ w ∈ wsX20, w ∈ wsX7_leansSeen := by decide +kernel
  have hl := lv_entry ([.ref (ad 0), .ref (ad k1), .int x2, .int x3]) (n := 6) (Nat.le_of_ble_eq_true rfl)
  have hent : entryFrame m args 6 = F0 m 0 ((lg_sl ([.ref (ad 0), .ref (ad k1), .int x2, .int x3]) ++ List.replicate (6 - (lg_sl ([.ref (ad 0), .ref (ad k1), .int x2, .int x3])).length) Slot.unset).toArray) [] := by rw [ha, lg_entry_eq]
  rw [hent]
  generalize (lg_sl ([.ref (ad 0), .ref (ad k1), .int x2, .int x3]) ++ List.replicate (6 - (lg_sl ([.ref (ad 0), .ref (ad k1), .int x2, .int x3])).length) Slot.unset).toArray = ls at hl ⊢
  have hl : lv_has ls 6 [(0, .ref (ad 0)), (1, .ref (ad k1)), (2, .int x2), (3, .int x3)] := hl
  obtain ⟨H, hH⟩ : ∃ H : Heap, H = s.heap := ⟨_, rfl⟩
  have hL14 : ∀ (n14 : Nat) (V : VT) (H : Heap) (locs : List Loc) (ls : Array Slot) (k1 : Nat) (x2 : Int32) (x3 : Int32) (x4 : Int32) (x5 : Int32), kX k1 = 5 → WI g 76 (cX g ad) ad V s.heap H locs → lv_has ls 6 [(0, .ref (ad 0)), (1, .ref (ad k1)), (2, .int x2), (3, .int x3), (4, .int x4), (5, .int x5)] → wp_X7_leansSeen_L14 K  n14 V k1 x2 x3 x4 x5 → W p l e (headSpec wsX7_leansSeen rm_X7_leansSeen).room s m args below meth c H locs 0 0 (MQ below (va_Qi K (WPost 76 (cX g ad) ad g) (AW ad 76 s.heap.size)) args s 0 0 (AW ad 76 s.heap.size)) (F0 m 14 ls []) := by
    intro n14
    induction n14 with
    | zero => intro V H locs ls k1 x2 x3 x4 x5 hk1 hI hl hw; exact False.elim hw
    | succ n14 ihL14 =>
      have hb89 : ∀ (V : VT) (H : Heap) (locs : List Loc) (ls : Array Slot) (k1 : Nat) (x2 : Int32) (x3 : Int32) (x4 : Int32) (x5 : Int32), kX k1 = 5 → WI g 76 (cX g ad) ad V s.heap H locs → lv_has ls 6 [(0, .ref (ad 0)), (1, .ref (ad k1)), (2, .int x2), (3, .int x3), (4, .int x4), (5, .int x5)] → wp_X7_leansSeen_b89 K (wp_X7_leansSeen_L14 K  n14) V k1 x2 x3 x4 x5 → W p l e (headSpec wsX7_leansSeen rm_X7_leansSeen).room s m args below meth c H locs 0 0 (MQ below (va_Qi K (WPost 76 (cX g ad) ad g) (AW ad 76 s.heap.size)) args s 0 0 (AW ad 76 s.heap.size)) (F0 m 89 ls []) := by
        intro V H locs ls k1 x2 x3 x4 x5 hk1 hI hl hw
        refine lv_iinc (v := (x5 + (1 : Int32))) (lv' := [(5, .int (x5 + (1 : Int32))), (0, .ref (ad 0)), (1, .ref (ad k1)), (2, .int x2), (3, .int x3), (4, .int x4)]) hx hb dX7_leansSeen_89 hl (k := 5) rfl rfl (by decide) rfl (fun ls hl => ?_)
        refine lv_goto (tgt := 14) hx hb dX7_leansSeen_92 (by decide) ?_
        exact ihL14 V H locs ls k1 x2 x3 x4 (x5 + (1 : Int32)) hk1 hI (lv_sub hl [1, 2, 3, 4, 5, 0] rfl) hw
      intro V H locs ls k1 x2 x3 x4 x5 hk1 hI hl hw
      refine lv_iload hx hb dX7_leansSeen_14 (lv_at hl 5 rfl) ?_
      refine lv_aload_n hx hb dX7_leansSeen_16 rfl (lv_at hl 0 rfl) ?_
      refine xg7_2 (k := 0) hx hb hts hin7 hown hK hI (by decide) hw_0 dX7_leansSeen_17 ?_
      refine xg3_6 (k := 16) hx hb hts hin3 hown hK hI (by decide) hw_1 dX7_leansSeen_20 ?_
      refine lv_icmp_gt (tgt := 95) hx hb dX7_leansSeen_23 (by decide) (fun c1 => ?_) (fun c1 => ?_)
      · replace hw := hw.1 c1
        refine lv_iload hx hb dX7_leansSeen_95 (lv_at hl 4 rfl) ?_
        exact W.iret (v := x4) hx hb hr (x_reti hI hw) hI.2.2.2.2 dX7_leansSeen_97
      · replace hw := hw.2 c1
        refine lv_aload_n hx hb dX7_leansSeen_26 rfl (lv_at hl 0 rfl) ?_
        refine xg7_8 (k := 0) hx hb hts hin7 hown hK hI (by decide) hw_2 dX7_leansSeen_27 ?_
        refine lv_aload_n hx hb dX7_leansSeen_30 rfl (lv_at hl 0 rfl) ?_
        refine xg7_2 (k := 0) hx hb hts hin7 hown hK hI (by decide) hw_0 dX7_leansSeen_31 ?_
        refine xg3_3 (k := 16) hx hb hts hin3 hown hK hI (by decide) hw_3 dX7_leansSeen_34 ?_
        refine xg2_0 (k := 20) hx hb hts hin2 hown hK hI (by decide) hw_4 dX7_leansSeen_37 ?_
        refine lv_aload_n hx hb dX7_leansSeen_40 rfl (lv_at hl 0 rfl) ?_
        refine xg7_2 (k := 0) hx hb hts hin7 hown hK hI (by decide) hw_0 dX7_leansSeen_41 ?_
        refine xg3_3 (k := 16) hx hb hts hin3 hown hK hI (by decide) hw_3 dX7_leansSeen_44 ?_
        refine xg2_1 (k := 20) hx hb hts hin2 hown hK hI (by decide) hw_5 dX7_leansSeen_47 ?_
        refine lv_iload hx hb dX7_leansSeen_50 (lv_at hl 5 rfl) ?_
        refine x_aftv (va_runV (As := [.int (V 20 0), .int (V 20 1), .int x5]) (rest := []) ⟨hx, hb, hml, hown, hts⟩ (c_X2_stand l g ad H.size V 15 (V 20 0) (V 20 1) x5 (by decide) _ hw) (cwV 3 hts gX7_leansSeen_X2_stand rfl rfl rfl (by decide +kernel) ⟨Nat.le_of_ble_eq_true rfl, Nat.le_of_ble_eq_true rfl⟩) (x_preV (k := 15) hK hE hI (by decide) (cX_2 (by decide)) rfl) rfl rfl hl.1 rfl (lv_room (Nat.le_of_ble_eq_true rfl)) dX7_leansSeen_52 ⟨Nat.zero_le _, Nat.zero_le _⟩) hI (fun V2 H locs hw hI => ?_)
        refine lv_aload_n hx hb dX7_leansSeen_55 rfl (lv_at hl 0 rfl) ?_
        refine xg7_8 (k := 0) hx hb hts hin7 hown hK hI (by decide) hw_2 dX7_leansSeen_56 ?_
        refine lv_aload_n hx hb dX7_leansSeen_59 rfl (lv_at hl 0 rfl) ?_
        refine xg7_2 (k := 0) hx hb hts hin7 hown hK hI (by decide) hw_0 dX7_leansSeen_60 ?_
        refine lv_iconst (v := (0 : Int32)) hx hb dX7_leansSeen_63 (by decide) ?_
        refine lv_iconst (v := (0 : Int32)) hx hb dX7_leansSeen_64 (by decide) ?_
        refine x_aftv (va_runV (As := [.ref (ad 16), .int (0 : Int32), .int (0 : Int32)]) (rest := []) ⟨hx, hb, hml, hown, hts⟩ (c_X2_pass l g ad H.size V2 15 16 (0 : Int32) (0 : Int32) (by decide) (by decide) _ hw) (cwV 3 hts gX7_leansSeen_X2_pass rfl rfl rfl (by decide +kernel) ⟨Nat.le_of_ble_eq_true rfl, Nat.le_of_ble_eq_true rfl⟩) (x_preV (k := 15) hK hE hI (by decide) (cX_2 (by decide)) rfl) rfl rfl hl.1 rfl (lv_room (Nat.le_of_ble_eq_true rfl)) dX7_leansSeen_65 ⟨Nat.zero_le _, Nat.zero_le _⟩) hI (fun V3 H locs hw hI => ?_)
        refine lv_aload_n hx hb dX7_leansSeen_68 rfl (lv_at hl 0 rfl) ?_
        refine lv_aload_n hx hb dX7_leansSeen_69 rfl (lv_at hl 1 rfl) ?_
        refine lv_iload_n hx hb dX7_leansSeen_70 rfl (lv_at hl 2 rfl) ?_
        refine lv_iload_n hx hb dX7_leansSeen_71 rfl (lv_at hl 3 rfl) ?_
        refine x_afti (va_runV (As := [.ref (ad k1), .int x2, .int x3]) (rest := []) ⟨hx, hb, hml, hown, hts⟩ (c_X7_comesSo l g ad H.size V3 k1 x2 x3 hk1 _ hw) (cwV 3 hts gX7_leansSeen_X7_comesSo rfl rfl rfl (by decide +kernel) ⟨Nat.le_of_ble_eq_true rfl, Nat.le_of_ble_eq_true rfl⟩) (x_preV (k := 0) hK hE hI (by decide) (cX_7 (by decide)) rfl) rfl rfl hl.1 rfl (lv_room (Nat.le_of_ble_eq_true rfl)) dX7_leansSeen_72 ⟨Nat.zero_le _, Nat.zero_le _⟩) hI (fun r5 V4 H locs hw hI => ?_)
        refine lv_if_eq (tgt := 89) hx hb dX7_leansSeen_75 (by decide) (fun c6 => ?_) (fun c6 => ?_)
        · replace hw := hw.1 c6
          exact hb89 V4 H locs ls k1 x2 x3 x4 x5 hk1 hI (lv_sub hl [0, 1, 2, 3, 4, 5] rfl) hw
        · replace hw := hw.2 c6
          refine lv_iload hx hb dX7_leansSeen_78 (lv_at hl 4 rfl) ?_
          refine lv_iconst (v := (1 : Int32)) hx hb dX7_leansSeen_80 (by decide) ?_
          refine lv_iload hx hb dX7_leansSeen_81 (lv_at hl 5 rfl) ?_
          refine lv_iconst (v := (5 : Int32)) hx hb dX7_leansSeen_83 (by decide) ?_
          refine lv_iadd hx hb dX7_leansSeen_84 ?_
          refine lv_ishl hx hb dX7_leansSeen_85 ?_
          refine lv_ior hx hb dX7_leansSeen_86 ?_
          refine lv_istore (lv' := [(4, .int (x4 ||| ((1 : Int32) <<< ((x5 + (5 : Int32)) &&& (31 : Int32))))), (0, .ref (ad 0)), (1, .ref (ad k1)), (2, .int x2), (3, .int x3), (5, .int x5)]) hx hb dX7_leansSeen_87 hl (by decide) rfl (fun ls hl => ?_)
          exact hb89 V4 H locs ls k1 x2 x3 (x4 ||| ((1 : Int32) <<< ((x5 + (5 : Int32)) &&& (31 : Int32)))) x5 hk1 hI (lv_sub hl [1, 2, 3, 4, 0, 5] rfl) hw
  have hgo : ∀ (H : Heap) (locs : List Loc), WI g 76 (cX g ad) ad V s.heap H locs → W p l e (headSpec wsX7_leansSeen rm_X7_leansSeen).room s m args below meth c H locs 0 0 (MQ below (va_Qi K (WPost 76 (cX g ad) ad g) (AW ad 76 s.heap.size)) args s 0 0 (AW ad 76 s.heap.size)) (F0 m 0 ls []) := by
    intro H locs hI
    refine lv_iconst (v := (0 : Int32)) hx hb dX7_leansSeen_0 (by decide) ?_
    refine lv_istore (lv' := [(4, .int (0 : Int32)), (0, .ref (ad 0)), (1, .ref (ad k1)), (2, .int x2), (3, .int x3)]) hx hb dX7_leansSeen_1 hl (by decide) rfl (fun ls hl => ?_)
    refine lv_iconst (v := (0 : Int32)) hx hb dX7_leansSeen_3 (by decide) ?_
    refine lv_aload_n hx hb dX7_leansSeen_4 rfl (lv_at hl 1 rfl) ?_
    refine xg7_2 (k := 0) hx hb hts hin7 hown hK hI (by decide) hw_0 dX7_leansSeen_5 ?_
    refine xg3_6 (k := 16) hx hb hts hin3 hown hK hI (by decide) hw_1 dX7_leansSeen_8 ?_
    refine lv_isub hx hb dX7_leansSeen_11 ?_
    refine lv_istore (lv' := [(5, .int ((0 : Int32) - (V 16 6))), (4, .int (0 : Int32)), (0, .ref (ad 0)), (1, .ref (ad k1)), (2, .int x2), (3, .int x3)]) hx hb dX7_leansSeen_12 hl (by decide) rfl (fun ls hl => ?_)
    obtain ⟨n14, hw⟩ := hw
    exact hL14 n14 V H locs ls k1 x2 x3 (0 : Int32) ((0 : Int32) - (V 16 6)) hk1 hI (lv_sub hl [2, 3, 4, 5, 1, 0] rfl) hw
  exact hgo s.heap [] hI
def rm_X7_seen : Room := { frames := 6, cells := 0, slots := 0, locals := 130 }
set_option maxHeartbeats 4000000 in
set_option maxRecDepth 100000 in
theorem c_X7_seen (l : Launch) (g : GP) (ad : Nat → Nat) (sz : Nat) (V : VT) (x1 : Int32) (x2 : Int32) (x3 : Int32) (x4 : Int32)  (K : Int32 → VT → Prop) (hw : wp_X7_seen V x1 x2 x3 x4 K) : Met l yX7_seen wsX7_seen rm_X7_seen (va_Pc [.ref (ad 0), .int x1, .int x2, .int x3, .int x4] (WPre 76 (cX g ad) ad g V sz)) (va_Qi K (WPost 76 (cX g ad) ad g) (AW ad 76 sz)) 0 0 (AW ad 76 sz) := by
  refine Met.ofW (cc := cX7_seen) (maxL := 6) (ret := (some .int)) (by decide) rfl ?_
  intro p e s m args below meth c s₁ B hml hv
  obtain ⟨ha, hv⟩ := hv
  obtain rfl := hv.1
  have hI : WI g 76 (cX g ad) ad V s.heap s.heap [] := WI.start hv
  have hK := hv.2.2.1
  have hE := hv.2.2.2.2
  have hx := B.exec
  have hb := B.bytes
  have hr := B.returns
  have hts := atoms_spec (ws := wsX7_seen) B.pre
  have hown : s.vm.findClass RX7 = some m.cls := findClass_of_methodNamed B.named
  have hlocks := B.notSynchronized
  have hw_0 := hts (.fieldLink RX7 22 "HoopLane" "lane" "LHoopLane$Lane;") (by decide +kernel)
  have hw_1 := hts (.constant RX7 76 (-1000001)) (by decide +kernel)
  have hw_2 := hts (.fieldLink RX7 147 "HoopLane$Lane" "hoop" "LHoopLane$Hoop;") (by decide +kernel)
  have hw_3 := hts (.fieldLink RX7 150 "HoopLane$Hoop" "end" "I") (by decide +kernel)
  have hw_4 := hts (.fieldLink RX7 11 "HoopLane" "rows" "[LHoopLane$Row;") (by decide +kernel)
  have hw_5 := hts (.fieldLink RX7 68 "HoopLane" "status" "I") (by decide +kernel)
  have hw_6 := hts (.constant RX7 140 (-1000002)) (by decide +kernel)
  have hin7 : ∀ w ∈ wsX70, w ∈ wsX7_seen := by decide +kernel
  have hin3 : ∀ w ∈ wsX30, w ∈ wsX7_seen := by decide +kernel
  have hin2 : ∀ w ∈ wsX20, w ∈ wsX7_seen := by decide +kernel
  have hl := lv_entry ([.ref (ad 0), .int x1, .int x2, .int x3, .int x4]) (n := 6) (Nat.le_of_ble_eq_true rfl)
  have hent : entryFrame m args 6 = F0 m 0 ((lg_sl ([.ref (ad 0), .int x1, .int x2, .int x3, .int x4]) ++ List.replicate (6 - (lg_sl ([.ref (ad 0), .int x1, .int x2, .int x3, .int x4])).length) Slot.unset).toArray) [] := by rw [ha, lg_entry_eq]
  rw [hent]
  generalize (lg_sl ([.ref (ad 0), .int x1, .int x2, .int x3, .int x4]) ++ List.replicate (6 - (lg_sl ([.ref (ad 0), .int x1, .int x2, .int x3, .int x4])).length) Slot.unset).toArray = ls at hl ⊢
  have hl : lv_has ls 6 [(0, .ref (ad 0)), (1, .int x1), (2, .int x2), (3, .int x3), (4, .int x4)] := hl
  obtain ⟨H, hH⟩ : ∃ H : Heap, H = s.heap := ⟨_, rfl⟩
  have hgo : ∀ (H : Heap) (locs : List Loc), WI g 76 (cX g ad) ad V s.heap H locs → W p l e (headSpec wsX7_seen rm_X7_seen).room s m args below meth c H locs 0 0 (MQ below (va_Qi K (WPost 76 (cX g ad) ad g) (AW ad 76 s.heap.size)) args s 0 0 (AW ad 76 s.heap.size)) (F0 m 0 ls []) := by
    intro H locs hI
    refine lv_aload_n hx hb dX7_seen_0 rfl (lv_at hl 0 rfl) ?_
    refine xg7_2 (k := 0) hx hb hts hin7 hown hK hI (by decide) hw_0 dX7_seen_1 ?_
    refine x_afti (va_runV (As := []) (rest := []) ⟨hx, hb, hml, hown, hts⟩ (c_X3_isThere l g ad H.size V 16 (by decide) _ hw) (cwV 0 hts gX7_seen_X3_isThere rfl rfl rfl (by decide +kernel) ⟨Nat.le_of_ble_eq_true rfl, Nat.le_of_ble_eq_true rfl⟩) (x_preV (k := 16) hK hE hI (by decide) (cX_3 (by decide)) rfl) rfl rfl hl.1 rfl (lv_room (Nat.le_of_ble_eq_true rfl)) dX7_seen_4 ⟨Nat.zero_le _, Nat.zero_le _⟩) hI (fun r2 V1 H locs hw hI => ?_)
    refine lv_if_ne (tgt := 13) hx hb dX7_seen_7 (by decide) (fun c3 => ?_) (fun c3 => ?_)
    · replace hw := hw.1 c3
      refine lv_iload_n hx hb dX7_seen_13 rfl (lv_at hl 1 rfl) ?_
      refine lv_iconst (v := (0 : Int32)) hx hb dX7_seen_14 (by decide) ?_
      refine lv_bipush (v := (7 : Int32)) hx hb dX7_seen_15 (by decide) ?_
      refine x_afti (va_runS (As := [.int x1, .int (0 : Int32), .int (7 : Int32)]) (rest := []) ⟨hx, hb, hml, hown, hts⟩ (c_X7_isOut l g ad H.size V1 x1 (0 : Int32) (7 : Int32) _ hw) (cwS 3 hts gX7_seen_X7_isOut rfl rfl rfl (by decide +kernel) ⟨Nat.le_of_ble_eq_true rfl, Nat.le_of_ble_eq_true rfl⟩) (x_preS hK hE hI) rfl rfl hl.1 rfl (lv_room (Nat.le_of_ble_eq_true rfl)) dX7_seen_17 ⟨Nat.zero_le _, Nat.zero_le _⟩) hI (fun r5 V4 H locs hw hI => ?_)
      refine lv_if_ne (tgt := 43) hx hb dX7_seen_20 (by decide) (fun c6 => ?_) (fun c6 => ?_)
      · replace hw := hw.1 c6
        refine lv_ldc (v := (-1000001 : Int32)) hx hb hown hw_1 dX7_seen_43 ?_
        exact W.iret (v := (-1000001 : Int32)) hx hb hr (x_reti hI hw) hI.2.2.2.2 dX7_seen_45
      · replace hw := hw.2 c6
        refine lv_iload_n hx hb dX7_seen_23 rfl (lv_at hl 3 rfl) ?_
        refine lv_iconst (v := (1 : Int32)) hx hb dX7_seen_24 (by decide) ?_
        refine lv_bipush (v := (8 : Int32)) hx hb dX7_seen_25 (by decide) ?_
        refine x_afti (va_runS (As := [.int x3, .int (1 : Int32), .int (8 : Int32)]) (rest := []) ⟨hx, hb, hml, hown, hts⟩ (c_X7_isOut l g ad H.size V4 x3 (1 : Int32) (8 : Int32) _ hw) (cwS 3 hts gX7_seen_X7_isOut rfl rfl rfl (by decide +kernel) ⟨Nat.le_of_ble_eq_true rfl, Nat.le_of_ble_eq_true rfl⟩) (x_preS hK hE hI) rfl rfl hl.1 rfl (lv_room (Nat.le_of_ble_eq_true rfl)) dX7_seen_27 ⟨Nat.zero_le _, Nat.zero_le _⟩) hI (fun r8 V7 H locs hw hI => ?_)
        refine lv_if_ne (tgt := 43) hx hb dX7_seen_30 (by decide) (fun c9 => ?_) (fun c9 => ?_)
        · replace hw := hw.1 c9
          refine lv_ldc (v := (-1000001 : Int32)) hx hb hown hw_1 dX7_seen_43 ?_
          exact W.iret (v := (-1000001 : Int32)) hx hb hr (x_reti hI hw) hI.2.2.2.2 dX7_seen_45
        · replace hw := hw.2 c9
          refine lv_iload hx hb dX7_seen_33 (lv_at hl 4 rfl) ?_
          refine lv_iconst (v := (0 : Int32)) hx hb dX7_seen_35 (by decide) ?_
          refine lv_iconst (v := (1 : Int32)) hx hb dX7_seen_36 (by decide) ?_
          refine x_afti (va_runS (As := [.int x4, .int (0 : Int32), .int (1 : Int32)]) (rest := []) ⟨hx, hb, hml, hown, hts⟩ (c_X7_isOut l g ad H.size V7 x4 (0 : Int32) (1 : Int32) _ hw) (cwS 3 hts gX7_seen_X7_isOut rfl rfl rfl (by decide +kernel) ⟨Nat.le_of_ble_eq_true rfl, Nat.le_of_ble_eq_true rfl⟩) (x_preS hK hE hI) rfl rfl hl.1 rfl (lv_room (Nat.le_of_ble_eq_true rfl)) dX7_seen_37 ⟨Nat.zero_le _, Nat.zero_le _⟩) hI (fun r11 V10 H locs hw hI => ?_)
          refine lv_if_eq (tgt := 46) hx hb dX7_seen_40 (by decide) (fun c12 => ?_) (fun c12 => ?_)
          · replace hw := hw.1 c12
            refine lv_aload_n hx hb dX7_seen_46 rfl (lv_at hl 0 rfl) ?_
            refine xg7_2 (k := 0) hx hb hts hin7 hown hK hI (by decide) hw_0 dX7_seen_47 ?_
            refine xg3_3 (k := 16) hx hb hts hin3 hown hK hI (by decide) hw_2 dX7_seen_50 ?_
            refine xg2_3 (k := 20) hx hb hts hin2 hown hK hI (by decide) hw_3 dX7_seen_53 ?_
            refine lv_if_eq (tgt := 62) hx hb dX7_seen_56 (by decide) (fun c13 => ?_) (fun c13 => ?_)
            · replace hw := hw.1 c13
              refine lv_aload_n hx hb dX7_seen_62 rfl (lv_at hl 0 rfl) ?_
              refine xg7_0 (k := 0) hx hb hts hin7 hown hK hI (by decide) hw_4 dX7_seen_63 ?_
              refine lv_iload_n hx hb dX7_seen_66 rfl (lv_at hl 1 rfl) ?_
              obtain ⟨h14, hw⟩ := hw
              refine x_aald (k := 1) (n := 8) (q := ad (36 + 2 * (x1).toNatClampNeg)) hx hb hK hI (by decide) 4 rfl rfl h14 rfl dX7_seen_67 ?_
              refine lv_iload_n hx hb dX7_seen_68 rfl (lv_at hl 2 rfl) ?_
              refine lv_iload_n hx hb dX7_seen_69 rfl (lv_at hl 3 rfl) ?_
              refine x_afti (va_runV (As := [.int x2, .int x3]) (rest := []) ⟨hx, hb, hml, hown, hts⟩ (c_X5_findingAt l g ad H.size V10 (36 + 2 * (x1).toNatClampNeg) x2 x3 (kX_at13 h14) _ hw) (cwV 2 hts gX7_seen_X5_findingAt rfl rfl rfl (by decide +kernel) ⟨Nat.le_of_ble_eq_true rfl, Nat.le_of_ble_eq_true rfl⟩) (x_preV (k := (36 + 2 * (x1).toNatClampNeg)) hK hE hI (kX_lt (kX_at13 h14) (by decide)) (cX_5 (kX_at13 h14)) rfl) rfl rfl hl.1 rfl (lv_room (Nat.le_of_ble_eq_true rfl)) dX7_seen_70 ⟨Nat.zero_le _, Nat.zero_le _⟩) hI (fun r16 V15 H locs hw hI => ?_)
              refine lv_istore (lv' := [(5, .int r16), (0, .ref (ad 0)), (1, .int x1), (2, .int x2), (3, .int x3), (4, .int x4)]) hx hb dX7_seen_73 hl (by decide) rfl (fun ls hl => ?_)
              refine lv_iload hx hb dX7_seen_75 (lv_at hl 0 rfl) ?_
              refine lv_if_eq (tgt := 87) hx hb dX7_seen_77 (by decide) (fun c17 => ?_) (fun c17 => ?_)
              · replace hw := hw.1 c17
                refine lv_aload_n hx hb dX7_seen_87 rfl (lv_at hl 1 rfl) ?_
                refine lv_iconst (v := (0 : Int32)) hx hb dX7_seen_88 (by decide) ?_
                refine xp7_10 (k := 0) hx hb hts hin7 hown hK hI (by decide) hw_5 dX7_seen_89 (fun V18 H locs eV18 hI => ?_)
                replace hw := hw V18 eV18
                refine lv_iload hx hb dX7_seen_92 (lv_at hl 5 rfl) ?_
                refine lv_if_ne (tgt := 112) hx hb dX7_seen_94 (by decide) (fun c19 => ?_) (fun c19 => ?_)
                · replace hw := hw.1 c19
                  refine lv_aload_n hx hb dX7_seen_112 rfl (lv_at hl 1 rfl) ?_
                  refine lv_aload_n hx hb dX7_seen_113 rfl (lv_at hl 1 rfl) ?_
                  refine xg7_0 (k := 0) hx hb hts hin7 hown hK hI (by decide) hw_4 dX7_seen_114 ?_
                  refine lv_iload_n hx hb dX7_seen_117 rfl (lv_at hl 2 rfl) ?_
                  obtain ⟨h20, hw⟩ := hw
                  refine x_aald (k := 1) (n := 8) (q := ad (36 + 2 * (x1).toNatClampNeg)) hx hb hK hI (by decide) 4 rfl rfl h20 rfl dX7_seen_118 ?_
                  refine lv_iload_n hx hb dX7_seen_119 rfl (lv_at hl 3 rfl) ?_
                  refine lv_iload_n hx hb dX7_seen_120 rfl (lv_at hl 4 rfl) ?_
                  refine x_afti (va_runV (As := [.ref (ad (36 + 2 * (x1).toNatClampNeg)), .int x2, .int x3]) (rest := []) ⟨hx, hb, hml, hown, hts⟩ (c_X7_leansSeen l g ad H.size V18 (36 + 2 * (x1).toNatClampNeg) x2 x3 (kX_at13 h20) _ hw) (cwV 3 hts gX7_seen_X7_leansSeen rfl rfl rfl (by decide +kernel) ⟨Nat.le_of_ble_eq_true rfl, Nat.le_of_ble_eq_true rfl⟩) (x_preV (k := 0) hK hE hI (by decide) (cX_7 (by decide)) rfl) rfl rfl hl.1 rfl (lv_room (Nat.le_of_ble_eq_true rfl)) dX7_seen_121 ⟨Nat.zero_le _, Nat.zero_le _⟩) hI (fun r22 V21 H locs hw hI => ?_)
                  exact W.iret (v := r22) hx hb hr (x_reti hI hw) hI.2.2.2.2 dX7_seen_124
                · replace hw := hw.2 c19
                  refine lv_aload_n hx hb dX7_seen_97 rfl (lv_at hl 1 rfl) ?_
                  refine lv_aload_n hx hb dX7_seen_98 rfl (lv_at hl 1 rfl) ?_
                  refine xg7_0 (k := 0) hx hb hts hin7 hown hK hI (by decide) hw_4 dX7_seen_99 ?_
                  refine lv_iload_n hx hb dX7_seen_102 rfl (lv_at hl 2 rfl) ?_
                  obtain ⟨h23, hw⟩ := hw
                  refine x_aald (k := 1) (n := 8) (q := ad (36 + 2 * (x1).toNatClampNeg)) hx hb hK hI (by decide) 4 rfl rfl h23 rfl dX7_seen_103 ?_
                  refine lv_iload_n hx hb dX7_seen_104 rfl (lv_at hl 3 rfl) ?_
                  refine lv_iload_n hx hb dX7_seen_105 rfl (lv_at hl 4 rfl) ?_
                  refine x_afti (va_runV (As := [.ref (ad (36 + 2 * (x1).toNatClampNeg)), .int x2, .int x3]) (rest := []) ⟨hx, hb, hml, hown, hts⟩ (c_X7_pacesSeen l g ad H.size V18 (36 + 2 * (x1).toNatClampNeg) x2 x3 (kX_at13 h23) _ hw) (cwV 3 hts gX7_seen_X7_pacesSeen rfl rfl rfl (by decide +kernel) ⟨Nat.le_of_ble_eq_true rfl, Nat.le_of_ble_eq_true rfl⟩) (x_preV (k := 0) hK hE hI (by decide) (cX_7 (by decide)) rfl) rfl rfl hl.1 rfl (lv_room (Nat.le_of_ble_eq_true rfl)) dX7_seen_106 ⟨Nat.zero_le _, Nat.zero_le _⟩) hI (fun r25 V24 H locs hw hI => ?_)
                  refine lv_goto (tgt := 124) hx hb dX7_seen_109 (by decide) ?_
                  exact W.iret (v := r25) hx hb hr (x_reti hI hw) hI.2.2.2.2 dX7_seen_124
              · replace hw := hw.2 c17
                refine lv_aload_n hx hb dX7_seen_80 rfl (lv_at hl 1 rfl) ?_
                refine lv_iload hx hb dX7_seen_81 (lv_at hl 0 rfl) ?_
                refine x_afti (va_runV (As := [.int r16]) (rest := []) ⟨hx, hb, hml, hown, hts⟩ (c_X7_found l g ad H.size V15 r16 _ hw) (cwV 1 hts gX7_seen_X7_found rfl rfl rfl (by decide +kernel) ⟨Nat.le_of_ble_eq_true rfl, Nat.le_of_ble_eq_true rfl⟩) (x_preV (k := 0) hK hE hI (by decide) (cX_7 (by decide)) rfl) rfl rfl hl.1 rfl (lv_room (Nat.le_of_ble_eq_true rfl)) dX7_seen_83 ⟨Nat.zero_le _, Nat.zero_le _⟩) hI (fun r27 V26 H locs hw hI => ?_)
                exact W.iret (v := r27) hx hb hr (x_reti hI hw) hI.2.2.2.2 dX7_seen_86
            · replace hw := hw.2 c13
              refine lv_ldc (v := (-1000002 : Int32)) hx hb hown hw_6 dX7_seen_59 ?_
              exact W.iret (v := (-1000002 : Int32)) hx hb hr (x_reti hI hw) hI.2.2.2.2 dX7_seen_61
          · replace hw := hw.2 c12
            refine lv_ldc (v := (-1000001 : Int32)) hx hb hown hw_1 dX7_seen_43 ?_
            exact W.iret (v := (-1000001 : Int32)) hx hb hr (x_reti hI hw) hI.2.2.2.2 dX7_seen_45
    · replace hw := hw.2 c3
      refine lv_ldc (v := (-1000002 : Int32)) hx hb hown hw_6 dX7_seen_10 ?_
      exact W.iret (v := (-1000002 : Int32)) hx hb hr (x_reti hI hw) hI.2.2.2.2 dX7_seen_12
  exact hgo s.heap [] hI
def rm_X7_who : Room := { frames := 5, cells := 0, slots := 0, locals := 105 }
set_option maxHeartbeats 4000000 in
set_option maxRecDepth 100000 in
theorem c_X7_who (l : Launch) (g : GP) (ad : Nat → Nat) (sz : Nat) (V : VT) (x1 : Int32) (x2 : Int32) (x3 : Int32) (x4 : Int32)  (K : Int32 → VT → Prop) (hw : wp_X7_who V x1 x2 x3 x4 K) : Met l yX7_who wsX7_who rm_X7_who (va_Pc [.ref (ad 0), .int x1, .int x2, .int x3, .int x4] (WPre 76 (cX g ad) ad g V sz)) (va_Qi K (WPost 76 (cX g ad) ad g) (AW ad 76 sz)) 0 0 (AW ad 76 sz) := by
  refine Met.ofW (cc := cX7_who) (maxL := 8) (ret := (some .int)) (by decide) rfl ?_
  intro p e s m args below meth c s₁ B hml hv
  obtain ⟨ha, hv⟩ := hv
  obtain rfl := hv.1
  have hI : WI g 76 (cX g ad) ad V s.heap s.heap [] := WI.start hv
  have hK := hv.2.2.1
  have hE := hv.2.2.2.2
  have hx := B.exec
  have hb := B.bytes
  have hr := B.returns
  have hts := atoms_spec (ws := wsX7_who) B.pre
  have hown : s.vm.findClass RX7 = some m.cls := findClass_of_methodNamed B.named
  have hlocks := B.notSynchronized
  have hw_0 := hts (.fieldLink RX7 22 "HoopLane" "lane" "LHoopLane$Lane;") (by decide +kernel)
  have hw_1 := hts (.fieldLink RX7 134 "HoopLane$Lane" "taps" "I") (by decide +kernel)
  have hw_2 := hts (.constant RX7 76 (-1000001)) (by decide +kernel)
  have hw_3 := hts (.fieldLink RX7 147 "HoopLane$Lane" "hoop" "LHoopLane$Hoop;") (by decide +kernel)
  have hw_4 := hts (.fieldLink RX7 150 "HoopLane$Hoop" "end" "I") (by decide +kernel)
  have hw_5 := hts (.fieldLink RX7 11 "HoopLane" "rows" "[LHoopLane$Row;") (by decide +kernel)
  have hw_6 := hts (.fieldLink RX7 68 "HoopLane" "status" "I") (by decide +kernel)
  have hw_7 := hts (.constant RX7 140 (-1000002)) (by decide +kernel)
  have hw_8 := hts (.fieldLink RX7 60 "HoopLane" "trial" "LHoopLane$Hoop;") (by decide +kernel)
  have hin7 : ∀ w ∈ wsX70, w ∈ wsX7_who := by decide +kernel
  have hin3 : ∀ w ∈ wsX30, w ∈ wsX7_who := by decide +kernel
  have hin2 : ∀ w ∈ wsX20, w ∈ wsX7_who := by decide +kernel
  have hl := lv_entry ([.ref (ad 0), .int x1, .int x2, .int x3, .int x4]) (n := 8) (Nat.le_of_ble_eq_true rfl)
  have hent : entryFrame m args 8 = F0 m 0 ((lg_sl ([.ref (ad 0), .int x1, .int x2, .int x3, .int x4]) ++ List.replicate (8 - (lg_sl ([.ref (ad 0), .int x1, .int x2, .int x3, .int x4])).length) Slot.unset).toArray) [] := by rw [ha, lg_entry_eq]
  rw [hent]
  generalize (lg_sl ([.ref (ad 0), .int x1, .int x2, .int x3, .int x4]) ++ List.replicate (8 - (lg_sl ([.ref (ad 0), .int x1, .int x2, .int x3, .int x4])).length) Slot.unset).toArray = ls at hl ⊢
  have hl : lv_has ls 8 [(0, .ref (ad 0)), (1, .int x1), (2, .int x2), (3, .int x3), (4, .int x4)] := hl
  obtain ⟨H, hH⟩ : ∃ H : Heap, H = s.heap := ⟨_, rfl⟩
  have hL94 : ∀ (n94 : Nat) (V : VT) (H : Heap) (locs : List Loc) (ls : Array Slot) (x1 : Int32) (x2 : Int32) (x3 : Int32) (x4 : Int32) (x6 : Int32) (x7 : Int32), WI g 76 (cX g ad) ad V s.heap H locs → lv_has ls 8 [(0, .ref (ad 0)), (1, .int x1), (2, .int x2), (3, .int x3), (4, .int x4), (6, .int x6), (7, .int x7)] → wp_X7_who_L94 K  n94 V x1 x2 x3 x4 x6 x7 → W p l e (headSpec wsX7_who rm_X7_who).room s m args below meth c H locs 0 0 (MQ below (va_Qi K (WPost 76 (cX g ad) ad g) (AW ad 76 s.heap.size)) args s 0 0 (AW ad 76 s.heap.size)) (F0 m 94 ls []) := by
    intro n94
    induction n94 with
    | zero => intro V H locs ls x1 x2 x3 x4 x6 x7  hI hl hw; exact False.elim hw
    | succ n94 ihL94 =>
      have hb160 : ∀ (V : VT) (H : Heap) (locs : List Loc) (ls : Array Slot) (x1 : Int32) (x2 : Int32) (x3 : Int32) (x4 : Int32) (x6 : Int32) (x7 : Int32), WI g 76 (cX g ad) ad V s.heap H locs → lv_has ls 8 [(0, .ref (ad 0)), (1, .int x1), (2, .int x2), (3, .int x3), (4, .int x4), (6, .int x6), (7, .int x7)] → wp_X7_who_b160 K (wp_X7_who_L94 K  n94) V x1 x2 x3 x4 x6 x7 → W p l e (headSpec wsX7_who rm_X7_who).room s m args below meth c H locs 0 0 (MQ below (va_Qi K (WPost 76 (cX g ad) ad g) (AW ad 76 s.heap.size)) args s 0 0 (AW ad 76 s.heap.size)) (F0 m 160 ls []) := by
        intro V H locs ls x1 x2 x3 x4 x6 x7  hI hl hw
        refine lv_iinc (v := (x7 + (1 : Int32))) (lv' := [(7, .int (x7 + (1 : Int32))), (0, .ref (ad 0)), (1, .int x1), (2, .int x2), (3, .int x3), (4, .int x4), (6, .int x6)]) hx hb dX7_who_160 hl (k := 6) rfl rfl (by decide) rfl (fun ls hl => ?_)
        refine lv_goto (tgt := 94) hx hb dX7_who_163 (by decide) ?_
        exact ihL94 V H locs ls x1 x2 x3 x4 x6 (x7 + (1 : Int32)) hI (lv_sub hl [1, 2, 3, 4, 5, 6, 0] rfl) hw
      intro V H locs ls x1 x2 x3 x4 x6 x7  hI hl hw
      refine lv_iload hx hb dX7_who_94 (lv_at hl 6 rfl) ?_
      refine lv_iconst (v := (5 : Int32)) hx hb dX7_who_96 (by decide) ?_
      refine lv_icmp_gt (tgt := 166) hx hb dX7_who_97 (by decide) (fun c18 => ?_) (fun c18 => ?_)
      · replace hw := hw.1 c18
        refine lv_iload hx hb dX7_who_166 (lv_at hl 5 rfl) ?_
        exact W.iret (v := x6) hx hb hr (x_reti hI hw) hI.2.2.2.2 dX7_who_168
      · replace hw := hw.2 c18
        refine lv_aload_n hx hb dX7_who_100 rfl (lv_at hl 0 rfl) ?_
        refine xg7_8 (k := 0) hx hb hts hin7 hown hK hI (by decide) hw_8 dX7_who_101 ?_
        refine lv_aload_n hx hb dX7_who_104 rfl (lv_at hl 0 rfl) ?_
        refine xg7_2 (k := 0) hx hb hts hin7 hown hK hI (by decide) hw_0 dX7_who_105 ?_
        refine xg3_3 (k := 16) hx hb hts hin3 hown hK hI (by decide) hw_3 dX7_who_108 ?_
        refine x_aftv (va_runV (As := [.ref (ad 20)]) (rest := []) ⟨hx, hb, hml, hown, hts⟩ (c_X2_be l g ad H.size V 15 20 (by decide) (by decide) _ hw) (cwV 1 hts gX7_who_X2_be rfl rfl rfl (by decide +kernel) ⟨Nat.le_of_ble_eq_true rfl, Nat.le_of_ble_eq_true rfl⟩) (x_preV (k := 15) hK hE hI (by decide) (cX_2 (by decide)) rfl) rfl rfl hl.1 rfl (lv_room (Nat.le_of_ble_eq_true rfl)) dX7_who_111 ⟨Nat.zero_le _, Nat.zero_le _⟩) hI (fun V19 H locs hw hI => ?_)
        refine lv_aload_n hx hb dX7_who_114 rfl (lv_at hl 0 rfl) ?_
        refine xg7_8 (k := 0) hx hb hts hin7 hown hK hI (by decide) hw_8 dX7_who_115 ?_
        refine lv_aload_n hx hb dX7_who_118 rfl (lv_at hl 0 rfl) ?_
        refine xg7_2 (k := 0) hx hb hts hin7 hown hK hI (by decide) hw_0 dX7_who_119 ?_
        refine lv_iload hx hb dX7_who_122 (lv_at hl 6 rfl) ?_
        refine lv_aload_n hx hb dX7_who_124 rfl (lv_at hl 0 rfl) ?_
        refine xg7_2 (k := 0) hx hb hts hin7 hown hK hI (by decide) hw_0 dX7_who_125 ?_
        refine lv_iload_n hx hb dX7_who_128 rfl (lv_at hl 1 rfl) ?_
        refine x_afti (va_runV (As := [.int x1]) (rest := [.int x7, .ref (ad 16), .ref (ad 15)]) ⟨hx, hb, hml, hown, hts⟩ (c_X3_forceAt l g ad H.size V19 16 x1 (by decide) _ hw) (cwV 1 hts gX7_who_X3_forceAt rfl rfl rfl (by decide +kernel) ⟨Nat.le_of_ble_eq_true rfl, Nat.le_of_ble_eq_true rfl⟩) (x_preV (k := 16) hK hE hI (by decide) (cX_3 (by decide)) rfl) rfl rfl hl.1 rfl (lv_room (Nat.le_of_ble_eq_true rfl)) dX7_who_129 ⟨Nat.zero_le _, Nat.zero_le _⟩) hI (fun r21 V20 H locs hw hI => ?_)
        refine x_aftv (va_runV (As := [.ref (ad 16), .int x7, .int r21]) (rest := []) ⟨hx, hb, hml, hown, hts⟩ (c_X2_pass l g ad H.size V20 15 16 x7 r21 (by decide) (by decide) _ hw) (cwV 3 hts gX7_who_X2_pass rfl rfl rfl (by decide +kernel) ⟨Nat.le_of_ble_eq_true rfl, Nat.le_of_ble_eq_true rfl⟩) (x_preV (k := 15) hK hE hI (by decide) (cX_2 (by decide)) rfl) rfl rfl hl.1 rfl (lv_room (Nat.le_of_ble_eq_true rfl)) dX7_who_132 ⟨Nat.zero_le _, Nat.zero_le _⟩) hI (fun V22 H locs hw hI => ?_)
        refine lv_aload_n hx hb dX7_who_135 rfl (lv_at hl 0 rfl) ?_
        refine lv_aload_n hx hb dX7_who_136 rfl (lv_at hl 0 rfl) ?_
        refine xg7_0 (k := 0) hx hb hts hin7 hown hK hI (by decide) hw_5 dX7_who_137 ?_
        refine lv_iload_n hx hb dX7_who_140 rfl (lv_at hl 2 rfl) ?_
        obtain ⟨h23, hw⟩ := hw
        refine x_aald (k := 1) (n := 8) (q := ad (36 + 2 * (x2).toNatClampNeg)) hx hb hK hI (by decide) 4 rfl rfl h23 rfl dX7_who_141 ?_
        refine lv_iload_n hx hb dX7_who_142 rfl (lv_at hl 3 rfl) ?_
        refine lv_iload hx hb dX7_who_143 (lv_at hl 4 rfl) ?_
        refine x_afti (va_runV (As := [.ref (ad (36 + 2 * (x2).toNatClampNeg)), .int x3, .int x4]) (rest := []) ⟨hx, hb, hml, hown, hts⟩ (c_X7_comesSo l g ad H.size V22 (36 + 2 * (x2).toNatClampNeg) x3 x4 (kX_at13 h23) _ hw) (cwV 3 hts gX7_who_X7_comesSo rfl rfl rfl (by decide +kernel) ⟨Nat.le_of_ble_eq_true rfl, Nat.le_of_ble_eq_true rfl⟩) (x_preV (k := 0) hK hE hI (by decide) (cX_7 (by decide)) rfl) rfl rfl hl.1 rfl (lv_room (Nat.le_of_ble_eq_true rfl)) dX7_who_145 ⟨Nat.zero_le _, Nat.zero_le _⟩) hI (fun r25 V24 H locs hw hI => ?_)
        refine lv_if_eq (tgt := 160) hx hb dX7_who_148 (by decide) (fun c26 => ?_) (fun c26 => ?_)
        · replace hw := hw.1 c26
          exact hb160 V24 H locs ls x1 x2 x3 x4 x6 x7 hI (lv_sub hl [0, 1, 2, 3, 4, 5, 6] rfl) hw
        · replace hw := hw.2 c26
          refine lv_iload hx hb dX7_who_151 (lv_at hl 5 rfl) ?_
          refine lv_iconst (v := (1 : Int32)) hx hb dX7_who_153 (by decide) ?_
          refine lv_iload hx hb dX7_who_154 (lv_at hl 6 rfl) ?_
          refine lv_ishl hx hb dX7_who_156 ?_
          refine lv_ior hx hb dX7_who_157 ?_
          refine lv_istore (lv' := [(6, .int (x6 ||| ((1 : Int32) <<< (x7 &&& (31 : Int32))))), (0, .ref (ad 0)), (1, .int x1), (2, .int x2), (3, .int x3), (4, .int x4), (7, .int x7)]) hx hb dX7_who_158 hl (by decide) rfl (fun ls hl => ?_)
          exact hb160 V24 H locs ls x1 x2 x3 x4 (x6 ||| ((1 : Int32) <<< (x7 &&& (31 : Int32)))) x7 hI (lv_sub hl [1, 2, 3, 4, 5, 0, 6] rfl) hw
  have hgo : ∀ (H : Heap) (locs : List Loc), WI g 76 (cX g ad) ad V s.heap H locs → W p l e (headSpec wsX7_who rm_X7_who).room s m args below meth c H locs 0 0 (MQ below (va_Qi K (WPost 76 (cX g ad) ad g) (AW ad 76 s.heap.size)) args s 0 0 (AW ad 76 s.heap.size)) (F0 m 0 ls []) := by
    intro H locs hI
    refine lv_iload_n hx hb dX7_who_0 rfl (lv_at hl 1 rfl) ?_
    refine lv_iconst (v := (0 : Int32)) hx hb dX7_who_1 (by decide) ?_
    refine lv_aload_n hx hb dX7_who_2 rfl (lv_at hl 0 rfl) ?_
    refine xg7_2 (k := 0) hx hb hts hin7 hown hK hI (by decide) hw_0 dX7_who_3 ?_
    refine xg3_5 (k := 16) hx hb hts hin3 hown hK hI (by decide) hw_1 dX7_who_6 ?_
    refine lv_iconst (v := (1 : Int32)) hx hb dX7_who_9 (by decide) ?_
    refine lv_isub hx hb dX7_who_10 ?_
    refine x_afti (va_runS (As := [.int x1, .int (0 : Int32), .int ((V 16 5) - (1 : Int32))]) (rest := []) ⟨hx, hb, hml, hown, hts⟩ (c_X7_isOut l g ad H.size V x1 (0 : Int32) ((V 16 5) - (1 : Int32)) _ hw) (cwS 3 hts gX7_who_X7_isOut rfl rfl rfl (by decide +kernel) ⟨Nat.le_of_ble_eq_true rfl, Nat.le_of_ble_eq_true rfl⟩) (x_preS hK hE hI) rfl rfl hl.1 rfl (lv_room (Nat.le_of_ble_eq_true rfl)) dX7_who_11 ⟨Nat.zero_le _, Nat.zero_le _⟩) hI (fun r2 V1 H locs hw hI => ?_)
    refine lv_if_ne (tgt := 38) hx hb dX7_who_14 (by decide) (fun c3 => ?_) (fun c3 => ?_)
    · replace hw := hw.1 c3
      refine lv_ldc (v := (-1000001 : Int32)) hx hb hown hw_2 dX7_who_38 ?_
      exact W.iret (v := (-1000001 : Int32)) hx hb hr (x_reti hI hw) hI.2.2.2.2 dX7_who_40
    · replace hw := hw.2 c3
      refine lv_iload_n hx hb dX7_who_17 rfl (lv_at hl 2 rfl) ?_
      refine lv_iconst (v := (0 : Int32)) hx hb dX7_who_18 (by decide) ?_
      refine lv_bipush (v := (7 : Int32)) hx hb dX7_who_19 (by decide) ?_
      refine x_afti (va_runS (As := [.int x2, .int (0 : Int32), .int (7 : Int32)]) (rest := []) ⟨hx, hb, hml, hown, hts⟩ (c_X7_isOut l g ad H.size V1 x2 (0 : Int32) (7 : Int32) _ hw) (cwS 3 hts gX7_who_X7_isOut rfl rfl rfl (by decide +kernel) ⟨Nat.le_of_ble_eq_true rfl, Nat.le_of_ble_eq_true rfl⟩) (x_preS hK hE hI) rfl rfl hl.1 rfl (lv_room (Nat.le_of_ble_eq_true rfl)) dX7_who_21 ⟨Nat.zero_le _, Nat.zero_le _⟩) hI (fun r5 V4 H locs hw hI => ?_)
      refine lv_if_ne (tgt := 38) hx hb dX7_who_24 (by decide) (fun c6 => ?_) (fun c6 => ?_)
      · replace hw := hw.1 c6
        refine lv_ldc (v := (-1000001 : Int32)) hx hb hown hw_2 dX7_who_38 ?_
        exact W.iret (v := (-1000001 : Int32)) hx hb hr (x_reti hI hw) hI.2.2.2.2 dX7_who_40
      · replace hw := hw.2 c6
        refine lv_iload hx hb dX7_who_27 (lv_at hl 4 rfl) ?_
        refine lv_iconst (v := (1 : Int32)) hx hb dX7_who_29 (by decide) ?_
        refine lv_bipush (v := (8 : Int32)) hx hb dX7_who_30 (by decide) ?_
        refine x_afti (va_runS (As := [.int x4, .int (1 : Int32), .int (8 : Int32)]) (rest := []) ⟨hx, hb, hml, hown, hts⟩ (c_X7_isOut l g ad H.size V4 x4 (1 : Int32) (8 : Int32) _ hw) (cwS 3 hts gX7_who_X7_isOut rfl rfl rfl (by decide +kernel) ⟨Nat.le_of_ble_eq_true rfl, Nat.le_of_ble_eq_true rfl⟩) (x_preS hK hE hI) rfl rfl hl.1 rfl (lv_room (Nat.le_of_ble_eq_true rfl)) dX7_who_32 ⟨Nat.zero_le _, Nat.zero_le _⟩) hI (fun r8 V7 H locs hw hI => ?_)
        refine lv_if_eq (tgt := 41) hx hb dX7_who_35 (by decide) (fun c9 => ?_) (fun c9 => ?_)
        · replace hw := hw.1 c9
          refine lv_aload_n hx hb dX7_who_41 rfl (lv_at hl 0 rfl) ?_
          refine xg7_2 (k := 0) hx hb hts hin7 hown hK hI (by decide) hw_0 dX7_who_42 ?_
          refine xg3_3 (k := 16) hx hb hts hin3 hown hK hI (by decide) hw_3 dX7_who_45 ?_
          refine xg2_3 (k := 20) hx hb hts hin2 hown hK hI (by decide) hw_4 dX7_who_48 ?_
          refine lv_if_eq (tgt := 57) hx hb dX7_who_51 (by decide) (fun c10 => ?_) (fun c10 => ?_)
          · replace hw := hw.1 c10
            refine lv_aload_n hx hb dX7_who_57 rfl (lv_at hl 0 rfl) ?_
            refine xg7_0 (k := 0) hx hb hts hin7 hown hK hI (by decide) hw_5 dX7_who_58 ?_
            refine lv_iload_n hx hb dX7_who_61 rfl (lv_at hl 2 rfl) ?_
            obtain ⟨h11, hw⟩ := hw
            refine x_aald (k := 1) (n := 8) (q := ad (36 + 2 * (x2).toNatClampNeg)) hx hb hK hI (by decide) 4 rfl rfl h11 rfl dX7_who_62 ?_
            refine lv_iload_n hx hb dX7_who_63 rfl (lv_at hl 3 rfl) ?_
            refine lv_iload hx hb dX7_who_64 (lv_at hl 4 rfl) ?_
            refine x_afti (va_runV (As := [.int x3, .int x4]) (rest := []) ⟨hx, hb, hml, hown, hts⟩ (c_X5_findingAt l g ad H.size V7 (36 + 2 * (x2).toNatClampNeg) x3 x4 (kX_at13 h11) _ hw) (cwV 2 hts gX7_who_X5_findingAt rfl rfl rfl (by decide +kernel) ⟨Nat.le_of_ble_eq_true rfl, Nat.le_of_ble_eq_true rfl⟩) (x_preV (k := (36 + 2 * (x2).toNatClampNeg)) hK hE hI (kX_lt (kX_at13 h11) (by decide)) (cX_5 (kX_at13 h11)) rfl) rfl rfl hl.1 rfl (lv_room (Nat.le_of_ble_eq_true rfl)) dX7_who_66 ⟨Nat.zero_le _, Nat.zero_le _⟩) hI (fun r13 V12 H locs hw hI => ?_)
            refine lv_istore (lv' := [(5, .int r13), (0, .ref (ad 0)), (1, .int x1), (2, .int x2), (3, .int x3), (4, .int x4)]) hx hb dX7_who_69 hl (by decide) rfl (fun ls hl => ?_)
            refine lv_iload hx hb dX7_who_71 (lv_at hl 0 rfl) ?_
            refine lv_if_eq (tgt := 83) hx hb dX7_who_73 (by decide) (fun c14 => ?_) (fun c14 => ?_)
            · replace hw := hw.1 c14
              refine lv_aload_n hx hb dX7_who_83 rfl (lv_at hl 1 rfl) ?_
              refine lv_iconst (v := (0 : Int32)) hx hb dX7_who_84 (by decide) ?_
              refine xp7_10 (k := 0) hx hb hts hin7 hown hK hI (by decide) hw_6 dX7_who_85 (fun V15 H locs eV15 hI => ?_)
              replace hw := hw V15 eV15
              refine lv_iconst (v := (0 : Int32)) hx hb dX7_who_88 (by decide) ?_
              refine lv_istore (lv' := [(6, .int (0 : Int32)), (5, .int r13), (0, .ref (ad 0)), (1, .int x1), (2, .int x2), (3, .int x3), (4, .int x4)]) hx hb dX7_who_89 hl (by decide) rfl (fun ls hl => ?_)
              refine lv_iconst (v := (1 : Int32)) hx hb dX7_who_91 (by decide) ?_
              refine lv_istore (lv' := [(7, .int (1 : Int32)), (6, .int (0 : Int32)), (5, .int r13), (0, .ref (ad 0)), (1, .int x1), (2, .int x2), (3, .int x3), (4, .int x4)]) hx hb dX7_who_92 hl (by decide) rfl (fun ls hl => ?_)
              obtain ⟨n94, hw⟩ := hw
              exact hL94 n94 V15 H locs ls x1 x2 x3 x4 (0 : Int32) (1 : Int32) hI (lv_sub hl [3, 4, 5, 6, 7, 1, 0] rfl) hw
            · replace hw := hw.2 c14
              refine lv_aload_n hx hb dX7_who_76 rfl (lv_at hl 1 rfl) ?_
              refine lv_iload hx hb dX7_who_77 (lv_at hl 0 rfl) ?_
              refine x_afti (va_runV (As := [.int r13]) (rest := []) ⟨hx, hb, hml, hown, hts⟩ (c_X7_found l g ad H.size V12 r13 _ hw) (cwV 1 hts gX7_who_X7_found rfl rfl rfl (by decide +kernel) ⟨Nat.le_of_ble_eq_true rfl, Nat.le_of_ble_eq_true rfl⟩) (x_preV (k := 0) hK hE hI (by decide) (cX_7 (by decide)) rfl) rfl rfl hl.1 rfl (lv_room (Nat.le_of_ble_eq_true rfl)) dX7_who_79 ⟨Nat.zero_le _, Nat.zero_le _⟩) hI (fun r17 V16 H locs hw hI => ?_)
              exact W.iret (v := r17) hx hb hr (x_reti hI hw) hI.2.2.2.2 dX7_who_82
          · replace hw := hw.2 c10
            refine lv_ldc (v := (-1000002 : Int32)) hx hb hown hw_7 dX7_who_54 ?_
            exact W.iret (v := (-1000002 : Int32)) hx hb hr (x_reti hI hw) hI.2.2.2.2 dX7_who_56
        · replace hw := hw.2 c9
          refine lv_ldc (v := (-1000001 : Int32)) hx hb hown hw_2 dX7_who_38 ?_
          exact W.iret (v := (-1000001 : Int32)) hx hb hr (x_reti hI hw) hI.2.2.2.2 dX7_who_40
  exact hgo s.heap [] hI
def rm_X7_falls : Room := { frames := 6, cells := 0, slots := 0, locals := 133 }
set_option maxHeartbeats 4000000 in
set_option maxRecDepth 100000 in
theorem c_X7_falls (l : Launch) (g : GP) (ad : Nat → Nat) (sz : Nat) (V : VT)   (K : Int32 → VT → Prop) (hw : wp_X7_falls V  K) : Met l yX7_falls wsX7_falls rm_X7_falls (va_Pc [.ref (ad 0)] (WPre 76 (cX g ad) ad g V sz)) (va_Qi K (WPost 76 (cX g ad) ad g) (AW ad 76 sz)) 0 0 (AW ad 76 sz) := by
  refine Met.ofW (cc := cX7_falls) (maxL := 1) (ret := (some .int)) (by decide) rfl ?_
  intro p e s m args below meth c s₁ B hml hv
  obtain ⟨ha, hv⟩ := hv
  obtain rfl := hv.1
  have hI : WI g 76 (cX g ad) ad V s.heap s.heap [] := WI.start hv
  have hK := hv.2.2.1
  have hE := hv.2.2.2.2
  have hx := B.exec
  have hb := B.bytes
  have hr := B.returns
  have hts := atoms_spec (ws := wsX7_falls) B.pre
  have hown : s.vm.findClass RX7 = some m.cls := findClass_of_methodNamed B.named
  have hlocks := B.notSynchronized
  have hw_0 := hts (.fieldLink RX7 22 "HoopLane" "lane" "LHoopLane$Lane;") (by decide +kernel)
  have hw_1 := hts (.fieldLink RX7 46 "HoopLane" "paths" "LHoopLane$Paths;") (by decide +kernel)
  have hw_2 := hts (.fieldLink RX7 147 "HoopLane$Lane" "hoop" "LHoopLane$Hoop;") (by decide +kernel)
  have hw_3 := hts (.constant RX7 221 (1000000)) (by decide +kernel)
  have hw_4 := hts (.fieldLink RX7 226 "HoopLane$Paths" "falls" "I") (by decide +kernel)
  have hw_5 := hts (.constant RX7 140 (-1000002)) (by decide +kernel)
  have hin7 : ∀ w ∈ wsX70, w ∈ wsX7_falls := by decide +kernel
  have hin3 : ∀ w ∈ wsX30, w ∈ wsX7_falls := by decide +kernel
  have hin4 : ∀ w ∈ wsX40, w ∈ wsX7_falls := by decide +kernel
  have hl := lv_entry ([.ref (ad 0)]) (n := 1) (Nat.le_of_ble_eq_true rfl)
  have hent : entryFrame m args 1 = F0 m 0 ((lg_sl ([.ref (ad 0)]) ++ List.replicate (1 - (lg_sl ([.ref (ad 0)])).length) Slot.unset).toArray) [] := by rw [ha, lg_entry_eq]
  rw [hent]
  generalize (lg_sl ([.ref (ad 0)]) ++ List.replicate (1 - (lg_sl ([.ref (ad 0)])).length) Slot.unset).toArray = ls at hl ⊢
  have hl : lv_has ls 1 [(0, .ref (ad 0))] := hl
  obtain ⟨H, hH⟩ : ∃ H : Heap, H = s.heap := ⟨_, rfl⟩
  have hgo : ∀ (H : Heap) (locs : List Loc), WI g 76 (cX g ad) ad V s.heap H locs → W p l e (headSpec wsX7_falls rm_X7_falls).room s m args below meth c H locs 0 0 (MQ below (va_Qi K (WPost 76 (cX g ad) ad g) (AW ad 76 s.heap.size)) args s 0 0 (AW ad 76 s.heap.size)) (F0 m 0 ls []) := by
    intro H locs hI
    refine lv_aload_n hx hb dX7_falls_0 rfl (lv_at hl 0 rfl) ?_
    refine xg7_2 (k := 0) hx hb hts hin7 hown hK hI (by decide) hw_0 dX7_falls_1 ?_
    refine x_afti (va_runV (As := []) (rest := []) ⟨hx, hb, hml, hown, hts⟩ (c_X3_isThere l g ad H.size V 16 (by decide) _ hw) (cwV 0 hts gX7_falls_X3_isThere rfl rfl rfl (by decide +kernel) ⟨Nat.le_of_ble_eq_true rfl, Nat.le_of_ble_eq_true rfl⟩) (x_preV (k := 16) hK hE hI (by decide) (cX_3 (by decide)) rfl) rfl rfl hl.1 rfl (lv_room (Nat.le_of_ble_eq_true rfl)) dX7_falls_4 ⟨Nat.zero_le _, Nat.zero_le _⟩) hI (fun r2 V1 H locs hw hI => ?_)
    refine lv_if_ne (tgt := 13) hx hb dX7_falls_7 (by decide) (fun c3 => ?_) (fun c3 => ?_)
    · replace hw := hw.1 c3
      refine lv_aload_n hx hb dX7_falls_13 rfl (lv_at hl 0 rfl) ?_
      refine xg7_6 (k := 0) hx hb hts hin7 hown hK hI (by decide) hw_1 dX7_falls_14 ?_
      refine lv_aload_n hx hb dX7_falls_17 rfl (lv_at hl 0 rfl) ?_
      refine xg7_2 (k := 0) hx hb hts hin7 hown hK hI (by decide) hw_0 dX7_falls_18 ?_
      refine lv_aload_n hx hb dX7_falls_21 rfl (lv_at hl 0 rfl) ?_
      refine xg7_2 (k := 0) hx hb hts hin7 hown hK hI (by decide) hw_0 dX7_falls_22 ?_
      refine xg3_3 (k := 16) hx hb hts hin3 hown hK hI (by decide) hw_2 dX7_falls_25 ?_
      refine lv_iconst (v := (1 : Int32)) hx hb dX7_falls_28 (by decide) ?_
      refine lv_iconst (v := (0 : Int32)) hx hb dX7_falls_29 (by decide) ?_
      refine lv_ldc (v := (1000000 : Int32)) hx hb hown hw_3 dX7_falls_30 ?_
      refine x_aftv (va_runV (As := [.ref (ad 16), .ref (ad 20), .int (1 : Int32), .int (0 : Int32), .int (1000000 : Int32)]) (rest := []) ⟨hx, hb, hml, hown, hts⟩ (c_X4_walk l g ad H.size V1 16 20 (1 : Int32) (0 : Int32) (1000000 : Int32) (by decide) (by decide) _ hw) (cwV 5 hts gX7_falls_X4_walk rfl rfl rfl (by decide +kernel) ⟨Nat.le_of_ble_eq_true rfl, Nat.le_of_ble_eq_true rfl⟩) (x_preV (k := 10) hK hE hI (by decide) (cX_4 (by decide)) rfl) rfl rfl hl.1 rfl (lv_room (Nat.le_of_ble_eq_true rfl)) dX7_falls_32 ⟨Nat.zero_le _, Nat.zero_le _⟩) hI (fun V4 H locs hw hI => ?_)
      refine lv_aload_n hx hb dX7_falls_35 rfl (lv_at hl 0 rfl) ?_
      refine xg7_6 (k := 0) hx hb hts hin7 hown hK hI (by decide) hw_1 dX7_falls_36 ?_
      refine xg4_4 (k := 10) hx hb hts hin4 hown hK hI (by decide) hw_4 dX7_falls_39 ?_
      exact W.iret (v := (V4 10 4)) hx hb hr (x_reti hI hw) hI.2.2.2.2 dX7_falls_42
    · replace hw := hw.2 c3
      refine lv_ldc (v := (-1000002 : Int32)) hx hb hown hw_5 dX7_falls_10 ?_
      exact W.iret (v := (-1000002 : Int32)) hx hb hr (x_reti hI hw) hI.2.2.2.2 dX7_falls_12
  exact hgo s.heap [] hI
def rm_X7_fewestIfFlat : Room := { frames := 6, cells := 0, slots := 0, locals := 133 }
set_option maxHeartbeats 4000000 in
set_option maxRecDepth 100000 in
theorem c_X7_fewestIfFlat (l : Launch) (g : GP) (ad : Nat → Nat) (sz : Nat) (V : VT) (x1 : Int32) (x2 : Int32)  (K : Int32 → VT → Prop) (hw : wp_X7_fewestIfFlat V x1 x2 K) : Met l yX7_fewestIfFlat wsX7_fewestIfFlat rm_X7_fewestIfFlat (va_Pc [.ref (ad 0), .int x1, .int x2] (WPre 76 (cX g ad) ad g V sz)) (va_Qi K (WPost 76 (cX g ad) ad g) (AW ad 76 sz)) 0 0 (AW ad 76 sz) := by
  refine Met.ofW (cc := cX7_fewestIfFlat) (maxL := 4) (ret := (some .int)) (by decide) rfl ?_
  intro p e s m args below meth c s₁ B hml hv
  obtain ⟨ha, hv⟩ := hv
  obtain rfl := hv.1
  have hI : WI g 76 (cX g ad) ad V s.heap s.heap [] := WI.start hv
  have hK := hv.2.2.1
  have hE := hv.2.2.2.2
  have hx := B.exec
  have hb := B.bytes
  have hr := B.returns
  have hts := atoms_spec (ws := wsX7_fewestIfFlat) B.pre
  have hown : s.vm.findClass RX7 = some m.cls := findClass_of_methodNamed B.named
  have hlocks := B.notSynchronized
  have hw_0 := hts (.fieldLink RX7 22 "HoopLane" "lane" "LHoopLane$Lane;") (by decide +kernel)
  have hw_1 := hts (.fieldLink RX7 183 "HoopLane$Lane" "grounds" "[I") (by decide +kernel)
  have hw_2 := hts (.fieldLink RX7 46 "HoopLane" "paths" "LHoopLane$Paths;") (by decide +kernel)
  have hw_3 := hts (.fieldLink RX7 147 "HoopLane$Lane" "hoop" "LHoopLane$Hoop;") (by decide +kernel)
  have hin7 : ∀ w ∈ wsX70, w ∈ wsX7_fewestIfFlat := by decide +kernel
  have hin3 : ∀ w ∈ wsX30, w ∈ wsX7_fewestIfFlat := by decide +kernel
  have hl := lv_entry ([.ref (ad 0), .int x1, .int x2]) (n := 4) (Nat.le_of_ble_eq_true rfl)
  have hent : entryFrame m args 4 = F0 m 0 ((lg_sl ([.ref (ad 0), .int x1, .int x2]) ++ List.replicate (4 - (lg_sl ([.ref (ad 0), .int x1, .int x2])).length) Slot.unset).toArray) [] := by rw [ha, lg_entry_eq]
  rw [hent]
  generalize (lg_sl ([.ref (ad 0), .int x1, .int x2]) ++ List.replicate (4 - (lg_sl ([.ref (ad 0), .int x1, .int x2])).length) Slot.unset).toArray = ls at hl ⊢
  have hl : lv_has ls 4 [(0, .ref (ad 0)), (1, .int x1), (2, .int x2)] := hl
  obtain ⟨H, hH⟩ : ∃ H : Heap, H = s.heap := ⟨_, rfl⟩
  have hgo : ∀ (H : Heap) (locs : List Loc), WI g 76 (cX g ad) ad V s.heap H locs → W p l e (headSpec wsX7_fewestIfFlat rm_X7_fewestIfFlat).room s m args below meth c H locs 0 0 (MQ below (va_Qi K (WPost 76 (cX g ad) ad g) (AW ad 76 s.heap.size)) args s 0 0 (AW ad 76 s.heap.size)) (F0 m 0 ls []) := by
    intro H locs hI
    refine lv_aload_n hx hb dX7_fewestIfFlat_0 rfl (lv_at hl 0 rfl) ?_
    refine xg7_2 (k := 0) hx hb hts hin7 hown hK hI (by decide) hw_0 dX7_fewestIfFlat_1 ?_
    refine xg3_0 (k := 16) hx hb hts hin3 hown hK hI (by decide) hw_1 dX7_fewestIfFlat_4 ?_
    refine lv_iload_n hx hb dX7_fewestIfFlat_7 rfl (lv_at hl 1 rfl) ?_
    obtain ⟨h1, hw⟩ := hw
    refine x_iald (k := 17) hx hb hK hI (by decide) (cX_9 (by decide) (by decide)) h1 dX7_fewestIfFlat_8 ?_
    refine lv_istore_n (lv' := [(3, .int (V 17 (x1).toNatClampNeg)), (0, .ref (ad 0)), (1, .int x1), (2, .int x2)]) hx hb dX7_fewestIfFlat_9 rfl hl (by decide) rfl (fun ls hl => ?_)
    refine lv_iload_n hx hb dX7_fewestIfFlat_10 rfl (lv_at hl 0 rfl) ?_
    refine lv_if_ne (tgt := 16) hx hb dX7_fewestIfFlat_11 (by decide) (fun c2 => ?_) (fun c2 => ?_)
    · replace hw := hw.1 c2
      refine lv_aload_n hx hb dX7_fewestIfFlat_16 rfl (lv_at hl 1 rfl) ?_
      refine xg7_2 (k := 0) hx hb hts hin7 hown hK hI (by decide) hw_0 dX7_fewestIfFlat_17 ?_
      refine xg3_0 (k := 16) hx hb hts hin3 hown hK hI (by decide) hw_1 dX7_fewestIfFlat_20 ?_
      refine lv_iload_n hx hb dX7_fewestIfFlat_23 rfl (lv_at hl 2 rfl) ?_
      refine lv_iconst (v := (0 : Int32)) hx hb dX7_fewestIfFlat_24 (by decide) ?_
      obtain ⟨h3, hw⟩ := hw
      refine x_iastV (k := 17) hx hb hK hI (cX_loc g ad) (by decide) (fun _ => cX_9 (by decide) (by decide)) h3 dX7_fewestIfFlat_25 (fun V4 H locs eV4 hI => ?_)
      replace hw := hw V4 eV4
      refine lv_aload_n hx hb dX7_fewestIfFlat_26 rfl (lv_at hl 1 rfl) ?_
      refine xg7_6 (k := 0) hx hb hts hin7 hown hK hI (by decide) hw_2 dX7_fewestIfFlat_27 ?_
      refine lv_aload_n hx hb dX7_fewestIfFlat_30 rfl (lv_at hl 1 rfl) ?_
      refine xg7_2 (k := 0) hx hb hts hin7 hown hK hI (by decide) hw_0 dX7_fewestIfFlat_31 ?_
      refine lv_aload_n hx hb dX7_fewestIfFlat_34 rfl (lv_at hl 1 rfl) ?_
      refine xg7_2 (k := 0) hx hb hts hin7 hown hK hI (by decide) hw_0 dX7_fewestIfFlat_35 ?_
      refine xg3_3 (k := 16) hx hb hts hin3 hown hK hI (by decide) hw_3 dX7_fewestIfFlat_38 ?_
      refine lv_iconst (v := (1 : Int32)) hx hb dX7_fewestIfFlat_41 (by decide) ?_
      refine lv_iconst (v := (0 : Int32)) hx hb dX7_fewestIfFlat_42 (by decide) ?_
      refine lv_iload_n hx hb dX7_fewestIfFlat_43 rfl (lv_at hl 3 rfl) ?_
      refine x_aftv (va_runV (As := [.ref (ad 16), .ref (ad 20), .int (1 : Int32), .int (0 : Int32), .int x2]) (rest := []) ⟨hx, hb, hml, hown, hts⟩ (c_X4_walk l g ad H.size V4 16 20 (1 : Int32) (0 : Int32) x2 (by decide) (by decide) _ hw) (cwV 5 hts gX7_fewestIfFlat_X4_walk rfl rfl rfl (by decide +kernel) ⟨Nat.le_of_ble_eq_true rfl, Nat.le_of_ble_eq_true rfl⟩) (x_preV (k := 10) hK hE hI (by decide) (cX_4 (by decide)) rfl) rfl rfl hl.1 rfl (lv_room (Nat.le_of_ble_eq_true rfl)) dX7_fewestIfFlat_44 ⟨Nat.zero_le _, Nat.zero_le _⟩) hI (fun V5 H locs hw hI => ?_)
      refine lv_aload_n hx hb dX7_fewestIfFlat_47 rfl (lv_at hl 1 rfl) ?_
      refine xg7_2 (k := 0) hx hb hts hin7 hown hK hI (by decide) hw_0 dX7_fewestIfFlat_48 ?_
      refine xg3_0 (k := 16) hx hb hts hin3 hown hK hI (by decide) hw_1 dX7_fewestIfFlat_51 ?_
      refine lv_iload_n hx hb dX7_fewestIfFlat_54 rfl (lv_at hl 2 rfl) ?_
      refine lv_iload_n hx hb dX7_fewestIfFlat_55 rfl (lv_at hl 0 rfl) ?_
      obtain ⟨h6, hw⟩ := hw
      refine x_iastV (k := 17) hx hb hK hI (cX_loc g ad) (by decide) (fun _ => cX_9 (by decide) (by decide)) h6 dX7_fewestIfFlat_56 (fun V7 H locs eV7 hI => ?_)
      replace hw := hw V7 eV7
      refine lv_aload_n hx hb dX7_fewestIfFlat_57 rfl (lv_at hl 1 rfl) ?_
      refine xg7_6 (k := 0) hx hb hts hin7 hown hK hI (by decide) hw_2 dX7_fewestIfFlat_58 ?_
      refine x_afti (va_runV (As := []) (rest := []) ⟨hx, hb, hml, hown, hts⟩ (c_X4_cost l g ad H.size V7  _ hw) (cwV 0 hts gX7_fewestIfFlat_X4_cost rfl rfl rfl (by decide +kernel) ⟨Nat.le_of_ble_eq_true rfl, Nat.le_of_ble_eq_true rfl⟩) (x_preV (k := 10) hK hE hI (by decide) (cX_4 (by decide)) rfl) rfl rfl hl.1 rfl (lv_room (Nat.le_of_ble_eq_true rfl)) dX7_fewestIfFlat_61 ⟨Nat.zero_le _, Nat.zero_le _⟩) hI (fun r9 V8 H locs hw hI => ?_)
      exact W.iret (v := r9) hx hb hr (x_reti hI hw) hI.2.2.2.2 dX7_fewestIfFlat_64
    · replace hw := hw.2 c2
      refine lv_iload_n hx hb dX7_fewestIfFlat_14 rfl (lv_at hl 3 rfl) ?_
      exact W.iret (v := x2) hx hb hr (x_reti hI hw) hI.2.2.2.2 dX7_fewestIfFlat_15
  exact hgo s.heap [] hI
def rm_X7_mend : Room := { frames := 7, cells := 0, slots := 0, locals := 156 }
set_option maxHeartbeats 4000000 in
set_option maxRecDepth 100000 in
theorem c_X7_mend (l : Launch) (g : GP) (ad : Nat → Nat) (sz : Nat) (V : VT) (x1 : Int32)  (K : Int32 → VT → Prop) (hw : wp_X7_mend V x1 K) : Met l yX7_mend wsX7_mend rm_X7_mend (va_Pc [.ref (ad 0), .int x1] (WPre 76 (cX g ad) ad g V sz)) (va_Qi K (WPost 76 (cX g ad) ad g) (AW ad 76 sz)) 0 0 (AW ad 76 sz) := by
  refine Met.ofW (cc := cX7_mend) (maxL := 6) (ret := (some .int)) (by decide) rfl ?_
  intro p e s m args below meth c s₁ B hml hv
  obtain ⟨ha, hv⟩ := hv
  obtain rfl := hv.1
  have hI : WI g 76 (cX g ad) ad V s.heap s.heap [] := WI.start hv
  have hK := hv.2.2.1
  have hE := hv.2.2.2.2
  have hx := B.exec
  have hb := B.bytes
  have hr := B.returns
  have hts := atoms_spec (ws := wsX7_mend) B.pre
  have hown : s.vm.findClass RX7 = some m.cls := findClass_of_methodNamed B.named
  have hlocks := B.notSynchronized
  have hw_0 := hts (.fieldLink RX7 22 "HoopLane" "lane" "LHoopLane$Lane;") (by decide +kernel)
  have hw_1 := hts (.fieldLink RX7 46 "HoopLane" "paths" "LHoopLane$Paths;") (by decide +kernel)
  have hw_2 := hts (.fieldLink RX7 147 "HoopLane$Lane" "hoop" "LHoopLane$Hoop;") (by decide +kernel)
  have hw_3 := hts (.constant RX7 221 (1000000)) (by decide +kernel)
  have hw_4 := hts (.fieldLink RX7 170 "HoopLane$Hoop" "yard" "I") (by decide +kernel)
  have hw_5 := hts (.constant RX7 76 (-1000001)) (by decide +kernel)
  have hw_6 := hts (.constant RX7 140 (-1000002)) (by decide +kernel)
  have hw_7 := hts (.fieldLink RX7 173 "HoopLane$Lane" "yards" "I") (by decide +kernel)
  have hw_8 := hts (.constant RX7 196 (-1000000)) (by decide +kernel)
  have hin7 : ∀ w ∈ wsX70, w ∈ wsX7_mend := by decide +kernel
  have hin3 : ∀ w ∈ wsX30, w ∈ wsX7_mend := by decide +kernel
  have hin2 : ∀ w ∈ wsX20, w ∈ wsX7_mend := by decide +kernel
  have hl := lv_entry ([.ref (ad 0), .int x1]) (n := 6) (Nat.le_of_ble_eq_true rfl)
  have hent : entryFrame m args 6 = F0 m 0 ((lg_sl ([.ref (ad 0), .int x1]) ++ List.replicate (6 - (lg_sl ([.ref (ad 0), .int x1])).length) Slot.unset).toArray) [] := by rw [ha, lg_entry_eq]
  rw [hent]
  generalize (lg_sl ([.ref (ad 0), .int x1]) ++ List.replicate (6 - (lg_sl ([.ref (ad 0), .int x1])).length) Slot.unset).toArray = ls at hl ⊢
  have hl : lv_has ls 6 [(0, .ref (ad 0)), (1, .int x1)] := hl
  obtain ⟨H, hH⟩ : ∃ H : Heap, H = s.heap := ⟨_, rfl⟩
  have hb114 : ∀ (V : VT) (H : Heap) (locs : List Loc) (ls : Array Slot) (x1 : Int32) (x2 : Int32) (x3 : Int32), WI g 76 (cX g ad) ad V s.heap H locs → lv_has ls 6 [(1, .int x1), (2, .int x2), (3, .int x3)] → wp_X7_mend_b114 K  V x1 x2 x3 → W p l e (headSpec wsX7_mend rm_X7_mend).room s m args below meth c H locs 0 0 (MQ below (va_Qi K (WPost 76 (cX g ad) ad g) (AW ad 76 s.heap.size)) args s 0 0 (AW ad 76 s.heap.size)) (F0 m 114 ls []) := by
    intro V H locs ls x1 x2 x3  hI hl hw
    refine lv_iload_n hx hb dX7_mend_114 rfl (lv_at hl 1 rfl) ?_
    refine lv_ldc (v := (1000000 : Int32)) hx hb hown hw_3 dX7_mend_115 ?_
    refine lv_icmp_ne (tgt := 123) hx hb dX7_mend_117 (by decide) (fun c15 => ?_) (fun c15 => ?_)
    · replace hw := hw.1 c15
      refine lv_iload_n hx hb dX7_mend_123 rfl (lv_at hl 0 rfl) ?_
      refine lv_if_ne (tgt := 131) hx hb dX7_mend_124 (by decide) (fun c16 => ?_) (fun c16 => ?_)
      · replace hw := hw.1 c16
        refine lv_iload_n hx hb dX7_mend_131 rfl (lv_at hl 1 rfl) ?_
        exact W.iret (v := x2) hx hb hr (x_reti hI hw) hI.2.2.2.2 dX7_mend_132
      · replace hw := hw.2 c16
        refine lv_iload_n hx hb dX7_mend_127 rfl (lv_at hl 2 rfl) ?_
        refine lv_goto (tgt := 132) hx hb dX7_mend_128 (by decide) ?_
        exact W.iret (v := x3) hx hb hr (x_reti hI hw) hI.2.2.2.2 dX7_mend_132
    · replace hw := hw.2 c15
      refine lv_ldc (v := (-1000000 : Int32)) hx hb hown hw_8 dX7_mend_120 ?_
      exact W.iret (v := (-1000000 : Int32)) hx hb hr (x_reti hI hw) hI.2.2.2.2 dX7_mend_122
  have hL71 : ∀ (n71 : Nat) (V : VT) (H : Heap) (locs : List Loc) (ls : Array Slot) (x1 : Int32) (x2 : Int32) (x3 : Int32) (x4 : Int32), WI g 76 (cX g ad) ad V s.heap H locs → lv_has ls 6 [(0, .ref (ad 0)), (1, .int x1), (2, .int x2), (3, .int x3), (4, .int x4)] → wp_X7_mend_L71 K  n71 V x1 x2 x3 x4 → W p l e (headSpec wsX7_mend rm_X7_mend).room s m args below meth c H locs 0 0 (MQ below (va_Qi K (WPost 76 (cX g ad) ad g) (AW ad 76 s.heap.size)) args s 0 0 (AW ad 76 s.heap.size)) (F0 m 71 ls []) := by
    intro n71
    induction n71 with
    | zero => intro V H locs ls x1 x2 x3 x4  hI hl hw; exact False.elim hw
    | succ n71 ihL71 =>
      have hb108 : ∀ (V : VT) (H : Heap) (locs : List Loc) (ls : Array Slot) (x1 : Int32) (x2 : Int32) (x3 : Int32) (x4 : Int32), WI g 76 (cX g ad) ad V s.heap H locs → lv_has ls 6 [(0, .ref (ad 0)), (1, .int x1), (2, .int x2), (3, .int x3), (4, .int x4)] → wp_X7_mend_b108 K (wp_X7_mend_L71 K  n71) V x1 x2 x3 x4 → W p l e (headSpec wsX7_mend rm_X7_mend).room s m args below meth c H locs 0 0 (MQ below (va_Qi K (WPost 76 (cX g ad) ad g) (AW ad 76 s.heap.size)) args s 0 0 (AW ad 76 s.heap.size)) (F0 m 108 ls []) := by
        intro V H locs ls x1 x2 x3 x4  hI hl hw
        refine lv_iinc (v := (x4 + (1 : Int32))) (lv' := [(4, .int (x4 + (1 : Int32))), (0, .ref (ad 0)), (1, .int x1), (2, .int x2), (3, .int x3)]) hx hb dX7_mend_108 hl (k := 4) rfl rfl (by decide) rfl (fun ls hl => ?_)
        refine lv_goto (tgt := 71) hx hb dX7_mend_111 (by decide) ?_
        exact ihL71 V H locs ls x1 x2 x3 (x4 + (1 : Int32)) hI (lv_sub hl [1, 2, 3, 4, 0] rfl) hw
      intro V H locs ls x1 x2 x3 x4  hI hl hw
      refine lv_iload hx hb dX7_mend_71 (lv_at hl 4 rfl) ?_
      refine lv_aload_n hx hb dX7_mend_73 rfl (lv_at hl 0 rfl) ?_
      refine xg7_2 (k := 0) hx hb hts hin7 hown hK hI (by decide) hw_0 dX7_mend_74 ?_
      refine xg3_4 (k := 16) hx hb hts hin3 hown hK hI (by decide) hw_7 dX7_mend_77 ?_
      refine lv_icmp_ge (tgt := 114) hx hb dX7_mend_80 (by decide) (fun c10 => ?_) (fun c10 => ?_)
      · replace hw := hw.1 c10
        exact hb114 V H locs ls x1 x2 x3 hI (lv_sub hl [1, 2, 3] rfl) hw
      · replace hw := hw.2 c10
        refine lv_iload_n hx hb dX7_mend_83 rfl (lv_at hl 2 rfl) ?_
        refine lv_if_le (tgt := 114) hx hb dX7_mend_84 (by decide) (fun c11 => ?_) (fun c11 => ?_)
        · replace hw := hw.1 c11
          exact hb114 V H locs ls x1 x2 x3 hI (lv_sub hl [1, 2, 3] rfl) hw
        · replace hw := hw.2 c11
          refine lv_aload_n hx hb dX7_mend_87 rfl (lv_at hl 0 rfl) ?_
          refine lv_iload hx hb dX7_mend_88 (lv_at hl 4 rfl) ?_
          refine lv_iload_n hx hb dX7_mend_90 rfl (lv_at hl 2 rfl) ?_
          refine x_afti (va_runV (As := [.int x4, .int x2]) (rest := []) ⟨hx, hb, hml, hown, hts⟩ (c_X7_fewestIfFlat l g ad H.size V x4 x2 _ hw) (cwV 2 hts gX7_mend_X7_fewestIfFlat rfl rfl rfl (by decide +kernel) ⟨Nat.le_of_ble_eq_true rfl, Nat.le_of_ble_eq_true rfl⟩) (x_preV (k := 0) hK hE hI (by decide) (cX_7 (by decide)) rfl) rfl rfl hl.1 rfl (lv_room (Nat.le_of_ble_eq_true rfl)) dX7_mend_91 ⟨Nat.zero_le _, Nat.zero_le _⟩) hI (fun r13 V12 H locs hw hI => ?_)
          refine lv_istore (lv' := [(5, .int r13), (0, .ref (ad 0)), (1, .int x1), (2, .int x2), (3, .int x3), (4, .int x4)]) hx hb dX7_mend_94 hl (by decide) rfl (fun ls hl => ?_)
          refine lv_iload hx hb dX7_mend_96 (lv_at hl 0 rfl) ?_
          refine lv_iload_n hx hb dX7_mend_98 rfl (lv_at hl 3 rfl) ?_
          refine lv_icmp_ge (tgt := 108) hx hb dX7_mend_99 (by decide) (fun c14 => ?_) (fun c14 => ?_)
          · replace hw := hw.1 c14
            exact hb108 V12 H locs ls x1 x2 x3 x4 hI (lv_sub hl [1, 2, 3, 4, 5] rfl) hw
          · replace hw := hw.2 c14
            refine lv_iload hx hb dX7_mend_102 (lv_at hl 0 rfl) ?_
            refine lv_istore_n (lv' := [(2, .int r13), (5, .int r13), (0, .ref (ad 0)), (1, .int x1), (3, .int x3), (4, .int x4)]) hx hb dX7_mend_104 rfl hl (by decide) rfl (fun ls hl => ?_)
            refine lv_iload hx hb dX7_mend_105 (lv_at hl 5 rfl) ?_
            refine lv_istore_n (lv' := [(3, .int x4), (2, .int r13), (5, .int r13), (0, .ref (ad 0)), (1, .int x1), (4, .int x4)]) hx hb dX7_mend_107 rfl hl (by decide) rfl (fun ls hl => ?_)
            exact hb108 V12 H locs ls x1 r13 x4 x4 hI (lv_sub hl [3, 4, 1, 0, 5] rfl) hw
  have hgo : ∀ (H : Heap) (locs : List Loc), WI g 76 (cX g ad) ad V s.heap H locs → W p l e (headSpec wsX7_mend rm_X7_mend).room s m args below meth c H locs 0 0 (MQ below (va_Qi K (WPost 76 (cX g ad) ad g) (AW ad 76 s.heap.size)) args s 0 0 (AW ad 76 s.heap.size)) (F0 m 0 ls []) := by
    intro H locs hI
    refine lv_aload_n hx hb dX7_mend_0 rfl (lv_at hl 0 rfl) ?_
    refine xg7_2 (k := 0) hx hb hts hin7 hown hK hI (by decide) hw_0 dX7_mend_1 ?_
    refine x_afti (va_runV (As := []) (rest := []) ⟨hx, hb, hml, hown, hts⟩ (c_X3_isThere l g ad H.size V 16 (by decide) _ hw) (cwV 0 hts gX7_mend_X3_isThere rfl rfl rfl (by decide +kernel) ⟨Nat.le_of_ble_eq_true rfl, Nat.le_of_ble_eq_true rfl⟩) (x_preV (k := 16) hK hE hI (by decide) (cX_3 (by decide)) rfl) rfl rfl hl.1 rfl (lv_room (Nat.le_of_ble_eq_true rfl)) dX7_mend_4 ⟨Nat.zero_le _, Nat.zero_le _⟩) hI (fun r2 V1 H locs hw hI => ?_)
    refine lv_if_ne (tgt := 13) hx hb dX7_mend_7 (by decide) (fun c3 => ?_) (fun c3 => ?_)
    · replace hw := hw.1 c3
      refine lv_iload_n hx hb dX7_mend_13 rfl (lv_at hl 1 rfl) ?_
      refine lv_iconst (v := (0 : Int32)) hx hb dX7_mend_14 (by decide) ?_
      refine lv_iconst (v := (1 : Int32)) hx hb dX7_mend_15 (by decide) ?_
      refine x_afti (va_runS (As := [.int x1, .int (0 : Int32), .int (1 : Int32)]) (rest := []) ⟨hx, hb, hml, hown, hts⟩ (c_X7_isOut l g ad H.size V1 x1 (0 : Int32) (1 : Int32) _ hw) (cwS 3 hts gX7_mend_X7_isOut rfl rfl rfl (by decide +kernel) ⟨Nat.le_of_ble_eq_true rfl, Nat.le_of_ble_eq_true rfl⟩) (x_preS hK hE hI) rfl rfl hl.1 rfl (lv_room (Nat.le_of_ble_eq_true rfl)) dX7_mend_16 ⟨Nat.zero_le _, Nat.zero_le _⟩) hI (fun r5 V4 H locs hw hI => ?_)
      refine lv_if_eq (tgt := 25) hx hb dX7_mend_19 (by decide) (fun c6 => ?_) (fun c6 => ?_)
      · replace hw := hw.1 c6
        refine lv_aload_n hx hb dX7_mend_25 rfl (lv_at hl 0 rfl) ?_
        refine xg7_6 (k := 0) hx hb hts hin7 hown hK hI (by decide) hw_1 dX7_mend_26 ?_
        refine lv_aload_n hx hb dX7_mend_29 rfl (lv_at hl 0 rfl) ?_
        refine xg7_2 (k := 0) hx hb hts hin7 hown hK hI (by decide) hw_0 dX7_mend_30 ?_
        refine lv_aload_n hx hb dX7_mend_33 rfl (lv_at hl 0 rfl) ?_
        refine xg7_2 (k := 0) hx hb hts hin7 hown hK hI (by decide) hw_0 dX7_mend_34 ?_
        refine xg3_3 (k := 16) hx hb hts hin3 hown hK hI (by decide) hw_2 dX7_mend_37 ?_
        refine lv_iconst (v := (1 : Int32)) hx hb dX7_mend_40 (by decide) ?_
        refine lv_iconst (v := (0 : Int32)) hx hb dX7_mend_41 (by decide) ?_
        refine lv_ldc (v := (1000000 : Int32)) hx hb hown hw_3 dX7_mend_42 ?_
        refine x_aftv (va_runV (As := [.ref (ad 16), .ref (ad 20), .int (1 : Int32), .int (0 : Int32), .int (1000000 : Int32)]) (rest := []) ⟨hx, hb, hml, hown, hts⟩ (c_X4_walk l g ad H.size V4 16 20 (1 : Int32) (0 : Int32) (1000000 : Int32) (by decide) (by decide) _ hw) (cwV 5 hts gX7_mend_X4_walk rfl rfl rfl (by decide +kernel) ⟨Nat.le_of_ble_eq_true rfl, Nat.le_of_ble_eq_true rfl⟩) (x_preV (k := 10) hK hE hI (by decide) (cX_4 (by decide)) rfl) rfl rfl hl.1 rfl (lv_room (Nat.le_of_ble_eq_true rfl)) dX7_mend_44 ⟨Nat.zero_le _, Nat.zero_le _⟩) hI (fun V7 H locs hw hI => ?_)
        refine lv_aload_n hx hb dX7_mend_47 rfl (lv_at hl 0 rfl) ?_
        refine xg7_6 (k := 0) hx hb hts hin7 hown hK hI (by decide) hw_1 dX7_mend_48 ?_
        refine x_afti (va_runV (As := []) (rest := []) ⟨hx, hb, hml, hown, hts⟩ (c_X4_cost l g ad H.size V7  _ hw) (cwV 0 hts gX7_mend_X4_cost rfl rfl rfl (by decide +kernel) ⟨Nat.le_of_ble_eq_true rfl, Nat.le_of_ble_eq_true rfl⟩) (x_preV (k := 10) hK hE hI (by decide) (cX_4 (by decide)) rfl) rfl rfl hl.1 rfl (lv_room (Nat.le_of_ble_eq_true rfl)) dX7_mend_51 ⟨Nat.zero_le _, Nat.zero_le _⟩) hI (fun r9 V8 H locs hw hI => ?_)
        refine lv_istore_n (lv' := [(2, .int r9), (0, .ref (ad 0)), (1, .int x1)]) hx hb dX7_mend_54 rfl hl (by decide) rfl (fun ls hl => ?_)
        refine lv_iconst (v := (0 : Int32)) hx hb dX7_mend_55 (by decide) ?_
        refine lv_istore_n (lv' := [(3, .int (0 : Int32)), (2, .int r9), (0, .ref (ad 0)), (1, .int x1)]) hx hb dX7_mend_56 rfl hl (by decide) rfl (fun ls hl => ?_)
        refine lv_aload_n hx hb dX7_mend_57 rfl (lv_at hl 2 rfl) ?_
        refine xg7_2 (k := 0) hx hb hts hin7 hown hK hI (by decide) hw_0 dX7_mend_58 ?_
        refine xg3_3 (k := 16) hx hb hts hin3 hown hK hI (by decide) hw_2 dX7_mend_61 ?_
        refine xg2_0 (k := 20) hx hb hts hin2 hown hK hI (by decide) hw_4 dX7_mend_64 ?_
        refine lv_iconst (v := (1 : Int32)) hx hb dX7_mend_67 (by decide) ?_
        refine lv_iadd hx hb dX7_mend_68 ?_
        refine lv_istore (lv' := [(4, .int ((V8 20 0) + (1 : Int32))), (3, .int (0 : Int32)), (2, .int r9), (0, .ref (ad 0)), (1, .int x1)]) hx hb dX7_mend_69 hl (by decide) rfl (fun ls hl => ?_)
        obtain ⟨n71, hw⟩ := hw
        exact hL71 n71 V8 H locs ls x1 r9 (0 : Int32) ((V8 20 0) + (1 : Int32)) hI (lv_sub hl [3, 4, 2, 1, 0] rfl) hw
      · replace hw := hw.2 c6
        refine lv_ldc (v := (-1000001 : Int32)) hx hb hown hw_5 dX7_mend_22 ?_
        exact W.iret (v := (-1000001 : Int32)) hx hb hr (x_reti hI hw) hI.2.2.2.2 dX7_mend_24
    · replace hw := hw.2 c3
      refine lv_ldc (v := (-1000002 : Int32)) hx hb hown hw_6 dX7_mend_10 ?_
      exact W.iret (v := (-1000002 : Int32)) hx hb hr (x_reti hI hw) hI.2.2.2.2 dX7_mend_12
  exact hgo s.heap [] hI
def rm_X7_isHomeIf : Room := { frames := 4, cells := 0, slots := 0, locals := 81 }
set_option maxHeartbeats 4000000 in
set_option maxRecDepth 100000 in
theorem c_X7_isHomeIf (l : Launch) (g : GP) (ad : Nat → Nat) (sz : Nat) (V : VT) (x1 : Int32) (k2 : Nat) (x3 : Int32) (x4 : Int32) (hk2 : kX k2 = 5) (K : Int32 → VT → Prop) (hw : wp_X7_isHomeIf V x1 k2 x3 x4 K) : Met l yX7_isHomeIf wsX7_isHomeIf rm_X7_isHomeIf (va_Pc [.ref (ad 0), .int x1, .ref (ad k2), .int x3, .int x4] (WPre 76 (cX g ad) ad g V sz)) (va_Qi K (WPost 76 (cX g ad) ad g) (AW ad 76 sz)) 0 0 (AW ad 76 sz) := by
  refine Met.ofW (cc := cX7_isHomeIf) (maxL := 8) (ret := (some .boolean)) (by decide) rfl ?_
  intro p e s m args below meth c s₁ B hml hv
  obtain ⟨ha, hv⟩ := hv
  obtain rfl := hv.1
  have hI : WI g 76 (cX g ad) ad V s.heap s.heap [] := WI.start hv
  have hK := hv.2.2.1
  have hE := hv.2.2.2.2
  have hx := B.exec
  have hb := B.bytes
  have hr := B.returns
  have hts := atoms_spec (ws := wsX7_isHomeIf) B.pre
  have hown : s.vm.findClass RX7 = some m.cls := findClass_of_methodNamed B.named
  have hlocks := B.notSynchronized
  have hw_0 := hts (.fieldLink RX7 60 "HoopLane" "trial" "LHoopLane$Hoop;") (by decide +kernel)
  have hw_1 := hts (.fieldLink RX7 22 "HoopLane" "lane" "LHoopLane$Lane;") (by decide +kernel)
  have hw_2 := hts (.fieldLink RX7 147 "HoopLane$Lane" "hoop" "LHoopLane$Hoop;") (by decide +kernel)
  have hw_3 := hts (.fieldLink RX7 150 "HoopLane$Hoop" "end" "I") (by decide +kernel)
  have hw_4 := hts (.fieldLink RX7 99 "HoopLane$Row" "items" "[I") (by decide +kernel)
  have hin7 : ∀ w ∈ wsX70, w ∈ wsX7_isHomeIf := by decide +kernel
  have hin3 : ∀ w ∈ wsX30, w ∈ wsX7_isHomeIf := by decide +kernel
  have hin2 : ∀ w ∈ wsX20, w ∈ wsX7_isHomeIf := by decide +kernel
  have hin5 : ∀ w ∈ wsX50, w ∈ wsX7_isHomeIf := by decide +kernel
  have hl := lv_entry ([.ref (ad 0), .int x1, .ref (ad k2), .int x3, .int x4]) (n := 8) (Nat.le_of_ble_eq_true rfl)
  have hent : entryFrame m args 8 = F0 m 0 ((lg_sl ([.ref (ad 0), .int x1, .ref (ad k2), .int x3, .int x4]) ++ List.replicate (8 - (lg_sl ([.ref (ad 0), .int x1, .ref (ad k2), .int x3, .int x4])).length) Slot.unset).toArray) [] := by rw [ha, lg_entry_eq]
  rw [hent]
  generalize (lg_sl ([.ref (ad 0), .int x1, .ref (ad k2), .int x3, .int x4]) ++ List.replicate (8 - (lg_sl ([.ref (ad 0), .int x1, .ref (ad k2), .int x3, .int x4])).length) Slot.unset).toArray = ls at hl ⊢
  have hl : lv_has ls 8 [(0, .ref (ad 0)), (1, .int x1), (2, .ref (ad k2)), (3, .int x3), (4, .int x4)] := hl
  obtain ⟨H, hH⟩ : ∃ H : Heap, H = s.heap := ⟨_, rfl⟩
  have hb109 : ∀ (V : VT) (H : Heap) (locs : List Loc) (ls : Array Slot) , WI g 76 (cX g ad) ad V s.heap H locs → lv_has ls 8 [(0, .ref (ad 0))] → wp_X7_isHomeIf_b109 K  V  → W p l e (headSpec wsX7_isHomeIf rm_X7_isHomeIf).room s m args below meth c H locs 0 0 (MQ below (va_Qi K (WPost 76 (cX g ad) ad g) (AW ad 76 s.heap.size)) args s 0 0 (AW ad 76 s.heap.size)) (F0 m 109 ls []) := by
    intro V H locs ls   hI hl hw
    refine lv_aload_n hx hb dX7_isHomeIf_109 rfl (lv_at hl 0 rfl) ?_
    refine xg7_8 (k := 0) hx hb hts hin7 hown hK hI (by decide) hw_0 dX7_isHomeIf_110 ?_
    refine xg2_3 (k := 15) hx hb hts hin2 hown hK hI (by decide) hw_3 dX7_isHomeIf_113 ?_
    refine lv_iconst (v := (2 : Int32)) hx hb dX7_isHomeIf_116 (by decide) ?_
    refine lv_icmp_ne (tgt := 124) hx hb dX7_isHomeIf_117 (by decide) (fun c7 => ?_) (fun c7 => ?_)
    · replace hw := hw.1 c7
      refine lv_iconst (v := (0 : Int32)) hx hb dX7_isHomeIf_124 (by decide) ?_
      exact W.zret (v := (0 : Int32)) hx hb hr rfl (x_reti hI hw) hI.2.2.2.2 dX7_isHomeIf_125
    · replace hw := hw.2 c7
      refine lv_iconst (v := (1 : Int32)) hx hb dX7_isHomeIf_120 (by decide) ?_
      refine lv_goto (tgt := 125) hx hb dX7_isHomeIf_121 (by decide) ?_
      exact W.zret (v := (1 : Int32)) hx hb hr rfl (x_reti hI hw) hI.2.2.2.2 dX7_isHomeIf_125
  have hL20 : ∀ (n20 : Nat) (V : VT) (H : Heap) (locs : List Loc) (ls : Array Slot) (x1 : Int32) (k2 : Nat) (x3 : Int32) (x4 : Int32) (x5 : Int32) (x6 : Int32), kX k2 = 5 → WI g 76 (cX g ad) ad V s.heap H locs → lv_has ls 8 [(0, .ref (ad 0)), (1, .int x1), (2, .ref (ad k2)), (3, .int x3), (4, .int x4), (5, .int x5), (6, .int x6)] → wp_X7_isHomeIf_L20 K  n20 V x1 k2 x3 x4 x5 x6 → W p l e (headSpec wsX7_isHomeIf rm_X7_isHomeIf).room s m args below meth c H locs 0 0 (MQ below (va_Qi K (WPost 76 (cX g ad) ad g) (AW ad 76 s.heap.size)) args s 0 0 (AW ad 76 s.heap.size)) (F0 m 20 ls []) := by
    intro n20
    induction n20 with
    | zero => intro V H locs ls x1 k2 x3 x4 x5 x6 hk2 hI hl hw; exact False.elim hw
    | succ n20 ihL20 =>
      have hb74 : ∀ (V : VT) (H : Heap) (locs : List Loc) (ls : Array Slot) (x1 : Int32) (k2 : Nat) (x3 : Int32) (x4 : Int32) (x5 : Int32) (x6 : Int32) (x7 : Int32), kX k2 = 5 → WI g 76 (cX g ad) ad V s.heap H locs → lv_has ls 8 [(0, .ref (ad 0)), (1, .int x1), (2, .ref (ad k2)), (3, .int x3), (4, .int x4), (5, .int x5), (6, .int x6), (7, .int x7)] → wp_X7_isHomeIf_b74 K (wp_X7_isHomeIf_L20 K  n20) V x1 k2 x3 x4 x5 x6 x7 → W p l e (headSpec wsX7_isHomeIf rm_X7_isHomeIf).room s m args below meth c H locs 0 0 (MQ below (va_Qi K (WPost 76 (cX g ad) ad g) (AW ad 76 s.heap.size)) args s 0 0 (AW ad 76 s.heap.size)) (F0 m 74 ls []) := by
        intro V H locs ls x1 k2 x3 x4 x5 x6 x7 hk2 hI hl hw
        refine lv_aload_n hx hb dX7_isHomeIf_74 rfl (lv_at hl 0 rfl) ?_
        refine xg7_8 (k := 0) hx hb hts hin7 hown hK hI (by decide) hw_0 dX7_isHomeIf_75 ?_
        refine lv_aload_n hx hb dX7_isHomeIf_78 rfl (lv_at hl 0 rfl) ?_
        refine xg7_2 (k := 0) hx hb hts hin7 hown hK hI (by decide) hw_1 dX7_isHomeIf_79 ?_
        refine lv_aload_n hx hb dX7_isHomeIf_82 rfl (lv_at hl 0 rfl) ?_
        refine xg7_2 (k := 0) hx hb hts hin7 hown hK hI (by decide) hw_1 dX7_isHomeIf_83 ?_
        refine lv_iload hx hb dX7_isHomeIf_86 (lv_at hl 7 rfl) ?_
        refine x_afti (va_runV (As := [.int x7]) (rest := [.ref (ad 16), .ref (ad 15)]) ⟨hx, hb, hml, hown, hts⟩ (c_X3_kindAt l g ad H.size V 16 x7 (by decide) _ hw) (cwV 1 hts gX7_isHomeIf_X3_kindAt rfl rfl rfl (by decide +kernel) ⟨Nat.le_of_ble_eq_true rfl, Nat.le_of_ble_eq_true rfl⟩) (x_preV (k := 16) hK hE hI (by decide) (cX_3 (by decide)) rfl) rfl rfl hl.1 rfl (lv_room (Nat.le_of_ble_eq_true rfl)) dX7_isHomeIf_88 ⟨Nat.zero_le _, Nat.zero_le _⟩) hI (fun r9 V8 H locs hw hI => ?_)
        refine lv_aload_n hx hb dX7_isHomeIf_91 rfl (lv_at hl 0 rfl) ?_
        refine xg7_2 (k := 0) hx hb hts hin7 hown hK hI (by decide) hw_1 dX7_isHomeIf_92 ?_
        refine lv_iload hx hb dX7_isHomeIf_95 (lv_at hl 7 rfl) ?_
        refine x_afti (va_runV (As := [.int x7]) (rest := [.int r9, .ref (ad 16), .ref (ad 15)]) ⟨hx, hb, hml, hown, hts⟩ (c_X3_forceAt l g ad H.size V8 16 x7 (by decide) _ hw) (cwV 1 hts gX7_isHomeIf_X3_forceAt rfl rfl rfl (by decide +kernel) ⟨Nat.le_of_ble_eq_true rfl, Nat.le_of_ble_eq_true rfl⟩) (x_preV (k := 16) hK hE hI (by decide) (cX_3 (by decide)) rfl) rfl rfl hl.1 rfl (lv_room (Nat.le_of_ble_eq_true rfl)) dX7_isHomeIf_97 ⟨Nat.zero_le _, Nat.zero_le _⟩) hI (fun r11 V10 H locs hw hI => ?_)
        refine x_aftv (va_runV (As := [.ref (ad 16), .int r9, .int r11]) (rest := []) ⟨hx, hb, hml, hown, hts⟩ (c_X2_pass l g ad H.size V10 15 16 r9 r11 (by decide) (by decide) _ hw) (cwV 3 hts gX7_isHomeIf_X2_pass rfl rfl rfl (by decide +kernel) ⟨Nat.le_of_ble_eq_true rfl, Nat.le_of_ble_eq_true rfl⟩) (x_preV (k := 15) hK hE hI (by decide) (cX_2 (by decide)) rfl) rfl rfl hl.1 rfl (lv_room (Nat.le_of_ble_eq_true rfl)) dX7_isHomeIf_100 ⟨Nat.zero_le _, Nat.zero_le _⟩) hI (fun V12 H locs hw hI => ?_)
        refine lv_iinc (v := (x6 + (1 : Int32))) (lv' := [(6, .int (x6 + (1 : Int32))), (0, .ref (ad 0)), (1, .int x1), (2, .ref (ad k2)), (3, .int x3), (4, .int x4), (5, .int x5), (7, .int x7)]) hx hb dX7_isHomeIf_103 hl (k := 6) rfl rfl (by decide) rfl (fun ls hl => ?_)
        refine lv_goto (tgt := 20) hx hb dX7_isHomeIf_106 (by decide) ?_
        exact ihL20 V12 H locs ls x1 k2 x3 x4 x5 (x6 + (1 : Int32)) hk2 hI (lv_sub hl [1, 2, 3, 4, 5, 6, 0] rfl) hw
      have hb69 : ∀ (V : VT) (H : Heap) (locs : List Loc) (ls : Array Slot) (x1 : Int32) (k2 : Nat) (x3 : Int32) (x4 : Int32) (x5 : Int32) (x6 : Int32) (s0 : Int32), kX k2 = 5 → WI g 76 (cX g ad) ad V s.heap H locs → lv_has ls 8 [(0, .ref (ad 0)), (1, .int x1), (2, .ref (ad k2)), (3, .int x3), (4, .int x4), (5, .int x5), (6, .int x6)] → wp_X7_isHomeIf_b69 K (wp_X7_isHomeIf_L20 K  n20) V x1 k2 x3 x4 x5 x6 s0 → W p l e (headSpec wsX7_isHomeIf rm_X7_isHomeIf).room s m args below meth c H locs 0 0 (MQ below (va_Qi K (WPost 76 (cX g ad) ad g) (AW ad 76 s.heap.size)) args s 0 0 (AW ad 76 s.heap.size)) (F0 m 69 ls [.int s0]) := by
        intro V H locs ls x1 k2 x3 x4 x5 x6 s0 hk2 hI hl hw
        refine lv_istore (lv' := [(7, .int s0), (0, .ref (ad 0)), (1, .int x1), (2, .ref (ad k2)), (3, .int x3), (4, .int x4), (5, .int x5), (6, .int x6)]) hx hb dX7_isHomeIf_69 hl (by decide) rfl (fun ls hl => ?_)
        refine lv_iinc (v := (x5 + (1 : Int32))) (lv' := [(5, .int (x5 + (1 : Int32))), (7, .int s0), (0, .ref (ad 0)), (1, .int x1), (2, .ref (ad k2)), (3, .int x3), (4, .int x4), (6, .int x6)]) hx hb dX7_isHomeIf_71 hl (k := 6) rfl rfl (by decide) rfl (fun ls hl => ?_)
        exact hb74 V H locs ls x1 k2 x3 x4 (x5 + (1 : Int32)) x6 s0 hk2 hI (lv_sub hl [2, 3, 4, 5, 6, 0, 7, 1] rfl) hw
      intro V H locs ls x1 k2 x3 x4 x5 x6 hk2 hI hl hw
      refine lv_iload hx hb dX7_isHomeIf_20 (lv_at hl 6 rfl) ?_
      refine lv_iload hx hb dX7_isHomeIf_22 (lv_at hl 4 rfl) ?_
      refine lv_icmp_ge (tgt := 109) hx hb dX7_isHomeIf_24 (by decide) (fun c2 => ?_) (fun c2 => ?_)
      · replace hw := hw.1 c2
        exact hb109 V H locs ls  hI (lv_sub hl [0] rfl) hw
      · replace hw := hw.2 c2
        refine lv_aload_n hx hb dX7_isHomeIf_27 rfl (lv_at hl 0 rfl) ?_
        refine xg7_8 (k := 0) hx hb hts hin7 hown hK hI (by decide) hw_0 dX7_isHomeIf_28 ?_
        refine xg2_3 (k := 15) hx hb hts hin2 hown hK hI (by decide) hw_3 dX7_isHomeIf_31 ?_
        refine lv_if_ne (tgt := 109) hx hb dX7_isHomeIf_34 (by decide) (fun c3 => ?_) (fun c3 => ?_)
        · replace hw := hw.1 c3
          exact hb109 V H locs ls  hI (lv_sub hl [0] rfl) hw
        · replace hw := hw.2 c3
          refine lv_aload_n hx hb dX7_isHomeIf_37 rfl (lv_at hl 2 rfl) ?_
          refine xg5_0 (k := k2) hx hb hts hin5 hown hK hI hk2 hw_4 dX7_isHomeIf_38 ?_
          refine lv_iload_n hx hb dX7_isHomeIf_41 rfl (lv_at hl 3 rfl) ?_
          refine lv_iload hx hb dX7_isHomeIf_42 (lv_at hl 6 rfl) ?_
          refine lv_iadd hx hb dX7_isHomeIf_44 ?_
          obtain ⟨h4, hw⟩ := hw
          refine x_iald (k := k2 + 1) hx hb hK hI (kX_lt (kX_5s hk2).1 (by decide)) (cX_9 (kX_5s hk2).1 (kX_5s hk2).2) h4 dX7_isHomeIf_45 ?_
          refine lv_istore (lv' := [(7, .int (V (k2 + 1) ((x3 + x6)).toNatClampNeg)), (0, .ref (ad 0)), (1, .int x1), (2, .ref (ad k2)), (3, .int x3), (4, .int x4), (5, .int x5), (6, .int x6)]) hx hb dX7_isHomeIf_46 hl (by decide) rfl (fun ls hl => ?_)
          refine lv_iload hx hb dX7_isHomeIf_48 (lv_at hl 0 rfl) ?_
          refine lv_if_lt (tgt := 74) hx hb dX7_isHomeIf_50 (by decide) (fun c5 => ?_) (fun c5 => ?_)
          · replace hw := hw.1 c5
            exact hb74 V H locs ls x1 k2 x3 x4 x5 x6 (V (k2 + 1) ((x3 + x6)).toNatClampNeg) hk2 hI (lv_sub hl [1, 2, 3, 4, 5, 6, 7, 0] rfl) hw
          · replace hw := hw.2 c5
            refine lv_iload_n hx hb dX7_isHomeIf_53 rfl (lv_at hl 2 rfl) ?_
            refine lv_iload hx hb dX7_isHomeIf_54 (lv_at hl 6 rfl) ?_
            refine lv_ishr hx hb dX7_isHomeIf_56 ?_
            refine lv_iconst (v := (1 : Int32)) hx hb dX7_isHomeIf_57 (by decide) ?_
            refine lv_iand hx hb dX7_isHomeIf_58 ?_
            refine lv_iconst (v := (1 : Int32)) hx hb dX7_isHomeIf_59 (by decide) ?_
            refine lv_icmp_ne (tgt := 67) hx hb dX7_isHomeIf_60 (by decide) (fun c6 => ?_) (fun c6 => ?_)
            · replace hw := hw.1 c6
              refine lv_iload hx hb dX7_isHomeIf_67 (lv_at hl 0 rfl) ?_
              exact hb69 V H locs ls x1 k2 x3 x4 x5 x6 (V (k2 + 1) ((x3 + x6)).toNatClampNeg) hk2 hI (lv_sub hl [1, 2, 3, 4, 5, 6, 7] rfl) hw
            · replace hw := hw.2 c6
              refine lv_iconst (v := (-1 : Int32)) hx hb dX7_isHomeIf_63 (by decide) ?_
              refine lv_goto (tgt := 69) hx hb dX7_isHomeIf_64 (by decide) ?_
              exact hb69 V H locs ls x1 k2 x3 x4 x5 x6 (-1 : Int32) hk2 hI (lv_sub hl [1, 2, 3, 4, 5, 6, 7] rfl) hw
  have hgo : ∀ (H : Heap) (locs : List Loc), WI g 76 (cX g ad) ad V s.heap H locs → W p l e (headSpec wsX7_isHomeIf rm_X7_isHomeIf).room s m args below meth c H locs 0 0 (MQ below (va_Qi K (WPost 76 (cX g ad) ad g) (AW ad 76 s.heap.size)) args s 0 0 (AW ad 76 s.heap.size)) (F0 m 0 ls []) := by
    intro H locs hI
    refine lv_aload_n hx hb dX7_isHomeIf_0 rfl (lv_at hl 0 rfl) ?_
    refine xg7_8 (k := 0) hx hb hts hin7 hown hK hI (by decide) hw_0 dX7_isHomeIf_1 ?_
    refine lv_aload_n hx hb dX7_isHomeIf_4 rfl (lv_at hl 0 rfl) ?_
    refine xg7_2 (k := 0) hx hb hts hin7 hown hK hI (by decide) hw_1 dX7_isHomeIf_5 ?_
    refine xg3_3 (k := 16) hx hb hts hin3 hown hK hI (by decide) hw_2 dX7_isHomeIf_8 ?_
    refine x_aftv (va_runV (As := [.ref (ad 20)]) (rest := []) ⟨hx, hb, hml, hown, hts⟩ (c_X2_be l g ad H.size V 15 20 (by decide) (by decide) _ hw) (cwV 1 hts gX7_isHomeIf_X2_be rfl rfl rfl (by decide +kernel) ⟨Nat.le_of_ble_eq_true rfl, Nat.le_of_ble_eq_true rfl⟩) (x_preV (k := 15) hK hE hI (by decide) (cX_2 (by decide)) rfl) rfl rfl hl.1 rfl (lv_room (Nat.le_of_ble_eq_true rfl)) dX7_isHomeIf_11 ⟨Nat.zero_le _, Nat.zero_le _⟩) hI (fun V1 H locs hw hI => ?_)
    refine lv_iconst (v := (0 : Int32)) hx hb dX7_isHomeIf_14 (by decide) ?_
    refine lv_istore (lv' := [(5, .int (0 : Int32)), (0, .ref (ad 0)), (1, .int x1), (2, .ref (ad k2)), (3, .int x3), (4, .int x4)]) hx hb dX7_isHomeIf_15 hl (by decide) rfl (fun ls hl => ?_)
    refine lv_iconst (v := (0 : Int32)) hx hb dX7_isHomeIf_17 (by decide) ?_
    refine lv_istore (lv' := [(6, .int (0 : Int32)), (5, .int (0 : Int32)), (0, .ref (ad 0)), (1, .int x1), (2, .ref (ad k2)), (3, .int x3), (4, .int x4)]) hx hb dX7_isHomeIf_18 hl (by decide) rfl (fun ls hl => ?_)
    obtain ⟨n20, hw⟩ := hw
    exact hL20 n20 V1 H locs ls x1 k2 x3 x4 (0 : Int32) (0 : Int32) hk2 hI (lv_sub hl [2, 3, 4, 5, 6, 1, 0] rfl) hw
  exact hgo s.heap [] hI
