def rm_X8_who : Room := { frames := 4, cells := 0, slots := 0, locals := 92 }
set_option maxHeartbeats 4000000 in
set_option maxRecDepth 100000 in
theorem c_X8_who (l : Launch) (g : GP) (ad : Nat → Nat) (sz : Nat) (V : VT) (x1 : Int32) (x2 : Int32) (x3 : Int32) (x4 : Int32)  (K : Int32 → VT → Prop) (hw : wp_X8_who V x1 x2 x3 x4 K) : Met l yX8_who wsX8_who rm_X8_who (va_Pc [.ref (ad 0), .int x1, .int x2, .int x3, .int x4] (WPre 13 (cM g ad) ad g V sz)) (va_Qi K (WPost 13 (cM g ad) ad g) (AW ad 13 sz)) 0 0 (AW ad 13 sz) := by
  refine Met.ofW (cc := cX8_who) (maxL := 8) (ret := (some .int)) (by decide) rfl ?_
  intro p e s m args below meth c s₁ B hml hv
  obtain ⟨ha, hv⟩ := hv
  obtain rfl := hv.1
  have hI : WI g 13 (cM g ad) ad V s.heap s.heap [] := WI.start hv
  have hK := hv.2.2.1
  have hE := hv.2.2.2.2
  have hx := B.exec
  have hb := B.bytes
  have hr := B.returns
  have hts := atoms_spec (ws := wsX8_who) B.pre
  have hown : s.vm.findClass RX8 = some m.cls := findClass_of_methodNamed B.named
  have hlocks := B.notSynchronized
  have hw_0 := hts (.constant RX8 64 (-1000001)) (by decide +kernel)
  have hw_1 := hts (.constantLong RX8 254 (8)) (by decide +kernel)
  have hw_2 := hts (.fieldLink RX8 159 "HoopLaneModel" "end" "I") (by decide +kernel)
  have hw_3 := hts (.constant RX8 184 (-1000002)) (by decide +kernel)
  have hin8 : ∀ w ∈ wsX80, w ∈ wsX8_who := by decide +kernel
  have hl := lv_entry ([.ref (ad 0), .int x1, .int x2, .int x3, .int x4]) (n := 8) (Nat.le_of_ble_eq_true rfl)
  have hent : entryFrame m args 8 = F0 m 0 ((lg_sl ([.ref (ad 0), .int x1, .int x2, .int x3, .int x4]) ++ List.replicate (8 - (lg_sl ([.ref (ad 0), .int x1, .int x2, .int x3, .int x4])).length) Slot.unset).toArray) [] := by rw [ha, lg_entry_eq]
  rw [hent]
  generalize (lg_sl ([.ref (ad 0), .int x1, .int x2, .int x3, .int x4]) ++ List.replicate (8 - (lg_sl ([.ref (ad 0), .int x1, .int x2, .int x3, .int x4])).length) Slot.unset).toArray = ls at hl ⊢
  have hl : lv_has ls 8 [(0, .ref (ad 0)), (1, .int x1), (2, .int x2), (3, .int x3), (4, .int x4)] := hl
  obtain ⟨H, hH⟩ : ∃ H : Heap, H = s.heap := ⟨_, rfl⟩
  have hL73 : ∀ (n73 : Nat) (V : VT) (H : Heap) (locs : List Loc) (ls : Array Slot) (x1 : Int32) (x2 : Int32) (x3 : Int32) (x4 : Int32) (x6 : Int32) (x7 : Int32), WI g 13 (cM g ad) ad V s.heap H locs → lv_has ls 8 [(0, .ref (ad 0)), (1, .int x1), (2, .int x2), (3, .int x3), (4, .int x4), (6, .int x6), (7, .int x7)] → wp_X8_who_L73 K  n73 V x1 x2 x3 x4 x6 x7 → W p l e (headSpec wsX8_who rm_X8_who).room s m args below meth c H locs 0 0 (MQ below (va_Qi K (WPost 13 (cM g ad) ad g) (AW ad 13 s.heap.size)) args s 0 0 (AW ad 13 s.heap.size)) (F0 m 73 ls []) := by
    intro n73
    induction n73 with
    | zero => intro V H locs ls x1 x2 x3 x4 x6 x7  hI hl hw; exact False.elim hw
    | succ n73 ihL73 =>
      have hb112 : ∀ (V : VT) (H : Heap) (locs : List Loc) (ls : Array Slot) (x1 : Int32) (x2 : Int32) (x3 : Int32) (x4 : Int32) (x7 : Int32) (s0 : Int32) (s1 : Int32), WI g 13 (cM g ad) ad V s.heap H locs → lv_has ls 8 [(0, .ref (ad 0)), (1, .int x1), (2, .int x2), (3, .int x3), (4, .int x4), (7, .int x7)] → wp_X8_who_b112 K (wp_X8_who_L73 K  n73) V x1 x2 x3 x4 x7 s0 s1 → W p l e (headSpec wsX8_who rm_X8_who).room s m args below meth c H locs 0 0 (MQ below (va_Qi K (WPost 13 (cM g ad) ad g) (AW ad 13 s.heap.size)) args s 0 0 (AW ad 13 s.heap.size)) (F0 m 112 ls [.int s1, .int s0]) := by
        intro V H locs ls x1 x2 x3 x4 x7 s0 s1  hI hl hw
        refine lv_ior hx hb dX8_who_112 ?_
        refine lv_istore (lv' := [(6, .int (s0 ||| s1)), (0, .ref (ad 0)), (1, .int x1), (2, .int x2), (3, .int x3), (4, .int x4), (7, .int x7)]) hx hb dX8_who_113 hl (by decide) rfl (fun ls hl => ?_)
        refine lv_aload_n hx hb dX8_who_115 rfl (lv_at hl 1 rfl) ?_
        refine x_aftv (va_runV (As := []) (rest := []) ⟨hx, hb, hml, hown, hts⟩ (c_X8_backs l g ad H.size V  _ hw) (cwV 0 hts gX8_who_X8_backs rfl rfl rfl (by decide +kernel) ⟨Nat.le_of_ble_eq_true rfl, Nat.le_of_ble_eq_true rfl⟩) (x_preV (k := 0) hK hE hI (by decide) rfl rfl) rfl rfl hl.1 rfl (lv_room (Nat.le_of_ble_eq_true rfl)) dX8_who_116 ⟨Nat.zero_le _, Nat.zero_le _⟩) hI (fun V25 H locs hw hI => ?_)
        refine lv_iinc (v := (x7 + (1 : Int32))) (lv' := [(7, .int (x7 + (1 : Int32))), (6, .int (s0 ||| s1)), (0, .ref (ad 0)), (1, .int x1), (2, .int x2), (3, .int x3), (4, .int x4)]) hx hb dX8_who_119 hl (k := 6) rfl rfl (by decide) rfl (fun ls hl => ?_)
        refine lv_goto (tgt := 73) hx hb dX8_who_122 (by decide) ?_
        exact ihL73 V25 H locs ls x1 x2 x3 x4 (s0 ||| s1) (x7 + (1 : Int32)) hI (lv_sub hl [2, 3, 4, 5, 6, 1, 0] rfl) hw
      intro V H locs ls x1 x2 x3 x4 x6 x7  hI hl hw
      refine lv_iload hx hb dX8_who_73 (lv_at hl 6 rfl) ?_
      refine lv_bipush (v := (6 : Int32)) hx hb dX8_who_75 (by decide) ?_
      refine lv_icmp_ge (tgt := 125) hx hb dX8_who_77 (by decide) (fun c17 => ?_) (fun c17 => ?_)
      · replace hw := hw.1 c17
        refine lv_aload_n hx hb dX8_who_125 rfl (lv_at hl 0 rfl) ?_
        refine lv_iload hx hb dX8_who_126 (lv_at hl 5 rfl) ?_
        refine x_afti (va_runV (As := [.int x6]) (rest := []) ⟨hx, hb, hml, hown, hts⟩ (c_X8_well l g ad H.size V x6 _ hw) (cwV 1 hts gX8_who_X8_well rfl rfl rfl (by decide +kernel) ⟨Nat.le_of_ble_eq_true rfl, Nat.le_of_ble_eq_true rfl⟩) (x_preV (k := 0) hK hE hI (by decide) rfl rfl) rfl rfl hl.1 rfl (lv_room (Nat.le_of_ble_eq_true rfl)) dX8_who_128 ⟨Nat.zero_le _, Nat.zero_le _⟩) hI (fun r19 V18 H locs hw hI => ?_)
        exact W.iret (v := r19) hx hb hr (x_reti hI hw) hI.2.2.2.2 dX8_who_131
      · replace hw := hw.2 c17
        refine lv_iload hx hb dX8_who_80 (lv_at hl 5 rfl) ?_
        refine lv_aload_n hx hb dX8_who_82 rfl (lv_at hl 0 rfl) ?_
        refine lv_bipush (v := (40 : Int32)) hx hb dX8_who_83 (by decide) ?_
        refine lv_iload_n hx hb dX8_who_85 rfl (lv_at hl 2 rfl) ?_
        refine lv_imul hx hb dX8_who_86 ?_
        refine lv_iload_n hx hb dX8_who_87 rfl (lv_at hl 3 rfl) ?_
        refine lv_iadd hx hb dX8_who_88 ?_
        refine lv_iload hx hb dX8_who_89 (lv_at hl 4 rfl) ?_
        refine lv_iload hx hb dX8_who_91 (lv_at hl 6 rfl) ?_
        refine lv_aload_n hx hb dX8_who_93 rfl (lv_at hl 0 rfl) ?_
        refine lv_iload_n hx hb dX8_who_94 rfl (lv_at hl 1 rfl) ?_
        refine x_afti (va_runV (As := [.int x1]) (rest := [.int x7, .int x4, .int (((40 : Int32) * x2) + x3), .ref (ad 0), .int x6]) ⟨hx, hb, hml, hown, hts⟩ (c_X8_forceAt l g ad H.size V x1 _ hw) (cwV 1 hts gX8_who_X8_forceAt rfl rfl rfl (by decide +kernel) ⟨Nat.le_of_ble_eq_true rfl, Nat.le_of_ble_eq_true rfl⟩) (x_preV (k := 0) hK hE hI (by decide) rfl rfl) rfl rfl hl.1 rfl (lv_room (Nat.le_of_ble_eq_true rfl)) dX8_who_95 ⟨Nat.zero_le _, Nat.zero_le _⟩) hI (fun r21 V20 H locs hw hI => ?_)
        refine x_afti (va_runV (As := [.int (((40 : Int32) * x2) + x3), .int x4, .int x7, .int r21]) (rest := [.int x6]) ⟨hx, hb, hml, hown, hts⟩ (c_X8_isSeen l g ad H.size V20 (((40 : Int32) * x2) + x3) x4 x7 r21 _ hw) (cwV 4 hts gX8_who_X8_isSeen rfl rfl rfl (by decide +kernel) ⟨Nat.le_of_ble_eq_true rfl, Nat.le_of_ble_eq_true rfl⟩) (x_preV (k := 0) hK hE hI (by decide) rfl rfl) rfl rfl hl.1 rfl (lv_room (Nat.le_of_ble_eq_true rfl)) dX8_who_98 ⟨Nat.zero_le _, Nat.zero_le _⟩) hI (fun r23 V22 H locs hw hI => ?_)
        refine lv_if_eq (tgt := 111) hx hb dX8_who_101 (by decide) (fun c24 => ?_) (fun c24 => ?_)
        · replace hw := hw.1 c24
          refine lv_iconst (v := (0 : Int32)) hx hb dX8_who_111 (by decide) ?_
          exact hb112 V22 H locs ls x1 x2 x3 x4 x7 x6 (0 : Int32) hI (lv_sub hl [0, 1, 2, 3, 4, 6] rfl) hw
        · replace hw := hw.2 c24
          refine lv_iconst (v := (1 : Int32)) hx hb dX8_who_104 (by decide) ?_
          refine lv_iload hx hb dX8_who_105 (lv_at hl 6 rfl) ?_
          refine lv_ishl hx hb dX8_who_107 ?_
          refine lv_goto (tgt := 112) hx hb dX8_who_108 (by decide) ?_
          exact hb112 V22 H locs ls x1 x2 x3 x4 x7 x6 ((1 : Int32) <<< (x7 &&& (31 : Int32))) hI (lv_sub hl [0, 1, 2, 3, 4, 6] rfl) hw
  have hgo : ∀ (H : Heap) (locs : List Loc), WI g 13 (cM g ad) ad V s.heap H locs → W p l e (headSpec wsX8_who rm_X8_who).room s m args below meth c H locs 0 0 (MQ below (va_Qi K (WPost 13 (cM g ad) ad g) (AW ad 13 s.heap.size)) args s 0 0 (AW ad 13 s.heap.size)) (F0 m 0 ls []) := by
    intro H locs hI
    refine lv_aload_n hx hb dX8_who_0 rfl (lv_at hl 0 rfl) ?_
    refine lv_iload_n hx hb dX8_who_1 rfl (lv_at hl 1 rfl) ?_
    refine x_afti (va_runV (As := [.int x1]) (rest := []) ⟨hx, hb, hml, hown, hts⟩ (c_X8_isTap l g ad H.size V x1 _ hw) (cwV 1 hts gX8_who_X8_isTap rfl rfl rfl (by decide +kernel) ⟨Nat.le_of_ble_eq_true rfl, Nat.le_of_ble_eq_true rfl⟩) (x_preV (k := 0) hK hE hI (by decide) rfl rfl) rfl rfl hl.1 rfl (lv_room (Nat.le_of_ble_eq_true rfl)) dX8_who_2 ⟨Nat.zero_le _, Nat.zero_le _⟩) hI (fun r2 V1 H locs hw hI => ?_)
    refine lv_if_eq (tgt := 28) hx hb dX8_who_5 (by decide) (fun c3 => ?_) (fun c3 => ?_)
    · replace hw := hw.1 c3
      refine lv_ldc (v := (-1000001 : Int32)) hx hb hown hw_0 dX8_who_28 ?_
      exact W.iret (v := (-1000001 : Int32)) hx hb hr (x_reti hI hw) hI.2.2.2.2 dX8_who_30
    · replace hw := hw.2 c3
      refine lv_iload_n hx hb dX8_who_8 rfl (lv_at hl 2 rfl) ?_
      refine x_afti (va_runS (As := [.int x2]) (rest := []) ⟨hx, hb, hml, hown, hts⟩ (c_X8_isRow l g ad H.size V1 x2 _ hw) (cwS 1 hts gX8_who_X8_isRow rfl rfl rfl (by decide +kernel) ⟨Nat.le_of_ble_eq_true rfl, Nat.le_of_ble_eq_true rfl⟩) (x_preS hK hE hI) rfl rfl hl.1 rfl (lv_room (Nat.le_of_ble_eq_true rfl)) dX8_who_9 ⟨Nat.zero_le _, Nat.zero_le _⟩) hI (fun r5 V4 H locs hw hI => ?_)
      refine lv_if_eq (tgt := 28) hx hb dX8_who_12 (by decide) (fun c6 => ?_) (fun c6 => ?_)
      · replace hw := hw.1 c6
        refine lv_ldc (v := (-1000001 : Int32)) hx hb hown hw_0 dX8_who_28 ?_
        exact W.iret (v := (-1000001 : Int32)) hx hb hr (x_reti hI hw) hI.2.2.2.2 dX8_who_30
      · replace hw := hw.2 c6
        refine lv_iload hx hb dX8_who_15 (lv_at hl 4 rfl) ?_
        refine lv_i2l (v := (x4).toInt64) hx hb dX8_who_17 rfl ?_
        refine lv_lconst (v := (1 : Int64)) hx hb dX8_who_18 (by decide) ?_
        refine lv_ldc2 (v := (8 : Int64)) hx hb hown hw_1 dX8_who_19 ?_
        refine x_afti (va_runS (As := [.long ((x4).toInt64), .long (1 : Int64), .long (8 : Int64)]) (rest := []) ⟨hx, hb, hml, hown, hts⟩ (c_X8_in l g ad H.size V4 ((x4).toInt64) (1 : Int64) (8 : Int64) _ hw) (cwS 3 hts gX8_who_X8_in rfl rfl rfl (by decide +kernel) ⟨Nat.le_of_ble_eq_true rfl, Nat.le_of_ble_eq_true rfl⟩) (x_preS hK hE hI) rfl rfl hl.1 rfl (lv_room (Nat.le_of_ble_eq_true rfl)) dX8_who_22 ⟨Nat.zero_le _, Nat.zero_le _⟩) hI (fun r8 V7 H locs hw hI => ?_)
        refine lv_if_ne (tgt := 31) hx hb dX8_who_25 (by decide) (fun c9 => ?_) (fun c9 => ?_)
        · replace hw := hw.1 c9
          refine lv_aload_n hx hb dX8_who_31 rfl (lv_at hl 0 rfl) ?_
          refine mg_19 hx hb hts hin8 hown hK hI hw_2 dX8_who_32 ?_
          refine lv_if_eq (tgt := 41) hx hb dX8_who_35 (by decide) (fun c10 => ?_) (fun c10 => ?_)
          · replace hw := hw.1 c10
            refine lv_aload_n hx hb dX8_who_41 rfl (lv_at hl 0 rfl) ?_
            refine lv_iload_n hx hb dX8_who_42 rfl (lv_at hl 2 rfl) ?_
            refine lv_iload_n hx hb dX8_who_43 rfl (lv_at hl 3 rfl) ?_
            refine lv_iload hx hb dX8_who_44 (lv_at hl 4 rfl) ?_
            refine x_afti (va_runV (As := [.int x2, .int x3, .int x4]) (rest := []) ⟨hx, hb, hml, hown, hts⟩ (c_X8_partOf l g ad H.size V7 x2 x3 x4 _ hw) (cwV 3 hts gX8_who_X8_partOf rfl rfl rfl (by decide +kernel) ⟨Nat.le_of_ble_eq_true rfl, Nat.le_of_ble_eq_true rfl⟩) (x_preV (k := 0) hK hE hI (by decide) rfl rfl) rfl rfl hl.1 rfl (lv_room (Nat.le_of_ble_eq_true rfl)) dX8_who_46 ⟨Nat.zero_le _, Nat.zero_le _⟩) hI (fun r12 V11 H locs hw hI => ?_)
            refine lv_istore (lv' := [(5, .int r12), (0, .ref (ad 0)), (1, .int x1), (2, .int x2), (3, .int x3), (4, .int x4)]) hx hb dX8_who_49 hl (by decide) rfl (fun ls hl => ?_)
            refine lv_iload hx hb dX8_who_51 (lv_at hl 0 rfl) ?_
            refine lv_if_le (tgt := 63) hx hb dX8_who_53 (by decide) (fun c13 => ?_) (fun c13 => ?_)
            · replace hw := hw.1 c13
              refine lv_aload_n hx hb dX8_who_63 rfl (lv_at hl 1 rfl) ?_
              refine x_aftv (va_runV (As := []) (rest := []) ⟨hx, hb, hml, hown, hts⟩ (c_X8_asides l g ad H.size V11  _ hw) (cwV 0 hts gX8_who_X8_asides rfl rfl rfl (by decide +kernel) ⟨Nat.le_of_ble_eq_true rfl, Nat.le_of_ble_eq_true rfl⟩) (x_preV (k := 0) hK hE hI (by decide) rfl rfl) rfl rfl hl.1 rfl (lv_room (Nat.le_of_ble_eq_true rfl)) dX8_who_64 ⟨Nat.zero_le _, Nat.zero_le _⟩) hI (fun V14 H locs hw hI => ?_)
              refine lv_iconst (v := (0 : Int32)) hx hb dX8_who_67 (by decide) ?_
              refine lv_istore (lv' := [(6, .int (0 : Int32)), (5, .int r12), (0, .ref (ad 0)), (1, .int x1), (2, .int x2), (3, .int x3), (4, .int x4)]) hx hb dX8_who_68 hl (by decide) rfl (fun ls hl => ?_)
              refine lv_iconst (v := (1 : Int32)) hx hb dX8_who_70 (by decide) ?_
              refine lv_istore (lv' := [(7, .int (1 : Int32)), (6, .int (0 : Int32)), (5, .int r12), (0, .ref (ad 0)), (1, .int x1), (2, .int x2), (3, .int x3), (4, .int x4)]) hx hb dX8_who_71 hl (by decide) rfl (fun ls hl => ?_)
              obtain ⟨n73, hw⟩ := hw
              exact hL73 n73 V14 H locs ls x1 x2 x3 x4 (0 : Int32) (1 : Int32) hI (lv_sub hl [3, 4, 5, 6, 7, 1, 0] rfl) hw
            · replace hw := hw.2 c13
              refine lv_aload_n hx hb dX8_who_56 rfl (lv_at hl 1 rfl) ?_
              refine lv_iload hx hb dX8_who_57 (lv_at hl 0 rfl) ?_
              refine x_afti (va_runV (As := [.int r12]) (rest := []) ⟨hx, hb, hml, hown, hts⟩ (c_X8_finds l g ad H.size V11 r12 _ hw) (cwV 1 hts gX8_who_X8_finds rfl rfl rfl (by decide +kernel) ⟨Nat.le_of_ble_eq_true rfl, Nat.le_of_ble_eq_true rfl⟩) (x_preV (k := 0) hK hE hI (by decide) rfl rfl) rfl rfl hl.1 rfl (lv_room (Nat.le_of_ble_eq_true rfl)) dX8_who_59 ⟨Nat.zero_le _, Nat.zero_le _⟩) hI (fun r16 V15 H locs hw hI => ?_)
              exact W.iret (v := r16) hx hb hr (x_reti hI hw) hI.2.2.2.2 dX8_who_62
          · replace hw := hw.2 c10
            refine lv_ldc (v := (-1000002 : Int32)) hx hb hown hw_3 dX8_who_38 ?_
            exact W.iret (v := (-1000002 : Int32)) hx hb hr (x_reti hI hw) hI.2.2.2.2 dX8_who_40
        · replace hw := hw.2 c9
          refine lv_ldc (v := (-1000001 : Int32)) hx hb hown hw_0 dX8_who_28 ?_
          exact W.iret (v := (-1000001 : Int32)) hx hb hr (x_reti hI hw) hI.2.2.2.2 dX8_who_30
  exact hgo s.heap [] hI
def rm_X8_falls : Room := { frames := 4, cells := 0, slots := 0, locals := 87 }
set_option maxHeartbeats 4000000 in
set_option maxRecDepth 100000 in
theorem c_X8_falls (l : Launch) (g : GP) (ad : Nat → Nat) (sz : Nat) (V : VT)   (K : Int32 → VT → Prop) (hw : wp_X8_falls V  K) : Met l yX8_falls wsX8_falls rm_X8_falls (va_Pc [.ref (ad 0)] (WPre 13 (cM g ad) ad g V sz)) (va_Qi K (WPost 13 (cM g ad) ad g) (AW ad 13 sz)) 0 0 (AW ad 13 sz) := by
  refine Met.ofW (cc := cX8_falls) (maxL := 4) (ret := (some .int)) (by decide) rfl ?_
  intro p e s m args below meth c s₁ B hml hv
  obtain ⟨ha, hv⟩ := hv
  obtain rfl := hv.1
  have hI : WI g 13 (cM g ad) ad V s.heap s.heap [] := WI.start hv
  have hK := hv.2.2.1
  have hE := hv.2.2.2.2
  have hx := B.exec
  have hb := B.bytes
  have hr := B.returns
  have hts := atoms_spec (ws := wsX8_falls) B.pre
  have hown : s.vm.findClass RX8 = some m.cls := findClass_of_methodNamed B.named
  have hlocks := B.notSynchronized
  have hw_0 := hts (.fieldLink RX8 136 "HoopLaneModel" "isLane" "Z") (by decide +kernel)
  have hw_1 := hts (.fieldLink RX8 159 "HoopLaneModel" "end" "I") (by decide +kernel)
  have hw_2 := hts (.constant RX8 184 (-1000002)) (by decide +kernel)
  have hw_3 := hts (.fieldLink RX8 37 "HoopLaneModel" "met" "[Z") (by decide +kernel)
  have hw_4 := hts (.fieldLink RX8 150 "HoopLaneModel" "yard" "I") (by decide +kernel)
  have hw_5 := hts (.fieldLink RX8 153 "HoopLaneModel" "pace" "I") (by decide +kernel)
  have hw_6 := hts (.fieldLink RX8 156 "HoopLaneModel" "lean" "I") (by decide +kernel)
  have hw_7 := hts (.fieldLink RX8 22 "HoopLaneModel" "lane" "[I") (by decide +kernel)
  have hin8 : ∀ w ∈ wsX80, w ∈ wsX8_falls := by decide +kernel
  have hl := lv_entry ([.ref (ad 0)]) (n := 4) (Nat.le_of_ble_eq_true rfl)
  have hent : entryFrame m args 4 = F0 m 0 ((lg_sl ([.ref (ad 0)]) ++ List.replicate (4 - (lg_sl ([.ref (ad 0)])).length) Slot.unset).toArray) [] := by rw [ha, lg_entry_eq]
  rw [hent]
  generalize (lg_sl ([.ref (ad 0)]) ++ List.replicate (4 - (lg_sl ([.ref (ad 0)])).length) Slot.unset).toArray = ls at hl ⊢
  have hl : lv_has ls 4 [(0, .ref (ad 0))] := hl
  obtain ⟨H, hH⟩ : ∃ H : Heap, H = s.heap := ⟨_, rfl⟩
  have hL70 : ∀ (n70 : Nat) (V : VT) (H : Heap) (locs : List Loc) (ls : Array Slot) (x1 : Int32) (x2 : Int32), WI g 13 (cM g ad) ad V s.heap H locs → lv_has ls 4 [(0, .ref (ad 0)), (1, .int x1), (2, .int x2)] → wp_X8_falls_L70 K  n70 V x1 x2 → W p l e (headSpec wsX8_falls rm_X8_falls).room s m args below meth c H locs 0 0 (MQ below (va_Qi K (WPost 13 (cM g ad) ad g) (AW ad 13 s.heap.size)) args s 0 0 (AW ad 13 s.heap.size)) (F0 m 70 ls []) := by
    intro n70
    induction n70 with
    | zero => intro V H locs ls x1 x2  hI hl hw; exact False.elim hw
    | succ n70 ihL70 =>
      have hb186 : ∀ (V : VT) (H : Heap) (locs : List Loc) (ls : Array Slot) (x1 : Int32) (x2 : Int32), WI g 13 (cM g ad) ad V s.heap H locs → lv_has ls 4 [(0, .ref (ad 0)), (1, .int x1), (2, .int x2)] → wp_X8_falls_b186 K (wp_X8_falls_L70 K  n70) V x1 x2 → W p l e (headSpec wsX8_falls rm_X8_falls).room s m args below meth c H locs 0 0 (MQ below (va_Qi K (WPost 13 (cM g ad) ad g) (AW ad 13 s.heap.size)) args s 0 0 (AW ad 13 s.heap.size)) (F0 m 186 ls []) := by
        intro V H locs ls x1 x2  hI hl hw
        refine lv_iinc (v := (x2 + (1 : Int32))) (lv' := [(2, .int (x2 + (1 : Int32))), (0, .ref (ad 0)), (1, .int x1)]) hx hb dX8_falls_186 hl (k := 2) rfl rfl (by decide) rfl (fun ls hl => ?_)
        refine lv_goto (tgt := 70) hx hb dX8_falls_189 (by decide) ?_
        exact ihL70 V H locs ls x1 (x2 + (1 : Int32)) hI (lv_sub hl [1, 2, 0] rfl) hw
      have hL85 : ∀ (n85 : Nat) (V : VT) (H : Heap) (locs : List Loc) (ls : Array Slot) (x1 : Int32) (x2 : Int32) (x3 : Int32), WI g 13 (cM g ad) ad V s.heap H locs → lv_has ls 4 [(0, .ref (ad 0)), (1, .int x1), (2, .int x2), (3, .int x3)] → wp_X8_falls_L85 K (wp_X8_falls_L70 K  n70) n85 V x1 x2 x3 → W p l e (headSpec wsX8_falls rm_X8_falls).room s m args below meth c H locs 0 0 (MQ below (va_Qi K (WPost 13 (cM g ad) ad g) (AW ad 13 s.heap.size)) args s 0 0 (AW ad 13 s.heap.size)) (F0 m 85 ls []) := by
        intro n85
        induction n85 with
        | zero => intro V H locs ls x1 x2 x3  hI hl hw; exact False.elim hw
        | succ n85 ihL85 =>
          have hb180 : ∀ (V : VT) (H : Heap) (locs : List Loc) (ls : Array Slot) (x1 : Int32) (x2 : Int32) (x3 : Int32), WI g 13 (cM g ad) ad V s.heap H locs → lv_has ls 4 [(0, .ref (ad 0)), (1, .int x1), (2, .int x2), (3, .int x3)] → wp_X8_falls_b180 K (wp_X8_falls_L85 K (wp_X8_falls_L70 K  n70) n85) (wp_X8_falls_L70 K  n70) V x1 x2 x3 → W p l e (headSpec wsX8_falls rm_X8_falls).room s m args below meth c H locs 0 0 (MQ below (va_Qi K (WPost 13 (cM g ad) ad g) (AW ad 13 s.heap.size)) args s 0 0 (AW ad 13 s.heap.size)) (F0 m 180 ls []) := by
            intro V H locs ls x1 x2 x3  hI hl hw
            refine lv_iinc (v := (x3 + (1 : Int32))) (lv' := [(3, .int (x3 + (1 : Int32))), (0, .ref (ad 0)), (1, .int x1), (2, .int x2)]) hx hb dX8_falls_180 hl (k := 3) rfl rfl (by decide) rfl (fun ls hl => ?_)
            refine lv_goto (tgt := 85) hx hb dX8_falls_183 (by decide) ?_
            exact ihL85 V H locs ls x1 x2 (x3 + (1 : Int32)) hI (lv_sub hl [1, 2, 3, 0] rfl) hw
          have hb150 : ∀ (V : VT) (H : Heap) (locs : List Loc) (ls : Array Slot) (x2 : Int32) (x3 : Int32) (s0 : Int32) (s1 : Int32), WI g 13 (cM g ad) ad V s.heap H locs → lv_has ls 4 [(0, .ref (ad 0)), (2, .int x2), (3, .int x3)] → wp_X8_falls_b150 K (wp_X8_falls_L85 K (wp_X8_falls_L70 K  n70) n85) (wp_X8_falls_L70 K  n70) V x2 x3 s0 s1 → W p l e (headSpec wsX8_falls rm_X8_falls).room s m args below meth c H locs 0 0 (MQ below (va_Qi K (WPost 13 (cM g ad) ad g) (AW ad 13 s.heap.size)) args s 0 0 (AW ad 13 s.heap.size)) (F0 m 150 ls [.int s1, .int s0]) := by
            intro V H locs ls x2 x3 s0 s1  hI hl hw
            refine lv_ior hx hb dX8_falls_150 ?_
            refine lv_istore_n (lv' := [(1, .int (s0 ||| s1)), (0, .ref (ad 0)), (2, .int x2), (3, .int x3)]) hx hb dX8_falls_151 rfl hl (by decide) rfl (fun ls hl => ?_)
            refine lv_aload_n hx hb dX8_falls_152 rfl (lv_at hl 1 rfl) ?_
            refine mg_19 hx hb hts hin8 hown hK hI hw_1 dX8_falls_153 ?_
            refine lv_if_ne (tgt := 180) hx hb dX8_falls_156 (by decide) (fun c21 => ?_) (fun c21 => ?_)
            · replace hw := hw.1 c21
              exact hb180 V H locs ls (s0 ||| s1) x2 x3 hI (lv_sub hl [1, 0, 2, 3] rfl) hw
            · replace hw := hw.2 c21
              refine lv_aload_n hx hb dX8_falls_159 rfl (lv_at hl 1 rfl) ?_
              refine mg_29 hx hb hts hin8 hown hK hI hw_3 dX8_falls_160 ?_
              refine lv_aload_n hx hb dX8_falls_163 rfl (lv_at hl 1 rfl) ?_
              refine mg_16 hx hb hts hin8 hown hK hI hw_4 dX8_falls_164 ?_
              refine lv_aload_n hx hb dX8_falls_167 rfl (lv_at hl 1 rfl) ?_
              refine mg_17 hx hb hts hin8 hown hK hI hw_5 dX8_falls_168 ?_
              refine lv_aload_n hx hb dX8_falls_171 rfl (lv_at hl 1 rfl) ?_
              refine mg_18 hx hb hts hin8 hown hK hI hw_6 dX8_falls_172 ?_
              refine x_afti (va_runS (As := [.int (V 0 16), .int (V 0 17), .int (V 0 18)]) (rest := [.ref (ad 10)]) ⟨hx, hb, hml, hown, hts⟩ (c_X8_place l g ad H.size V (V 0 16) (V 0 17) (V 0 18) _ hw) (cwS 3 hts gX8_falls_X8_place rfl rfl rfl (by decide +kernel) ⟨Nat.le_of_ble_eq_true rfl, Nat.le_of_ble_eq_true rfl⟩) (x_preS hK hE hI) rfl rfl hl.1 rfl (lv_room (Nat.le_of_ble_eq_true rfl)) dX8_falls_175 ⟨Nat.zero_le _, Nat.zero_le _⟩) hI (fun r23 V22 H locs hw hI => ?_)
              refine lv_iconst (v := (1 : Int32)) hx hb dX8_falls_178 (by decide) ?_
              obtain ⟨h24, hw⟩ := hw
              refine x_zastV (k := 10) hx hb hK hI (cM_loc g ad) (by decide) (fun _ => rfl) rfl h24 dX8_falls_179 (fun V25 H locs eV25 hI => ?_)
              replace hw := hw V25 eV25
              exact hb180 V25 H locs ls (s0 ||| s1) x2 x3 hI (lv_sub hl [1, 0, 2, 3] rfl) hw
          intro V H locs ls x1 x2 x3  hI hl hw
          refine lv_iload_n hx hb dX8_falls_85 rfl (lv_at hl 3 rfl) ?_
          refine lv_aload_n hx hb dX8_falls_86 rfl (lv_at hl 0 rfl) ?_
          refine mg_5 hx hb hts hin8 hown hK hI hw_7 dX8_falls_87 ?_
          refine lv_iconst (v := (1 : Int32)) hx hb dX8_falls_90 (by decide) ?_
          obtain ⟨h14, hw⟩ := hw
          refine x_iald (k := 5) hx hb hK hI (by decide) rfl h14 dX8_falls_91 ?_
          refine lv_icmp_ge (tgt := 186) hx hb dX8_falls_92 (by decide) (fun c15 => ?_) (fun c15 => ?_)
          · replace hw := hw.1 c15
            exact hb186 V H locs ls x1 x2 hI (lv_sub hl [0, 1, 2] rfl) hw
          · replace hw := hw.2 c15
            refine lv_aload_n hx hb dX8_falls_95 rfl (lv_at hl 0 rfl) ?_
            refine mg_29 hx hb hts hin8 hown hK hI hw_3 dX8_falls_96 ?_
            refine lv_iload_n hx hb dX8_falls_99 rfl (lv_at hl 2 rfl) ?_
            obtain ⟨h16, hw⟩ := hw
            refine x_zald (k := 10) hx hb hK hI (by decide) rfl h16 dX8_falls_100 ?_
            refine lv_if_eq (tgt := 186) hx hb dX8_falls_101 (by decide) (fun c17 => ?_) (fun c17 => ?_)
            · replace hw := hw.1 c17
              exact hb186 V H locs ls x1 x2 hI (lv_sub hl [0, 1, 2] rfl) hw
            · replace hw := hw.2 c17
              refine lv_aload_n hx hb dX8_falls_104 rfl (lv_at hl 0 rfl) ?_
              refine lv_iload_n hx hb dX8_falls_105 rfl (lv_at hl 2 rfl) ?_
              refine lv_bipush (v := (110 : Int32)) hx hb dX8_falls_106 (by decide) ?_
              refine lv_idiv hx hb dX8_falls_108 (by decide) ?_
              refine lv_iload_n hx hb dX8_falls_109 rfl (lv_at hl 2 rfl) ?_
              refine lv_bipush (v := (11 : Int32)) hx hb dX8_falls_110 (by decide) ?_
              refine lv_idiv hx hb dX8_falls_112 (by decide) ?_
              refine lv_bipush (v := (10 : Int32)) hx hb dX8_falls_113 (by decide) ?_
              refine lv_irem hx hb dX8_falls_115 (by decide) ?_
              refine lv_iload_n hx hb dX8_falls_116 rfl (lv_at hl 2 rfl) ?_
              refine lv_bipush (v := (11 : Int32)) hx hb dX8_falls_117 (by decide) ?_
              refine lv_irem hx hb dX8_falls_119 (by decide) ?_
              refine lv_iconst (v := (5 : Int32)) hx hb dX8_falls_120 (by decide) ?_
              refine lv_isub hx hb dX8_falls_121 ?_
              refine lv_iconst (v := (0 : Int32)) hx hb dX8_falls_122 (by decide) ?_
              refine x_aftv (va_runV (As := [.int (x2 / (110 : Int32)), .int ((x2 / (11 : Int32)) - (x2 / (11 : Int32)) / (10 : Int32) * (10 : Int32)), .int ((x2 - x2 / (11 : Int32) * (11 : Int32)) - (5 : Int32)), .int (0 : Int32)]) (rest := []) ⟨hx, hb, hml, hown, hts⟩ (c_X8_puts l g ad H.size V (x2 / (110 : Int32)) ((x2 / (11 : Int32)) - (x2 / (11 : Int32)) / (10 : Int32) * (10 : Int32)) ((x2 - x2 / (11 : Int32) * (11 : Int32)) - (5 : Int32)) (0 : Int32) _ hw) (cwV 4 hts gX8_falls_X8_puts rfl rfl rfl (by decide +kernel) ⟨Nat.le_of_ble_eq_true rfl, Nat.le_of_ble_eq_true rfl⟩) (x_preV (k := 0) hK hE hI (by decide) rfl rfl) rfl rfl hl.1 rfl (lv_room (Nat.le_of_ble_eq_true rfl)) dX8_falls_123 ⟨Nat.zero_le _, Nat.zero_le _⟩) hI (fun V18 H locs hw hI => ?_)
              refine lv_aload_n hx hb dX8_falls_126 rfl (lv_at hl 0 rfl) ?_
              refine lv_iload_n hx hb dX8_falls_127 rfl (lv_at hl 3 rfl) ?_
              refine x_aftv (va_runV (As := [.int x3]) (rest := []) ⟨hx, hb, hml, hown, hts⟩ (c_X8_goesWith l g ad H.size V18 x3 _ hw) (cwV 1 hts gX8_falls_X8_goesWith rfl rfl rfl (by decide +kernel) ⟨Nat.le_of_ble_eq_true rfl, Nat.le_of_ble_eq_true rfl⟩) (x_preV (k := 0) hK hE hI (by decide) rfl rfl) rfl rfl hl.1 rfl (lv_room (Nat.le_of_ble_eq_true rfl)) dX8_falls_128 ⟨Nat.zero_le _, Nat.zero_le _⟩) hI (fun V19 H locs hw hI => ?_)
              refine lv_iload_n hx hb dX8_falls_131 rfl (lv_at hl 1 rfl) ?_
              refine lv_aload_n hx hb dX8_falls_132 rfl (lv_at hl 0 rfl) ?_
              refine mg_19 hx hb hts hin8 hown hK hI hw_1 dX8_falls_133 ?_
              refine lv_iconst (v := (1 : Int32)) hx hb dX8_falls_136 (by decide) ?_
              refine lv_icmp_ne (tgt := 149) hx hb dX8_falls_137 (by decide) (fun c20 => ?_) (fun c20 => ?_)
              · replace hw := hw.1 c20
                refine lv_iconst (v := (0 : Int32)) hx hb dX8_falls_149 (by decide) ?_
                exact hb150 V19 H locs ls x2 x3 x1 (0 : Int32) hI (lv_sub hl [0, 2, 3] rfl) hw
              · replace hw := hw.2 c20
                refine lv_iconst (v := (1 : Int32)) hx hb dX8_falls_140 (by decide) ?_
                refine lv_aload_n hx hb dX8_falls_141 rfl (lv_at hl 0 rfl) ?_
                refine mg_16 hx hb hts hin8 hown hK hI hw_4 dX8_falls_142 ?_
                refine lv_ishl hx hb dX8_falls_145 ?_
                refine lv_goto (tgt := 150) hx hb dX8_falls_146 (by decide) ?_
                exact hb150 V19 H locs ls x2 x3 x1 ((1 : Int32) <<< ((V19 0 16) &&& (31 : Int32))) hI (lv_sub hl [0, 2, 3] rfl) hw
      intro V H locs ls x1 x2  hI hl hw
      refine lv_iload_n hx hb dX8_falls_70 rfl (lv_at hl 2 rfl) ?_
      refine lv_bipush (v := (110 : Int32)) hx hb dX8_falls_71 (by decide) ?_
      refine lv_aload_n hx hb dX8_falls_73 rfl (lv_at hl 0 rfl) ?_
      refine mg_5 hx hb hts hin8 hown hK hI hw_7 dX8_falls_74 ?_
      refine lv_iconst (v := (0 : Int32)) hx hb dX8_falls_77 (by decide) ?_
      obtain ⟨h11, hw⟩ := hw
      refine x_iald (k := 5) hx hb hK hI (by decide) rfl h11 dX8_falls_78 ?_
      refine lv_imul hx hb dX8_falls_79 ?_
      refine lv_icmp_ge (tgt := 192) hx hb dX8_falls_80 (by decide) (fun c12 => ?_) (fun c12 => ?_)
      · replace hw := hw.1 c12
        refine lv_aload_n hx hb dX8_falls_192 rfl (lv_at hl 0 rfl) ?_
        refine x_aftv (va_runV (As := []) (rest := []) ⟨hx, hb, hml, hown, hts⟩ (c_X8_backs l g ad H.size V  _ hw) (cwV 0 hts gX8_falls_X8_backs rfl rfl rfl (by decide +kernel) ⟨Nat.le_of_ble_eq_true rfl, Nat.le_of_ble_eq_true rfl⟩) (x_preV (k := 0) hK hE hI (by decide) rfl rfl) rfl rfl hl.1 rfl (lv_room (Nat.le_of_ble_eq_true rfl)) dX8_falls_193 ⟨Nat.zero_le _, Nat.zero_le _⟩) hI (fun V13 H locs hw hI => ?_)
        refine lv_iload_n hx hb dX8_falls_196 rfl (lv_at hl 1 rfl) ?_
        exact W.iret (v := x1) hx hb hr (x_reti hI hw) hI.2.2.2.2 dX8_falls_197
      · replace hw := hw.2 c12
        refine lv_iconst (v := (-1 : Int32)) hx hb dX8_falls_83 (by decide) ?_
        refine lv_istore_n (lv' := [(3, .int (-1 : Int32)), (0, .ref (ad 0)), (1, .int x1), (2, .int x2)]) hx hb dX8_falls_84 rfl hl (by decide) rfl (fun ls hl => ?_)
        obtain ⟨n85, hw⟩ := hw
        exact hL85 n85 V H locs ls x1 x2 (-1 : Int32) hI (lv_sub hl [1, 2, 3, 0] rfl) hw
  have hL25 : ∀ (n25 : Nat) (V : VT) (H : Heap) (locs : List Loc) (ls : Array Slot) (x1 : Int32), WI g 13 (cM g ad) ad V s.heap H locs → lv_has ls 4 [(0, .ref (ad 0)), (1, .int x1)] → wp_X8_falls_L25 K  n25 V x1 → W p l e (headSpec wsX8_falls rm_X8_falls).room s m args below meth c H locs 0 0 (MQ below (va_Qi K (WPost 13 (cM g ad) ad g) (AW ad 13 s.heap.size)) args s 0 0 (AW ad 13 s.heap.size)) (F0 m 25 ls []) := by
    intro n25
    induction n25 with
    | zero => intro V H locs ls x1  hI hl hw; exact False.elim hw
    | succ n25 ihL25 =>
      intro V H locs ls x1  hI hl hw
      refine lv_iload_n hx hb dX8_falls_25 rfl (lv_at hl 1 rfl) ?_
      refine lv_sipush (v := (2640 : Int32)) hx hb dX8_falls_26 (by decide) ?_
      refine lv_icmp_ge (tgt := 45) hx hb dX8_falls_29 (by decide) (fun c4 => ?_) (fun c4 => ?_)
      · replace hw := hw.1 c4
        refine lv_aload_n hx hb dX8_falls_45 rfl (lv_at hl 0 rfl) ?_
        refine mg_29 hx hb hts hin8 hown hK hI hw_3 dX8_falls_46 ?_
        refine lv_aload_n hx hb dX8_falls_49 rfl (lv_at hl 0 rfl) ?_
        refine mg_16 hx hb hts hin8 hown hK hI hw_4 dX8_falls_50 ?_
        refine lv_aload_n hx hb dX8_falls_53 rfl (lv_at hl 0 rfl) ?_
        refine mg_17 hx hb hts hin8 hown hK hI hw_5 dX8_falls_54 ?_
        refine lv_aload_n hx hb dX8_falls_57 rfl (lv_at hl 0 rfl) ?_
        refine mg_18 hx hb hts hin8 hown hK hI hw_6 dX8_falls_58 ?_
        refine x_afti (va_runS (As := [.int (V 0 16), .int (V 0 17), .int (V 0 18)]) (rest := [.ref (ad 10)]) ⟨hx, hb, hml, hown, hts⟩ (c_X8_place l g ad H.size V (V 0 16) (V 0 17) (V 0 18) _ hw) (cwS 3 hts gX8_falls_X8_place rfl rfl rfl (by decide +kernel) ⟨Nat.le_of_ble_eq_true rfl, Nat.le_of_ble_eq_true rfl⟩) (x_preS hK hE hI) rfl rfl hl.1 rfl (lv_room (Nat.le_of_ble_eq_true rfl)) dX8_falls_61 ⟨Nat.zero_le _, Nat.zero_le _⟩) hI (fun r6 V5 H locs hw hI => ?_)
        refine lv_iconst (v := (1 : Int32)) hx hb dX8_falls_64 (by decide) ?_
        obtain ⟨h7, hw⟩ := hw
        refine x_zastV (k := 10) hx hb hK hI (cM_loc g ad) (by decide) (fun _ => rfl) rfl h7 dX8_falls_65 (fun V8 H locs eV8 hI => ?_)
        replace hw := hw V8 eV8
        refine lv_iconst (v := (0 : Int32)) hx hb dX8_falls_66 (by decide) ?_
        refine lv_istore_n (lv' := [(1, .int (0 : Int32)), (0, .ref (ad 0))]) hx hb dX8_falls_67 rfl hl (by decide) rfl (fun ls hl => ?_)
        refine lv_iconst (v := (0 : Int32)) hx hb dX8_falls_68 (by decide) ?_
        refine lv_istore_n (lv' := [(2, .int (0 : Int32)), (1, .int (0 : Int32)), (0, .ref (ad 0))]) hx hb dX8_falls_69 rfl hl (by decide) rfl (fun ls hl => ?_)
        obtain ⟨n70, hw⟩ := hw
        exact hL70 n70 V8 H locs ls (0 : Int32) (0 : Int32) hI (lv_sub hl [2, 1, 0] rfl) hw
      · replace hw := hw.2 c4
        refine lv_aload_n hx hb dX8_falls_32 rfl (lv_at hl 0 rfl) ?_
        refine mg_29 hx hb hts hin8 hown hK hI hw_3 dX8_falls_33 ?_
        refine lv_iload_n hx hb dX8_falls_36 rfl (lv_at hl 1 rfl) ?_
        refine lv_iconst (v := (0 : Int32)) hx hb dX8_falls_37 (by decide) ?_
        obtain ⟨h9, hw⟩ := hw
        refine x_zastV (k := 10) hx hb hK hI (cM_loc g ad) (by decide) (fun _ => rfl) rfl h9 dX8_falls_38 (fun V10 H locs eV10 hI => ?_)
        replace hw := hw V10 eV10
        refine lv_iinc (v := (x1 + (1 : Int32))) (lv' := [(1, .int (x1 + (1 : Int32))), (0, .ref (ad 0))]) hx hb dX8_falls_39 hl (k := 1) rfl rfl (by decide) rfl (fun ls hl => ?_)
        refine lv_goto (tgt := 25) hx hb dX8_falls_42 (by decide) ?_
        exact ihL25 V10 H locs ls (x1 + (1 : Int32)) hI (lv_sub hl [1, 0] rfl) hw
  have hgo : ∀ (H : Heap) (locs : List Loc), WI g 13 (cM g ad) ad V s.heap H locs → W p l e (headSpec wsX8_falls rm_X8_falls).room s m args below meth c H locs 0 0 (MQ below (va_Qi K (WPost 13 (cM g ad) ad g) (AW ad 13 s.heap.size)) args s 0 0 (AW ad 13 s.heap.size)) (F0 m 0 ls []) := by
    intro H locs hI
    refine lv_aload_n hx hb dX8_falls_0 rfl (lv_at hl 0 rfl) ?_
    refine mg_15 hx hb hts hin8 hown hK hI hw_0 dX8_falls_1 ?_
    refine lv_if_ne (tgt := 10) hx hb dX8_falls_4 (by decide) (fun c1 => ?_) (fun c1 => ?_)
    · replace hw := hw.1 c1
      refine lv_aload_n hx hb dX8_falls_10 rfl (lv_at hl 0 rfl) ?_
      refine mg_19 hx hb hts hin8 hown hK hI hw_1 dX8_falls_11 ?_
      refine lv_if_eq (tgt := 19) hx hb dX8_falls_14 (by decide) (fun c2 => ?_) (fun c2 => ?_)
      · replace hw := hw.1 c2
        refine lv_aload_n hx hb dX8_falls_19 rfl (lv_at hl 0 rfl) ?_
        refine x_aftv (va_runV (As := []) (rest := []) ⟨hx, hb, hml, hown, hts⟩ (c_X8_asides l g ad H.size V  _ hw) (cwV 0 hts gX8_falls_X8_asides rfl rfl rfl (by decide +kernel) ⟨Nat.le_of_ble_eq_true rfl, Nat.le_of_ble_eq_true rfl⟩) (x_preV (k := 0) hK hE hI (by decide) rfl rfl) rfl rfl hl.1 rfl (lv_room (Nat.le_of_ble_eq_true rfl)) dX8_falls_20 ⟨Nat.zero_le _, Nat.zero_le _⟩) hI (fun V3 H locs hw hI => ?_)
        refine lv_iconst (v := (0 : Int32)) hx hb dX8_falls_23 (by decide) ?_
        refine lv_istore_n (lv' := [(1, .int (0 : Int32)), (0, .ref (ad 0))]) hx hb dX8_falls_24 rfl hl (by decide) rfl (fun ls hl => ?_)
        obtain ⟨n25, hw⟩ := hw
        exact hL25 n25 V3 H locs ls (0 : Int32) hI (lv_sub hl [1, 0] rfl) hw
      · replace hw := hw.2 c2
        refine lv_iconst (v := (0 : Int32)) hx hb dX8_falls_17 (by decide) ?_
        exact W.iret (v := (0 : Int32)) hx hb hr (x_reti hI hw) hI.2.2.2.2 dX8_falls_18
    · replace hw := hw.2 c1
      refine lv_ldc (v := (-1000002 : Int32)) hx hb hown hw_2 dX8_falls_7 ?_
      exact W.iret (v := (-1000002 : Int32)) hx hb hr (x_reti hI hw) hI.2.2.2.2 dX8_falls_9
  exact hgo s.heap [] hI
def rm_X8_mend : Room := { frames := 7, cells := 0, slots := 0, locals := 160 }
set_option maxHeartbeats 4000000 in
set_option maxRecDepth 100000 in
theorem c_X8_mend (l : Launch) (g : GP) (ad : Nat → Nat) (sz : Nat) (V : VT) (x1 : Int32)  (K : Int32 → VT → Prop) (hw : wp_X8_mend V x1 K) : Met l yX8_mend wsX8_mend rm_X8_mend (va_Pc [.ref (ad 0), .int x1] (WPre 13 (cM g ad) ad g V sz)) (va_Qi K (WPost 13 (cM g ad) ad g) (AW ad 13 sz)) 0 0 (AW ad 13 sz) := by
  refine Met.ofW (cc := cX8_mend) (maxL := 8) (ret := (some .int)) (by decide) rfl ?_
  intro p e s m args below meth c s₁ B hml hv
  obtain ⟨ha, hv⟩ := hv
  obtain rfl := hv.1
  have hI : WI g 13 (cM g ad) ad V s.heap s.heap [] := WI.start hv
  have hK := hv.2.2.1
  have hE := hv.2.2.2.2
  have hx := B.exec
  have hb := B.bytes
  have hr := B.returns
  have hts := atoms_spec (ws := wsX8_mend) B.pre
  have hown : s.vm.findClass RX8 = some m.cls := findClass_of_methodNamed B.named
  have hlocks := B.notSynchronized
  have hw_0 := hts (.fieldLink RX8 136 "HoopLaneModel" "isLane" "Z") (by decide +kernel)
  have hw_1 := hts (.constant RX8 237 (-1000000)) (by decide +kernel)
  have hw_2 := hts (.constant RX8 64 (-1000001)) (by decide +kernel)
  have hw_3 := hts (.constant RX8 184 (-1000002)) (by decide +kernel)
  have hw_4 := hts (.fieldLink RX8 22 "HoopLaneModel" "lane" "[I") (by decide +kernel)
  have hin8 : ∀ w ∈ wsX80, w ∈ wsX8_mend := by decide +kernel
  have hl := lv_entry ([.ref (ad 0), .int x1]) (n := 8) (Nat.le_of_ble_eq_true rfl)
  have hent : entryFrame m args 8 = F0 m 0 ((lg_sl ([.ref (ad 0), .int x1]) ++ List.replicate (8 - (lg_sl ([.ref (ad 0), .int x1])).length) Slot.unset).toArray) [] := by rw [ha, lg_entry_eq]
  rw [hent]
  generalize (lg_sl ([.ref (ad 0), .int x1]) ++ List.replicate (8 - (lg_sl ([.ref (ad 0), .int x1])).length) Slot.unset).toArray = ls at hl ⊢
  have hl : lv_has ls 8 [(0, .ref (ad 0)), (1, .int x1)] := hl
  obtain ⟨H, hH⟩ : ∃ H : Heap, H = s.heap := ⟨_, rfl⟩
  have hL33 : ∀ (n33 : Nat) (V : VT) (H : Heap) (locs : List Loc) (ls : Array Slot) (x1 : Int32) (x2 : Int32) (x3 : Int32) (x4 : Int32), WI g 13 (cM g ad) ad V s.heap H locs → lv_has ls 8 [(0, .ref (ad 0)), (1, .int x1), (2, .int x2), (3, .int x3), (4, .int x4)] → wp_X8_mend_L33 K  n33 V x1 x2 x3 x4 → W p l e (headSpec wsX8_mend rm_X8_mend).room s m args below meth c H locs 0 0 (MQ below (va_Qi K (WPost 13 (cM g ad) ad g) (AW ad 13 s.heap.size)) args s 0 0 (AW ad 13 s.heap.size)) (F0 m 33 ls []) := by
    intro n33
    induction n33 with
    | zero => intro V H locs ls x1 x2 x3 x4  hI hl hw; exact False.elim hw
    | succ n33 ihL33 =>
      have hb127 : ∀ (V : VT) (H : Heap) (locs : List Loc) (ls : Array Slot) (x1 : Int32) (x2 : Int32) (x4 : Int32) (s0 : Int32), WI g 13 (cM g ad) ad V s.heap H locs → lv_has ls 8 [(0, .ref (ad 0)), (1, .int x1), (2, .int x2), (4, .int x4)] → wp_X8_mend_b127 K (wp_X8_mend_L33 K  n33) V x1 x2 x4 s0 → W p l e (headSpec wsX8_mend rm_X8_mend).room s m args below meth c H locs 0 0 (MQ below (va_Qi K (WPost 13 (cM g ad) ad g) (AW ad 13 s.heap.size)) args s 0 0 (AW ad 13 s.heap.size)) (F0 m 127 ls [.int s0]) := by
        intro V H locs ls x1 x2 x4 s0  hI hl hw
        refine lv_istore_n (lv' := [(3, .int s0), (0, .ref (ad 0)), (1, .int x1), (2, .int x2), (4, .int x4)]) hx hb dX8_mend_127 rfl hl (by decide) rfl (fun ls hl => ?_)
        refine lv_iinc (v := (x4 + (1 : Int32))) (lv' := [(4, .int (x4 + (1 : Int32))), (3, .int s0), (0, .ref (ad 0)), (1, .int x1), (2, .int x2)]) hx hb dX8_mend_128 hl (k := 4) rfl rfl (by decide) rfl (fun ls hl => ?_)
        refine lv_goto (tgt := 33) hx hb dX8_mend_131 (by decide) ?_
        exact ihL33 V H locs ls x1 x2 s0 (x4 + (1 : Int32)) hI (lv_sub hl [2, 3, 4, 1, 0] rfl) hw
      have hb115 : ∀ (V : VT) (H : Heap) (locs : List Loc) (ls : Array Slot) (x1 : Int32) (x3 : Int32) (x4 : Int32) (x6 : Int32) (x7 : Int32) (s0 : Int32), WI g 13 (cM g ad) ad V s.heap H locs → lv_has ls 8 [(0, .ref (ad 0)), (1, .int x1), (3, .int x3), (4, .int x4), (6, .int x6), (7, .int x7)] → wp_X8_mend_b115 K (wp_X8_mend_L33 K  n33) V x1 x3 x4 x6 x7 s0 → W p l e (headSpec wsX8_mend rm_X8_mend).room s m args below meth c H locs 0 0 (MQ below (va_Qi K (WPost 13 (cM g ad) ad g) (AW ad 13 s.heap.size)) args s 0 0 (AW ad 13 s.heap.size)) (F0 m 115 ls [.int s0]) := by
        intro V H locs ls x1 x3 x4 x6 x7 s0  hI hl hw
        refine lv_istore_n (lv' := [(2, .int s0), (0, .ref (ad 0)), (1, .int x1), (3, .int x3), (4, .int x4), (6, .int x6), (7, .int x7)]) hx hb dX8_mend_115 rfl hl (by decide) rfl (fun ls hl => ?_)
        refine lv_iload hx hb dX8_mend_116 (lv_at hl 6 rfl) ?_
        refine lv_if_eq (tgt := 126) hx hb dX8_mend_118 (by decide) (fun c19 => ?_) (fun c19 => ?_)
        · replace hw := hw.1 c19
          refine lv_iload_n hx hb dX8_mend_126 rfl (lv_at hl 3 rfl) ?_
          exact hb127 V H locs ls x1 s0 x4 x3 hI (lv_sub hl [1, 2, 0, 4] rfl) hw
        · replace hw := hw.2 c19
          refine lv_iload hx hb dX8_mend_121 (lv_at hl 5 rfl) ?_
          refine lv_goto (tgt := 127) hx hb dX8_mend_123 (by decide) ?_
          exact hb127 V H locs ls x1 s0 x4 x6 hI (lv_sub hl [1, 2, 0, 4] rfl) hw
      have hb102 : ∀ (V : VT) (H : Heap) (locs : List Loc) (ls : Array Slot) (x1 : Int32) (x2 : Int32) (x3 : Int32) (x4 : Int32) (x6 : Int32) (s0 : Int32), WI g 13 (cM g ad) ad V s.heap H locs → lv_has ls 8 [(0, .ref (ad 0)), (1, .int x1), (2, .int x2), (3, .int x3), (4, .int x4), (6, .int x6)] → wp_X8_mend_b102 K (wp_X8_mend_L33 K  n33) V x1 x2 x3 x4 x6 s0 → W p l e (headSpec wsX8_mend rm_X8_mend).room s m args below meth c H locs 0 0 (MQ below (va_Qi K (WPost 13 (cM g ad) ad g) (AW ad 13 s.heap.size)) args s 0 0 (AW ad 13 s.heap.size)) (F0 m 102 ls [.int s0]) := by
        intro V H locs ls x1 x2 x3 x4 x6 s0  hI hl hw
        refine lv_istore (lv' := [(7, .int s0), (0, .ref (ad 0)), (1, .int x1), (2, .int x2), (3, .int x3), (4, .int x4), (6, .int x6)]) hx hb dX8_mend_102 hl (by decide) rfl (fun ls hl => ?_)
        refine lv_iload hx hb dX8_mend_104 (lv_at hl 0 rfl) ?_
        refine lv_if_eq (tgt := 114) hx hb dX8_mend_106 (by decide) (fun c18 => ?_) (fun c18 => ?_)
        · replace hw := hw.1 c18
          refine lv_iload_n hx hb dX8_mend_114 rfl (lv_at hl 3 rfl) ?_
          exact hb115 V H locs ls x1 x3 x4 x6 s0 x2 hI (lv_sub hl [1, 2, 4, 5, 6, 0] rfl) hw
        · replace hw := hw.2 c18
          refine lv_iload hx hb dX8_mend_109 (lv_at hl 5 rfl) ?_
          refine lv_goto (tgt := 115) hx hb dX8_mend_111 (by decide) ?_
          exact hb115 V H locs ls x1 x3 x4 x6 s0 x4 hI (lv_sub hl [1, 2, 4, 5, 6, 0] rfl) hw
      have hb101 : ∀ (V : VT) (H : Heap) (locs : List Loc) (ls : Array Slot) (x1 : Int32) (x2 : Int32) (x3 : Int32) (x4 : Int32) (x6 : Int32), WI g 13 (cM g ad) ad V s.heap H locs → lv_has ls 8 [(0, .ref (ad 0)), (1, .int x1), (2, .int x2), (3, .int x3), (4, .int x4), (6, .int x6)] → wp_X8_mend_b101 K (wp_X8_mend_L33 K  n33) V x1 x2 x3 x4 x6 → W p l e (headSpec wsX8_mend rm_X8_mend).room s m args below meth c H locs 0 0 (MQ below (va_Qi K (WPost 13 (cM g ad) ad g) (AW ad 13 s.heap.size)) args s 0 0 (AW ad 13 s.heap.size)) (F0 m 101 ls []) := by
        intro V H locs ls x1 x2 x3 x4 x6  hI hl hw
        refine lv_iconst (v := (0 : Int32)) hx hb dX8_mend_101 (by decide) ?_
        exact hb102 V H locs ls x1 x2 x3 x4 x6 (0 : Int32) hI (lv_sub hl [0, 1, 2, 3, 4, 5] rfl) hw
      intro V H locs ls x1 x2 x3 x4  hI hl hw
      refine lv_iload hx hb dX8_mend_33 (lv_at hl 4 rfl) ?_
      refine lv_aload_n hx hb dX8_mend_35 rfl (lv_at hl 0 rfl) ?_
      refine mg_5 hx hb hts hin8 hown hK hI hw_4 dX8_mend_36 ?_
      refine lv_iconst (v := (0 : Int32)) hx hb dX8_mend_39 (by decide) ?_
      obtain ⟨h5, hw⟩ := hw
      refine x_iald (k := 5) hx hb hK hI (by decide) rfl h5 dX8_mend_40 ?_
      refine lv_icmp_ge (tgt := 134) hx hb dX8_mend_41 (by decide) (fun c6 => ?_) (fun c6 => ?_)
      · replace hw := hw.1 c6
        refine lv_iload_n hx hb dX8_mend_134 rfl (lv_at hl 2 rfl) ?_
        refine lv_ldc (v := (-1000000 : Int32)) hx hb hown hw_1 dX8_mend_135 ?_
        refine lv_icmp_ne (tgt := 145) hx hb dX8_mend_137 (by decide) (fun c7 => ?_) (fun c7 => ?_)
        · replace hw := hw.1 c7
          refine lv_iload_n hx hb dX8_mend_145 rfl (lv_at hl 1 rfl) ?_
          refine lv_if_ne (tgt := 153) hx hb dX8_mend_146 (by decide) (fun c8 => ?_) (fun c8 => ?_)
          · replace hw := hw.1 c8
            refine lv_iload_n hx hb dX8_mend_153 rfl (lv_at hl 3 rfl) ?_
            exact W.iret (v := x3) hx hb hr (x_reti hI hw) hI.2.2.2.2 dX8_mend_154
          · replace hw := hw.2 c8
            refine lv_iload_n hx hb dX8_mend_149 rfl (lv_at hl 2 rfl) ?_
            refine lv_goto (tgt := 154) hx hb dX8_mend_150 (by decide) ?_
            exact W.iret (v := x2) hx hb hr (x_reti hI hw) hI.2.2.2.2 dX8_mend_154
        · replace hw := hw.2 c7
          refine lv_ldc (v := (-1000000 : Int32)) hx hb hown hw_1 dX8_mend_140 ?_
          refine lv_goto (tgt := 154) hx hb dX8_mend_142 (by decide) ?_
          exact W.iret (v := (-1000000 : Int32)) hx hb hr (x_reti hI hw) hI.2.2.2.2 dX8_mend_154
      · replace hw := hw.2 c6
        refine lv_aload_n hx hb dX8_mend_44 rfl (lv_at hl 0 rfl) ?_
        refine mg_5 hx hb hts hin8 hown hK hI hw_4 dX8_mend_45 ?_
        refine lv_iconst (v := (4 : Int32)) hx hb dX8_mend_48 (by decide) ?_
        refine lv_iload hx hb dX8_mend_49 (lv_at hl 4 rfl) ?_
        refine lv_iadd hx hb dX8_mend_51 ?_
        obtain ⟨h9, hw⟩ := hw
        refine x_iald (k := 5) hx hb hK hI (by decide) rfl h9 dX8_mend_52 ?_
        refine lv_istore (lv' := [(5, .int (V 5 (((4 : Int32) + x4)).toNatClampNeg)), (0, .ref (ad 0)), (1, .int x1), (2, .int x2), (3, .int x3), (4, .int x4)]) hx hb dX8_mend_53 hl (by decide) rfl (fun ls hl => ?_)
        refine lv_aload_n hx hb dX8_mend_55 rfl (lv_at hl 1 rfl) ?_
        refine mg_5 hx hb hts hin8 hown hK hI hw_4 dX8_mend_56 ?_
        refine lv_iconst (v := (4 : Int32)) hx hb dX8_mend_59 (by decide) ?_
        refine lv_iload hx hb dX8_mend_60 (lv_at hl 5 rfl) ?_
        refine lv_iadd hx hb dX8_mend_62 ?_
        refine lv_iconst (v := (0 : Int32)) hx hb dX8_mend_63 (by decide) ?_
        obtain ⟨h10, hw⟩ := hw
        refine x_iastV (k := 5) hx hb hK hI (cM_loc g ad) (by decide) (fun _ => rfl) h10 dX8_mend_64 (fun V11 H locs eV11 hI => ?_)
        replace hw := hw V11 eV11
        refine lv_aload_n hx hb dX8_mend_65 rfl (lv_at hl 1 rfl) ?_
        refine lv_iconst (v := (1 : Int32)) hx hb dX8_mend_66 (by decide) ?_
        refine lv_iconst (v := (0 : Int32)) hx hb dX8_mend_67 (by decide) ?_
        refine x_afti (va_runV (As := [.int (1 : Int32), .int (0 : Int32)]) (rest := []) ⟨hx, hb, hml, hown, hts⟩ (c_X8_way l g ad H.size V11 (1 : Int32) (0 : Int32) _ hw) (cwV 2 hts gX8_mend_X8_way rfl rfl rfl (by decide +kernel) ⟨Nat.le_of_ble_eq_true rfl, Nat.le_of_ble_eq_true rfl⟩) (x_preV (k := 0) hK hE hI (by decide) rfl rfl) rfl rfl hl.1 rfl (lv_room (Nat.le_of_ble_eq_true rfl)) dX8_mend_68 ⟨Nat.zero_le _, Nat.zero_le _⟩) hI (fun r13 V12 H locs hw hI => ?_)
        refine lv_istore (lv' := [(6, .int r13), (5, .int (V 5 (((4 : Int32) + x4)).toNatClampNeg)), (0, .ref (ad 0)), (1, .int x1), (2, .int x2), (3, .int x3), (4, .int x4)]) hx hb dX8_mend_71 hl (by decide) rfl (fun ls hl => ?_)
        refine lv_aload_n hx hb dX8_mend_73 rfl (lv_at hl 2 rfl) ?_
        refine mg_5 hx hb hts hin8 hown hK hI hw_4 dX8_mend_74 ?_
        refine lv_iconst (v := (4 : Int32)) hx hb dX8_mend_77 (by decide) ?_
        refine lv_iload hx hb dX8_mend_78 (lv_at hl 6 rfl) ?_
        refine lv_iadd hx hb dX8_mend_80 ?_
        refine lv_iload hx hb dX8_mend_81 (lv_at hl 1 rfl) ?_
        obtain ⟨h14, hw⟩ := hw
        refine x_iastV (k := 5) hx hb hK hI (cM_loc g ad) (by decide) (fun _ => rfl) h14 dX8_mend_83 (fun V15 H locs eV15 hI => ?_)
        replace hw := hw V15 eV15
        refine lv_iload hx hb dX8_mend_84 (lv_at hl 0 rfl) ?_
        refine lv_ldc (v := (-1000000 : Int32)) hx hb hown hw_1 dX8_mend_86 ?_
        refine lv_icmp_eq (tgt := 101) hx hb dX8_mend_88 (by decide) (fun c16 => ?_) (fun c16 => ?_)
        · replace hw := hw.1 c16
          exact hb101 V15 H locs ls x1 x2 x3 x4 r13 hI (lv_sub hl [2, 3, 4, 5, 6, 0] rfl) hw
        · replace hw := hw.2 c16
          refine lv_iload hx hb dX8_mend_91 (lv_at hl 0 rfl) ?_
          refine lv_iload_n hx hb dX8_mend_93 rfl (lv_at hl 5 rfl) ?_
          refine lv_icmp_ge (tgt := 101) hx hb dX8_mend_94 (by decide) (fun c17 => ?_) (fun c17 => ?_)
          · replace hw := hw.1 c17
            exact hb101 V15 H locs ls x1 x2 x3 x4 r13 hI (lv_sub hl [2, 3, 4, 5, 6, 0] rfl) hw
          · replace hw := hw.2 c17
            refine lv_iconst (v := (1 : Int32)) hx hb dX8_mend_97 (by decide) ?_
            refine lv_goto (tgt := 102) hx hb dX8_mend_98 (by decide) ?_
            exact hb102 V15 H locs ls x1 x2 x3 x4 r13 (1 : Int32) hI (lv_sub hl [2, 3, 4, 5, 6, 0] rfl) hw
  have hgo : ∀ (H : Heap) (locs : List Loc), WI g 13 (cM g ad) ad V s.heap H locs → W p l e (headSpec wsX8_mend rm_X8_mend).room s m args below meth c H locs 0 0 (MQ below (va_Qi K (WPost 13 (cM g ad) ad g) (AW ad 13 s.heap.size)) args s 0 0 (AW ad 13 s.heap.size)) (F0 m 0 ls []) := by
    intro H locs hI
    refine lv_aload_n hx hb dX8_mend_0 rfl (lv_at hl 0 rfl) ?_
    refine mg_15 hx hb hts hin8 hown hK hI hw_0 dX8_mend_1 ?_
    refine lv_if_ne (tgt := 10) hx hb dX8_mend_4 (by decide) (fun c1 => ?_) (fun c1 => ?_)
    · replace hw := hw.1 c1
      refine lv_iload_n hx hb dX8_mend_10 rfl (lv_at hl 1 rfl) ?_
      refine lv_i2l (v := (x1).toInt64) hx hb dX8_mend_11 rfl ?_
      refine lv_lconst (v := (0 : Int64)) hx hb dX8_mend_12 (by decide) ?_
      refine lv_lconst (v := (1 : Int64)) hx hb dX8_mend_13 (by decide) ?_
      refine x_afti (va_runS (As := [.long ((x1).toInt64), .long (0 : Int64), .long (1 : Int64)]) (rest := []) ⟨hx, hb, hml, hown, hts⟩ (c_X8_in l g ad H.size V ((x1).toInt64) (0 : Int64) (1 : Int64) _ hw) (cwS 3 hts gX8_mend_X8_in rfl rfl rfl (by decide +kernel) ⟨Nat.le_of_ble_eq_true rfl, Nat.le_of_ble_eq_true rfl⟩) (x_preS hK hE hI) rfl rfl hl.1 rfl (lv_room (Nat.le_of_ble_eq_true rfl)) dX8_mend_14 ⟨Nat.zero_le _, Nat.zero_le _⟩) hI (fun r3 V2 H locs hw hI => ?_)
      refine lv_if_ne (tgt := 23) hx hb dX8_mend_17 (by decide) (fun c4 => ?_) (fun c4 => ?_)
      · replace hw := hw.1 c4
        refine lv_ldc (v := (-1000000 : Int32)) hx hb hown hw_1 dX8_mend_23 ?_
        refine lv_istore_n (lv' := [(2, .int (-1000000 : Int32)), (0, .ref (ad 0)), (1, .int x1)]) hx hb dX8_mend_25 rfl hl (by decide) rfl (fun ls hl => ?_)
        refine lv_sipush (v := (9999 : Int32)) hx hb dX8_mend_26 (by decide) ?_
        refine lv_istore_n (lv' := [(3, .int (9999 : Int32)), (2, .int (-1000000 : Int32)), (0, .ref (ad 0)), (1, .int x1)]) hx hb dX8_mend_29 rfl hl (by decide) rfl (fun ls hl => ?_)
        refine lv_iconst (v := (0 : Int32)) hx hb dX8_mend_30 (by decide) ?_
        refine lv_istore (lv' := [(4, .int (0 : Int32)), (3, .int (9999 : Int32)), (2, .int (-1000000 : Int32)), (0, .ref (ad 0)), (1, .int x1)]) hx hb dX8_mend_31 hl (by decide) rfl (fun ls hl => ?_)
        obtain ⟨n33, hw⟩ := hw
        exact hL33 n33 V2 H locs ls x1 (-1000000 : Int32) (9999 : Int32) (0 : Int32) hI (lv_sub hl [3, 4, 2, 1, 0] rfl) hw
      · replace hw := hw.2 c4
        refine lv_ldc (v := (-1000001 : Int32)) hx hb hown hw_2 dX8_mend_20 ?_
        exact W.iret (v := (-1000001 : Int32)) hx hb hr (x_reti hI hw) hI.2.2.2.2 dX8_mend_22
    · replace hw := hw.2 c1
      refine lv_ldc (v := (-1000002 : Int32)) hx hb hown hw_3 dX8_mend_7 ?_
      exact W.iret (v := (-1000002 : Int32)) hx hb hr (x_reti hI hw) hI.2.2.2.2 dX8_mend_9
  exact hgo s.heap [] hI
def rm_X8_common : Room := { frames := 0, cells := 0, slots := 0, locals := 0 }
set_option maxHeartbeats 4000000 in
set_option maxRecDepth 100000 in
theorem c_X8_common (l : Launch) (g : GP) (ad : Nat → Nat) (sz : Nat) (V : VT) (y0 : Int64) (y2 : Int64)  (K : Int64 → VT → Prop) (hw : wp_X8_common V y0 y2 K) : Met l yX8_common wsX8_common rm_X8_common (va_Pc [.long y0, .long y2] (WPre 13 (cM g ad) ad g V sz)) (va_Ql K (WPost 13 (cM g ad) ad g) (AW ad 13 sz)) 0 0 (AW ad 13 sz) := by
  refine Met.ofW (cc := cX8_common) (maxL := 10) (ret := (some .long)) (by decide) rfl ?_
  intro p e s m args below meth c s₁ B hml hv
  obtain ⟨ha, hv⟩ := hv
  obtain rfl := hv.1
  have hI : WI g 13 (cM g ad) ad V s.heap s.heap [] := WI.start hv
  have hK := hv.2.2.1
  have hE := hv.2.2.2.2
  have hx := B.exec
  have hb := B.bytes
  have hr := B.returns
  have hts := atoms_spec (ws := wsX8_common) B.pre
  have hown : s.vm.findClass RX8 = some m.cls := findClass_of_methodNamed B.named
  have hlocks := B.notSynchronized
  have hl := lv_entry ([.long y0, .long y2]) (n := 10) (Nat.le_of_ble_eq_true rfl)
  have hent : entryFrame m args 10 = F0 m 0 ((lg_sl ([.long y0, .long y2]) ++ List.replicate (10 - (lg_sl ([.long y0, .long y2])).length) Slot.unset).toArray) [] := by rw [ha, lg_entry_eq]
  rw [hent]
  generalize (lg_sl ([.long y0, .long y2]) ++ List.replicate (10 - (lg_sl ([.long y0, .long y2])).length) Slot.unset).toArray = ls at hl ⊢
  have hl : lv_has ls 10 [(0, .long y0), (2, .long y2)] := hl
  obtain ⟨H, hH⟩ : ∃ H : Heap, H = s.heap := ⟨_, rfl⟩
  have hL6 : ∀ (n6 : Nat) (V : VT) (H : Heap) (locs : List Loc) (ls : Array Slot) (y4 : Int64) (y6 : Int64), WI g 13 (cM g ad) ad V s.heap H locs → lv_has ls 10 [(4, .long y4), (6, .long y6)] → wp_X8_common_L6 K  n6 V y4 y6 → W p l e (headSpec wsX8_common rm_X8_common).room s m args below meth c H locs 0 0 (MQ below (va_Ql K (WPost 13 (cM g ad) ad g) (AW ad 13 s.heap.size)) args s 0 0 (AW ad 13 s.heap.size)) (F0 m 6 ls []) := by
    intro n6
    induction n6 with
    | zero => intro V H locs ls y4 y6  hI hl hw; exact False.elim hw
    | succ n6 ihL6 =>
      intro V H locs ls y4 y6  hI hl hw
      refine lv_lload hx hb dX8_common_6 (lv_at hl 1 rfl) ?_
      refine lv_lconst (v := (0 : Int64)) hx hb dX8_common_8 (by decide) ?_
      refine W.lcmp hx hb dX8_common_9 ?_
      refine lv_if_eq (tgt := 31) hx hb dX8_common_10 (by decide) (fun c1 => ?_) (fun c1 => ?_)
      · replace hw := hw.1 c1
        refine lv_lload hx hb dX8_common_31 (lv_at hl 0 rfl) ?_
        exact W.lret (v := y4) hx hb hr (x_retl hI hw) hI.2.2.2.2 dX8_common_33
      · replace hw := hw.2 c1
        refine lv_lload hx hb dX8_common_13 (lv_at hl 0 rfl) ?_
        refine lv_lload hx hb dX8_common_15 (lv_at hl 1 rfl) ?_
        obtain ⟨h2, hw⟩ := hw
        refine lv_lrem hx hb dX8_common_17 h2 ?_
        refine lv_lstore (lv' := [(8, .long (y4 - y4 / y6 * y6)), (4, .long y4), (6, .long y6)]) hx hb dX8_common_18 hl (by decide) rfl (fun ls hl => ?_)
        refine lv_lload hx hb dX8_common_20 (lv_at hl 2 rfl) ?_
        refine lv_lstore (lv' := [(4, .long y6), (8, .long (y4 - y4 / y6 * y6)), (6, .long y6)]) hx hb dX8_common_22 hl (by decide) rfl (fun ls hl => ?_)
        refine lv_lload hx hb dX8_common_24 (lv_at hl 1 rfl) ?_
        refine lv_lstore (lv' := [(6, .long (y4 - y4 / y6 * y6)), (4, .long y6), (8, .long (y4 - y4 / y6 * y6))]) hx hb dX8_common_26 hl (by decide) rfl (fun ls hl => ?_)
        refine lv_goto (tgt := 6) hx hb dX8_common_28 (by decide) ?_
        exact ihL6 V H locs ls y6 (y4 - y4 / y6 * y6) hI (lv_sub hl [1, 0] rfl) hw
  have hgo : ∀ (H : Heap) (locs : List Loc), WI g 13 (cM g ad) ad V s.heap H locs → W p l e (headSpec wsX8_common rm_X8_common).room s m args below meth c H locs 0 0 (MQ below (va_Ql K (WPost 13 (cM g ad) ad g) (AW ad 13 s.heap.size)) args s 0 0 (AW ad 13 s.heap.size)) (F0 m 0 ls []) := by
    intro H locs hI
    refine lv_lload_n hx hb dX8_common_0 rfl (lv_at hl 0 rfl) ?_
    refine lv_lstore (lv' := [(4, .long y0), (0, .long y0), (2, .long y2)]) hx hb dX8_common_1 hl (by decide) rfl (fun ls hl => ?_)
    refine lv_lload_n hx hb dX8_common_3 rfl (lv_at hl 2 rfl) ?_
    refine lv_lstore (lv' := [(6, .long y2), (4, .long y0), (0, .long y0), (2, .long y2)]) hx hb dX8_common_4 hl (by decide) rfl (fun ls hl => ?_)
    obtain ⟨n6, hw⟩ := hw
    exact hL6 n6 V H locs ls y0 y2 hI (lv_sub hl [1, 0] rfl) hw
  exact hgo s.heap [] hI
