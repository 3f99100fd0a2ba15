def rm_X8_heldFrom : Room := { frames := 6, cells := 0, slots := 0, locals := 136 }
set_option maxHeartbeats 4000000 in
set_option maxRecDepth 100000 in
theorem c_X8_heldFrom (l : Launch) (g : GP) (ad : Nat → Nat) (sz : Nat) (V : VT)   (K : Int32 → VT → Prop) (hw : wp_X8_heldFrom V  K) : Met l yX8_heldFrom wsX8_heldFrom rm_X8_heldFrom (va_Pc [.ref (ad 0)] (WPre 13 (cM g ad) ad g V sz)) (va_Qi K (WPost 13 (cM g ad) ad g) (AW ad 13 sz)) 0 0 (AW ad 13 sz) := by
  refine Met.ofW (cc := cX8_heldFrom) (maxL := 2) (ret := (some .int)) (by decide) rfl ?_
  intro p e s m args below meth c s₁ B hml hv
  obtain ⟨ha, hv⟩ := hv
  obtain rfl := hv.1
  have hI : WI g 13 (cM g ad) ad V s.heap s.heap [] := WI.start hv
  have hK := hv.2.2.1
  have hE := hv.2.2.2.2
  have hx := B.exec
  have hb := B.bytes
  have hr := B.returns
  have hts := atoms_spec (ws := wsX8_heldFrom) B.pre
  have hown : s.vm.findClass RX8 = some m.cls := findClass_of_methodNamed B.named
  have hlocks := B.notSynchronized
  have hw_0 := hts (.fieldLink RX8 136 "HoopLaneModel" "isLane" "Z") (by decide +kernel)
  have hw_1 := hts (.fieldLink RX8 159 "HoopLaneModel" "end" "I") (by decide +kernel)
  have hw_2 := hts (.constant RX8 237 (-1000000)) (by decide +kernel)
  have hw_3 := hts (.constant RX8 184 (-1000002)) (by decide +kernel)
  have hw_4 := hts (.fieldLink RX8 34 "HoopLaneModel" "least" "[I") (by decide +kernel)
  have hw_5 := hts (.fieldLink RX8 150 "HoopLaneModel" "yard" "I") (by decide +kernel)
  have hw_6 := hts (.fieldLink RX8 156 "HoopLaneModel" "lean" "I") (by decide +kernel)
  have hin8 : ∀ w ∈ wsX80, w ∈ wsX8_heldFrom := by decide +kernel
  have hl := lv_entry ([.ref (ad 0)]) (n := 2) (Nat.le_of_ble_eq_true rfl)
  have hent : entryFrame m args 2 = F0 m 0 ((lg_sl ([.ref (ad 0)]) ++ List.replicate (2 - (lg_sl ([.ref (ad 0)])).length) Slot.unset).toArray) [] := by rw [ha, lg_entry_eq]
  rw [hent]
  generalize (lg_sl ([.ref (ad 0)]) ++ List.replicate (2 - (lg_sl ([.ref (ad 0)])).length) Slot.unset).toArray = ls at hl ⊢
  have hl : lv_has ls 2 [(0, .ref (ad 0))] := hl
  obtain ⟨H, hH⟩ : ∃ H : Heap, H = s.heap := ⟨_, rfl⟩
  have hL27 : ∀ (n27 : Nat) (V : VT) (H : Heap) (locs : List Loc) (ls : Array Slot) (x1 : Int32), WI g 13 (cM g ad) ad V s.heap H locs → lv_has ls 2 [(0, .ref (ad 0)), (1, .int x1)] → wp_X8_heldFrom_L27 K  n27 V x1 → W p l e (headSpec wsX8_heldFrom rm_X8_heldFrom).room s m args below meth c H locs 0 0 (MQ below (va_Qi K (WPost 13 (cM g ad) ad g) (AW ad 13 s.heap.size)) args s 0 0 (AW ad 13 s.heap.size)) (F0 m 27 ls []) := by
    intro n27
    induction n27 with
    | zero => intro V H locs ls x1  hI hl hw; exact False.elim hw
    | succ n27 ihL27 =>
      intro V H locs ls x1  hI hl hw
      refine lv_iload_n hx hb dX8_heldFrom_27 rfl (lv_at hl 1 rfl) ?_
      refine lv_bipush (v := (10 : Int32)) hx hb dX8_heldFrom_28 (by decide) ?_
      refine lv_icmp_ge (tgt := 64) hx hb dX8_heldFrom_30 (by decide) (fun c4 => ?_) (fun c4 => ?_)
      · replace hw := hw.1 c4
        refine lv_ldc (v := (-1000000 : Int32)) hx hb hown hw_2 dX8_heldFrom_64 ?_
        exact W.iret (v := (-1000000 : Int32)) hx hb hr (x_reti hI hw) hI.2.2.2.2 dX8_heldFrom_66
      · replace hw := hw.2 c4
        refine lv_aload_n hx hb dX8_heldFrom_33 rfl (lv_at hl 0 rfl) ?_
        refine mg_28 hx hb hts hin8 hown hK hI hw_4 dX8_heldFrom_34 ?_
        refine lv_aload_n hx hb dX8_heldFrom_37 rfl (lv_at hl 0 rfl) ?_
        refine mg_16 hx hb hts hin8 hown hK hI hw_5 dX8_heldFrom_38 ?_
        refine lv_iload_n hx hb dX8_heldFrom_41 rfl (lv_at hl 1 rfl) ?_
        refine lv_aload_n hx hb dX8_heldFrom_42 rfl (lv_at hl 0 rfl) ?_
        refine mg_18 hx hb hts hin8 hown hK hI hw_6 dX8_heldFrom_43 ?_
        refine x_afti (va_runS (As := [.int (V 0 16), .int x1, .int (V 0 18)]) (rest := [.ref (ad 9)]) ⟨hx, hb, hml, hown, hts⟩ (c_X8_place l g ad H.size V (V 0 16) x1 (V 0 18) _ hw) (cwS 3 hts gX8_heldFrom_X8_place rfl rfl rfl (by decide +kernel) ⟨Nat.le_of_ble_eq_true rfl, Nat.le_of_ble_eq_true rfl⟩) (x_preS hK hE hI) rfl rfl hl.1 rfl (lv_room (Nat.le_of_ble_eq_true rfl)) dX8_heldFrom_46 ⟨Nat.zero_le _, Nat.zero_le _⟩) hI (fun r6 V5 H locs hw hI => ?_)
        obtain ⟨h7, hw⟩ := hw
        refine x_iald (k := 9) hx hb hK hI (by decide) rfl h7 dX8_heldFrom_49 ?_
        refine lv_sipush (v := (9999 : Int32)) hx hb dX8_heldFrom_50 (by decide) ?_
        refine lv_icmp_ge (tgt := 58) hx hb dX8_heldFrom_53 (by decide) (fun c8 => ?_) (fun c8 => ?_)
        · replace hw := hw.1 c8
          refine lv_iinc (v := (x1 + (1 : Int32))) (lv' := [(1, .int (x1 + (1 : Int32))), (0, .ref (ad 0))]) hx hb dX8_heldFrom_58 hl (k := 1) rfl rfl (by decide) rfl (fun ls hl => ?_)
          refine lv_goto (tgt := 27) hx hb dX8_heldFrom_61 (by decide) ?_
          exact ihL27 V5 H locs ls (x1 + (1 : Int32)) hI (lv_sub hl [1, 0] rfl) hw
        · replace hw := hw.2 c8
          refine lv_iload_n hx hb dX8_heldFrom_56 rfl (lv_at hl 1 rfl) ?_
          exact W.iret (v := x1) hx hb hr (x_reti hI hw) hI.2.2.2.2 dX8_heldFrom_57
  have hgo : ∀ (H : Heap) (locs : List Loc), WI g 13 (cM g ad) ad V s.heap H locs → W p l e (headSpec wsX8_heldFrom rm_X8_heldFrom).room s m args below meth c H locs 0 0 (MQ below (va_Qi K (WPost 13 (cM g ad) ad g) (AW ad 13 s.heap.size)) args s 0 0 (AW ad 13 s.heap.size)) (F0 m 0 ls []) := by
    intro H locs hI
    refine lv_aload_n hx hb dX8_heldFrom_0 rfl (lv_at hl 0 rfl) ?_
    refine mg_15 hx hb hts hin8 hown hK hI hw_0 dX8_heldFrom_1 ?_
    refine lv_if_ne (tgt := 10) hx hb dX8_heldFrom_4 (by decide) (fun c1 => ?_) (fun c1 => ?_)
    · replace hw := hw.1 c1
      refine lv_aload_n hx hb dX8_heldFrom_10 rfl (lv_at hl 0 rfl) ?_
      refine mg_19 hx hb hts hin8 hown hK hI hw_1 dX8_heldFrom_11 ?_
      refine lv_if_eq (tgt := 20) hx hb dX8_heldFrom_14 (by decide) (fun c2 => ?_) (fun c2 => ?_)
      · replace hw := hw.1 c2
        refine lv_aload_n hx hb dX8_heldFrom_20 rfl (lv_at hl 0 rfl) ?_
        refine lv_iconst (v := (1 : Int32)) hx hb dX8_heldFrom_21 (by decide) ?_
        refine x_aftv (va_runV (As := [.int (1 : Int32)]) (rest := []) ⟨hx, hb, hml, hown, hts⟩ (c_X8_works l g ad H.size V (1 : Int32) _ hw) (cwV 1 hts gX8_heldFrom_X8_works rfl rfl rfl (by decide +kernel) ⟨Nat.le_of_ble_eq_true rfl, Nat.le_of_ble_eq_true rfl⟩) (x_preV (k := 0) hK hE hI (by decide) rfl rfl) rfl rfl hl.1 rfl (lv_room (Nat.le_of_ble_eq_true rfl)) dX8_heldFrom_22 ⟨Nat.zero_le _, Nat.zero_le _⟩) hI (fun V3 H locs hw hI => ?_)
        refine lv_iconst (v := (1 : Int32)) hx hb dX8_heldFrom_25 (by decide) ?_
        refine lv_istore_n (lv' := [(1, .int (1 : Int32)), (0, .ref (ad 0))]) hx hb dX8_heldFrom_26 rfl hl (by decide) rfl (fun ls hl => ?_)
        obtain ⟨n27, hw⟩ := hw
        exact hL27 n27 V3 H locs ls (1 : Int32) hI (lv_sub hl [1, 0] rfl) hw
      · replace hw := hw.2 c2
        refine lv_ldc (v := (-1000000 : Int32)) hx hb hown hw_2 dX8_heldFrom_17 ?_
        exact W.iret (v := (-1000000 : Int32)) hx hb hr (x_reti hI hw) hI.2.2.2.2 dX8_heldFrom_19
    · replace hw := hw.2 c1
      refine lv_ldc (v := (-1000002 : Int32)) hx hb hown hw_3 dX8_heldFrom_7 ?_
      exact W.iret (v := (-1000002 : Int32)) hx hb hr (x_reti hI hw) hI.2.2.2.2 dX8_heldFrom_9
  exact hgo s.heap [] hI
def rm_X8_righted : Room := { frames := 6, cells := 0, slots := 0, locals := 136 }
set_option maxHeartbeats 4000000 in
set_option maxRecDepth 100000 in
theorem c_X8_righted (l : Launch) (g : GP) (ad : Nat → Nat) (sz : Nat) (V : VT)   (K : Int32 → VT → Prop) (hw : wp_X8_righted V  K) : Met l yX8_righted wsX8_righted rm_X8_righted (va_Pc [.ref (ad 0)] (WPre 13 (cM g ad) ad g V sz)) (va_Qi K (WPost 13 (cM g ad) ad g) (AW ad 13 sz)) 0 0 (AW ad 13 sz) := by
  refine Met.ofW (cc := cX8_righted) (maxL := 3) (ret := (some .int)) (by decide) rfl ?_
  intro p e s m args below meth c s₁ B hml hv
  obtain ⟨ha, hv⟩ := hv
  obtain rfl := hv.1
  have hI : WI g 13 (cM g ad) ad V s.heap s.heap [] := WI.start hv
  have hK := hv.2.2.1
  have hE := hv.2.2.2.2
  have hx := B.exec
  have hb := B.bytes
  have hr := B.returns
  have hts := atoms_spec (ws := wsX8_righted) B.pre
  have hown : s.vm.findClass RX8 = some m.cls := findClass_of_methodNamed B.named
  have hlocks := B.notSynchronized
  have hw_0 := hts (.fieldLink RX8 136 "HoopLaneModel" "isLane" "Z") (by decide +kernel)
  have hw_1 := hts (.fieldLink RX8 159 "HoopLaneModel" "end" "I") (by decide +kernel)
  have hw_2 := hts (.constant RX8 237 (-1000000)) (by decide +kernel)
  have hw_3 := hts (.fieldLink RX8 22 "HoopLaneModel" "lane" "[I") (by decide +kernel)
  have hw_4 := hts (.constant RX8 184 (-1000002)) (by decide +kernel)
  have hw_5 := hts (.fieldLink RX8 34 "HoopLaneModel" "least" "[I") (by decide +kernel)
  have hw_6 := hts (.fieldLink RX8 150 "HoopLaneModel" "yard" "I") (by decide +kernel)
  have hw_7 := hts (.fieldLink RX8 153 "HoopLaneModel" "pace" "I") (by decide +kernel)
  have hin8 : ∀ w ∈ wsX80, w ∈ wsX8_righted := by decide +kernel
  have hl := lv_entry ([.ref (ad 0)]) (n := 3) (Nat.le_of_ble_eq_true rfl)
  have hent : entryFrame m args 3 = F0 m 0 ((lg_sl ([.ref (ad 0)]) ++ List.replicate (3 - (lg_sl ([.ref (ad 0)])).length) Slot.unset).toArray) [] := by rw [ha, lg_entry_eq]
  rw [hent]
  generalize (lg_sl ([.ref (ad 0)]) ++ List.replicate (3 - (lg_sl ([.ref (ad 0)])).length) Slot.unset).toArray = ls at hl ⊢
  have hl : lv_has ls 3 [(0, .ref (ad 0))] := hl
  obtain ⟨H, hH⟩ : ∃ H : Heap, H = s.heap := ⟨_, rfl⟩
  have hL38 : ∀ (n38 : Nat) (V : VT) (H : Heap) (locs : List Loc) (ls : Array Slot) (x1 : Int32) (x2 : Int32), WI g 13 (cM g ad) ad V s.heap H locs → lv_has ls 3 [(0, .ref (ad 0)), (1, .int x1), (2, .int x2)] → wp_X8_righted_L38 K  n38 V x1 x2 → W p l e (headSpec wsX8_righted rm_X8_righted).room s m args below meth c H locs 0 0 (MQ below (va_Qi K (WPost 13 (cM g ad) ad g) (AW ad 13 s.heap.size)) args s 0 0 (AW ad 13 s.heap.size)) (F0 m 38 ls []) := by
    intro n38
    induction n38 with
    | zero => intro V H locs ls x1 x2  hI hl hw; exact False.elim hw
    | succ n38 ihL38 =>
      have hb77 : ∀ (V : VT) (H : Heap) (locs : List Loc) (ls : Array Slot) (x2 : Int32) (s0 : Int32) (s1 : Int32), WI g 13 (cM g ad) ad V s.heap H locs → lv_has ls 3 [(0, .ref (ad 0)), (2, .int x2)] → wp_X8_righted_b77 K (wp_X8_righted_L38 K  n38) V x2 s0 s1 → W p l e (headSpec wsX8_righted rm_X8_righted).room s m args below meth c H locs 0 0 (MQ below (va_Qi K (WPost 13 (cM g ad) ad g) (AW ad 13 s.heap.size)) args s 0 0 (AW ad 13 s.heap.size)) (F0 m 77 ls [.int s1, .int s0]) := by
        intro V H locs ls x2 s0 s1  hI hl hw
        refine lv_iadd hx hb dX8_righted_77 ?_
        refine lv_istore_n (lv' := [(1, .int (s0 + s1)), (0, .ref (ad 0)), (2, .int x2)]) hx hb dX8_righted_78 rfl hl (by decide) rfl (fun ls hl => ?_)
        refine lv_iinc (v := (x2 + (1 : Int32))) (lv' := [(2, .int (x2 + (1 : Int32))), (1, .int (s0 + s1)), (0, .ref (ad 0))]) hx hb dX8_righted_79 hl (k := 2) rfl rfl (by decide) rfl (fun ls hl => ?_)
        refine lv_goto (tgt := 38) hx hb dX8_righted_82 (by decide) ?_
        exact ihL38 V H locs ls (s0 + s1) (x2 + (1 : Int32)) hI (lv_sub hl [2, 1, 0] rfl) hw
      intro V H locs ls x1 x2  hI hl hw
      refine lv_iload_n hx hb dX8_righted_38 rfl (lv_at hl 2 rfl) ?_
      refine lv_aload_n hx hb dX8_righted_39 rfl (lv_at hl 0 rfl) ?_
      refine mg_5 hx hb hts hin8 hown hK hI hw_3 dX8_righted_40 ?_
      refine lv_iconst (v := (2 : Int32)) hx hb dX8_righted_43 (by decide) ?_
      obtain ⟨h6, hw⟩ := hw
      refine x_iald (k := 5) hx hb hK hI (by decide) rfl h6 dX8_righted_44 ?_
      refine lv_icmp_gt (tgt := 85) hx hb dX8_righted_45 (by decide) (fun c7 => ?_) (fun c7 => ?_)
      · replace hw := hw.1 c7
        refine lv_iload_n hx hb dX8_righted_85 rfl (lv_at hl 1 rfl) ?_
        exact W.iret (v := x1) hx hb hr (x_reti hI hw) hI.2.2.2.2 dX8_righted_86
      · replace hw := hw.2 c7
        refine lv_iload_n hx hb dX8_righted_48 rfl (lv_at hl 1 rfl) ?_
        refine lv_aload_n hx hb dX8_righted_49 rfl (lv_at hl 0 rfl) ?_
        refine mg_28 hx hb hts hin8 hown hK hI hw_5 dX8_righted_50 ?_
        refine lv_aload_n hx hb dX8_righted_53 rfl (lv_at hl 0 rfl) ?_
        refine mg_16 hx hb hts hin8 hown hK hI hw_6 dX8_righted_54 ?_
        refine lv_aload_n hx hb dX8_righted_57 rfl (lv_at hl 0 rfl) ?_
        refine mg_17 hx hb hts hin8 hown hK hI hw_7 dX8_righted_58 ?_
        refine lv_iload_n hx hb dX8_righted_61 rfl (lv_at hl 2 rfl) ?_
        refine x_afti (va_runS (As := [.int (V 0 16), .int (V 0 17), .int x2]) (rest := [.ref (ad 9), .int x1]) ⟨hx, hb, hml, hown, hts⟩ (c_X8_place l g ad H.size V (V 0 16) (V 0 17) x2 _ hw) (cwS 3 hts gX8_righted_X8_place rfl rfl rfl (by decide +kernel) ⟨Nat.le_of_ble_eq_true rfl, Nat.le_of_ble_eq_true rfl⟩) (x_preS hK hE hI) rfl rfl hl.1 rfl (lv_room (Nat.le_of_ble_eq_true rfl)) dX8_righted_62 ⟨Nat.zero_le _, Nat.zero_le _⟩) hI (fun r9 V8 H locs hw hI => ?_)
        obtain ⟨h10, hw⟩ := hw
        refine x_iald (k := 9) hx hb hK hI (by decide) rfl h10 dX8_righted_65 ?_
        refine lv_sipush (v := (9999 : Int32)) hx hb dX8_righted_66 (by decide) ?_
        refine lv_icmp_ge (tgt := 76) hx hb dX8_righted_69 (by decide) (fun c11 => ?_) (fun c11 => ?_)
        · replace hw := hw.1 c11
          refine lv_iconst (v := (0 : Int32)) hx hb dX8_righted_76 (by decide) ?_
          exact hb77 V8 H locs ls x2 x1 (0 : Int32) hI (lv_sub hl [0, 2] rfl) hw
        · replace hw := hw.2 c11
          refine lv_iconst (v := (1 : Int32)) hx hb dX8_righted_72 (by decide) ?_
          refine lv_goto (tgt := 77) hx hb dX8_righted_73 (by decide) ?_
          exact hb77 V8 H locs ls x2 x1 (1 : Int32) hI (lv_sub hl [0, 2] rfl) hw
  have hgo : ∀ (H : Heap) (locs : List Loc), WI g 13 (cM g ad) ad V s.heap H locs → W p l e (headSpec wsX8_righted rm_X8_righted).room s m args below meth c H locs 0 0 (MQ below (va_Qi K (WPost 13 (cM g ad) ad g) (AW ad 13 s.heap.size)) args s 0 0 (AW ad 13 s.heap.size)) (F0 m 0 ls []) := by
    intro H locs hI
    refine lv_aload_n hx hb dX8_righted_0 rfl (lv_at hl 0 rfl) ?_
    refine mg_15 hx hb hts hin8 hown hK hI hw_0 dX8_righted_1 ?_
    refine lv_if_ne (tgt := 10) hx hb dX8_righted_4 (by decide) (fun c1 => ?_) (fun c1 => ?_)
    · replace hw := hw.1 c1
      refine lv_aload_n hx hb dX8_righted_10 rfl (lv_at hl 0 rfl) ?_
      refine mg_19 hx hb hts hin8 hown hK hI hw_1 dX8_righted_11 ?_
      refine lv_if_ne (tgt := 26) hx hb dX8_righted_14 (by decide) (fun c2 => ?_) (fun c2 => ?_)
      · replace hw := hw.1 c2
        refine lv_ldc (v := (-1000000 : Int32)) hx hb hown hw_2 dX8_righted_26 ?_
        exact W.iret (v := (-1000000 : Int32)) hx hb hr (x_reti hI hw) hI.2.2.2.2 dX8_righted_28
      · replace hw := hw.2 c2
        refine lv_aload_n hx hb dX8_righted_17 rfl (lv_at hl 0 rfl) ?_
        refine mg_5 hx hb hts hin8 hown hK hI hw_3 dX8_righted_18 ?_
        refine lv_iconst (v := (1 : Int32)) hx hb dX8_righted_21 (by decide) ?_
        obtain ⟨h3, hw⟩ := hw
        refine x_iald (k := 5) hx hb hK hI (by decide) rfl h3 dX8_righted_22 ?_
        refine lv_if_ne (tgt := 29) hx hb dX8_righted_23 (by decide) (fun c4 => ?_) (fun c4 => ?_)
        · replace hw := hw.1 c4
          refine lv_aload_n hx hb dX8_righted_29 rfl (lv_at hl 0 rfl) ?_
          refine lv_iconst (v := (1 : Int32)) hx hb dX8_righted_30 (by decide) ?_
          refine x_aftv (va_runV (As := [.int (1 : Int32)]) (rest := []) ⟨hx, hb, hml, hown, hts⟩ (c_X8_works l g ad H.size V (1 : Int32) _ hw) (cwV 1 hts gX8_righted_X8_works rfl rfl rfl (by decide +kernel) ⟨Nat.le_of_ble_eq_true rfl, Nat.le_of_ble_eq_true rfl⟩) (x_preV (k := 0) hK hE hI (by decide) rfl rfl) rfl rfl hl.1 rfl (lv_room (Nat.le_of_ble_eq_true rfl)) dX8_righted_31 ⟨Nat.zero_le _, Nat.zero_le _⟩) hI (fun V5 H locs hw hI => ?_)
          refine lv_iconst (v := (0 : Int32)) hx hb dX8_righted_34 (by decide) ?_
          refine lv_istore_n (lv' := [(1, .int (0 : Int32)), (0, .ref (ad 0))]) hx hb dX8_righted_35 rfl hl (by decide) rfl (fun ls hl => ?_)
          refine lv_iconst (v := (0 : Int32)) hx hb dX8_righted_36 (by decide) ?_
          refine lv_istore_n (lv' := [(2, .int (0 : Int32)), (1, .int (0 : Int32)), (0, .ref (ad 0))]) hx hb dX8_righted_37 rfl hl (by decide) rfl (fun ls hl => ?_)
          obtain ⟨n38, hw⟩ := hw
          exact hL38 n38 V5 H locs ls (0 : Int32) (0 : Int32) hI (lv_sub hl [2, 1, 0] rfl) hw
        · replace hw := hw.2 c4
          refine lv_ldc (v := (-1000000 : Int32)) hx hb hown hw_2 dX8_righted_26 ?_
          exact W.iret (v := (-1000000 : Int32)) hx hb hr (x_reti hI hw) hI.2.2.2.2 dX8_righted_28
    · replace hw := hw.2 c1
      refine lv_ldc (v := (-1000002 : Int32)) hx hb hown hw_4 dX8_righted_7 ?_
      exact W.iret (v := (-1000002 : Int32)) hx hb hr (x_reti hI hw) hI.2.2.2.2 dX8_righted_9
  exact hgo s.heap [] hI
def rm_X8_areTaps : Room := { frames := 2, cells := 0, slots := 0, locals := 46 }
set_option maxHeartbeats 4000000 in
set_option maxRecDepth 100000 in
theorem c_X8_areTaps (l : Launch) (g : GP) (ad : Nat → Nat) (sz : Nat) (V : VT) (x1 : Int32) (x2 : Int32) (x3 : Int32)  (K : Int32 → VT → Prop) (hw : wp_X8_areTaps V x1 x2 x3 K) : Met l yX8_areTaps wsX8_areTaps rm_X8_areTaps (va_Pc [.ref (ad 0), .int x1, .int x2, .int x3] (WPre 13 (cM g ad) ad g V sz)) (va_Qi K (WPost 13 (cM g ad) ad g) (AW ad 13 sz)) 0 0 (AW ad 13 sz) := by
  refine Met.ofW (cc := cX8_areTaps) (maxL := 7) (ret := (some .boolean)) (by decide) rfl ?_
  intro p e s m args below meth c s₁ B hml hv
  obtain ⟨ha, hv⟩ := hv
  obtain rfl := hv.1
  have hI : WI g 13 (cM g ad) ad V s.heap s.heap [] := WI.start hv
  have hK := hv.2.2.1
  have hE := hv.2.2.2.2
  have hx := B.exec
  have hb := B.bytes
  have hr := B.returns
  have hts := atoms_spec (ws := wsX8_areTaps) B.pre
  have hown : s.vm.findClass RX8 = some m.cls := findClass_of_methodNamed B.named
  have hlocks := B.notSynchronized
  have hw_0 := hts (.fieldLink RX8 16 "HoopLaneModel" "items" "[I") (by decide +kernel)
  have hin8 : ∀ w ∈ wsX80, w ∈ wsX8_areTaps := by decide +kernel
  have hl := lv_entry ([.ref (ad 0), .int x1, .int x2, .int x3]) (n := 7) (Nat.le_of_ble_eq_true rfl)
  have hent : entryFrame m args 7 = F0 m 0 ((lg_sl ([.ref (ad 0), .int x1, .int x2, .int x3]) ++ List.replicate (7 - (lg_sl ([.ref (ad 0), .int x1, .int x2, .int x3])).length) Slot.unset).toArray) [] := by rw [ha, lg_entry_eq]
  rw [hent]
  generalize (lg_sl ([.ref (ad 0), .int x1, .int x2, .int x3]) ++ List.replicate (7 - (lg_sl ([.ref (ad 0), .int x1, .int x2, .int x3])).length) Slot.unset).toArray = ls at hl ⊢
  have hl : lv_has ls 7 [(0, .ref (ad 0)), (1, .int x1), (2, .int x2), (3, .int x3)] := hl
  obtain ⟨H, hH⟩ : ∃ H : Heap, H = s.heap := ⟨_, rfl⟩
  have hL9 : ∀ (n9 : Nat) (V : VT) (H : Heap) (locs : List Loc) (ls : Array Slot) (x1 : Int32) (x2 : Int32) (x3 : Int32) (x4 : Int32) (x5 : Int32) (x6 : Int32), WI g 13 (cM g ad) ad V s.heap H locs → lv_has ls 7 [(0, .ref (ad 0)), (1, .int x1), (2, .int x2), (3, .int x3), (4, .int x4), (5, .int x5), (6, .int x6)] → wp_X8_areTaps_L9 K  n9 V x1 x2 x3 x4 x5 x6 → W p l e (headSpec wsX8_areTaps rm_X8_areTaps).room s m args below meth c H locs 0 0 (MQ below (va_Qi K (WPost 13 (cM g ad) ad g) (AW ad 13 s.heap.size)) args s 0 0 (AW ad 13 s.heap.size)) (F0 m 9 ls []) := by
    intro n9
    induction n9 with
    | zero => intro V H locs ls x1 x2 x3 x4 x5 x6  hI hl hw; exact False.elim hw
    | succ n9 ihL9 =>
      have hb72 : ∀ (V : VT) (H : Heap) (locs : List Loc) (ls : Array Slot) (x1 : Int32) (x2 : Int32) (x3 : Int32) (x5 : Int32) (x6 : Int32) (s0 : Int32) (s1 : Int32), WI g 13 (cM g ad) ad V s.heap H locs → lv_has ls 7 [(0, .ref (ad 0)), (1, .int x1), (2, .int x2), (3, .int x3), (5, .int x5), (6, .int x6)] → wp_X8_areTaps_b72 K (wp_X8_areTaps_L9 K  n9) V x1 x2 x3 x5 x6 s0 s1 → W p l e (headSpec wsX8_areTaps rm_X8_areTaps).room s m args below meth c H locs 0 0 (MQ below (va_Qi K (WPost 13 (cM g ad) ad g) (AW ad 13 s.heap.size)) args s 0 0 (AW ad 13 s.heap.size)) (F0 m 72 ls [.int s1, .int s0]) := by
        intro V H locs ls x1 x2 x3 x5 x6 s0 s1  hI hl hw
        refine lv_iadd hx hb dX8_areTaps_72 ?_
        refine lv_istore (lv' := [(4, .int (s0 + s1)), (0, .ref (ad 0)), (1, .int x1), (2, .int x2), (3, .int x3), (5, .int x5), (6, .int x6)]) hx hb dX8_areTaps_73 hl (by decide) rfl (fun ls hl => ?_)
        refine lv_iinc (v := (x6 + (1 : Int32))) (lv' := [(6, .int (x6 + (1 : Int32))), (4, .int (s0 + s1)), (0, .ref (ad 0)), (1, .int x1), (2, .int x2), (3, .int x3), (5, .int x5)]) hx hb dX8_areTaps_75 hl (k := 6) rfl rfl (by decide) rfl (fun ls hl => ?_)
        refine lv_goto (tgt := 9) hx hb dX8_areTaps_78 (by decide) ?_
        exact ihL9 V H locs ls x1 x2 x3 (s0 + s1) x5 (x6 + (1 : Int32)) hI (lv_sub hl [2, 3, 4, 5, 1, 6, 0] rfl) hw
      have hb52 : ∀ (V : VT) (H : Heap) (locs : List Loc) (ls : Array Slot) (x1 : Int32) (x2 : Int32) (x3 : Int32) (x4 : Int32) (x6 : Int32) (s0 : Int32), WI g 13 (cM g ad) ad V s.heap H locs → lv_has ls 7 [(0, .ref (ad 0)), (1, .int x1), (2, .int x2), (3, .int x3), (4, .int x4), (6, .int x6)] → wp_X8_areTaps_b52 K (wp_X8_areTaps_L9 K  n9) V x1 x2 x3 x4 x6 s0 → W p l e (headSpec wsX8_areTaps rm_X8_areTaps).room s m args below meth c H locs 0 0 (MQ below (va_Qi K (WPost 13 (cM g ad) ad g) (AW ad 13 s.heap.size)) args s 0 0 (AW ad 13 s.heap.size)) (F0 m 52 ls [.int s0]) := by
        intro V H locs ls x1 x2 x3 x4 x6 s0  hI hl hw
        refine lv_istore (lv' := [(5, .int s0), (0, .ref (ad 0)), (1, .int x1), (2, .int x2), (3, .int x3), (4, .int x4), (6, .int x6)]) hx hb dX8_areTaps_52 hl (by decide) rfl (fun ls hl => ?_)
        refine lv_iload hx hb dX8_areTaps_54 (lv_at hl 5 rfl) ?_
        refine lv_aload_n hx hb dX8_areTaps_56 rfl (lv_at hl 1 rfl) ?_
        refine mg_2 hx hb hts hin8 hown hK hI hw_0 dX8_areTaps_57 ?_
        refine lv_iload hx hb dX8_areTaps_60 (lv_at hl 6 rfl) ?_
        obtain ⟨h11, hw⟩ := hw
        refine x_iald (k := 3) hx hb hK hI (by decide) rfl h11 dX8_areTaps_62 ?_
        refine lv_iconst (v := (-1 : Int32)) hx hb dX8_areTaps_63 (by decide) ?_
        refine lv_icmp_ne (tgt := 71) hx hb dX8_areTaps_64 (by decide) (fun c12 => ?_) (fun c12 => ?_)
        · replace hw := hw.1 c12
          refine lv_iconst (v := (1 : Int32)) hx hb dX8_areTaps_71 (by decide) ?_
          exact hb72 V H locs ls x1 x2 x3 s0 x6 x4 (1 : Int32) hI (lv_sub hl [1, 2, 3, 4, 0, 6] rfl) hw
        · replace hw := hw.2 c12
          refine lv_iconst (v := (0 : Int32)) hx hb dX8_areTaps_67 (by decide) ?_
          refine lv_goto (tgt := 72) hx hb dX8_areTaps_68 (by decide) ?_
          exact hb72 V H locs ls x1 x2 x3 s0 x6 x4 (0 : Int32) hI (lv_sub hl [1, 2, 3, 4, 0, 6] rfl) hw
      have hb51 : ∀ (V : VT) (H : Heap) (locs : List Loc) (ls : Array Slot) (x1 : Int32) (x2 : Int32) (x3 : Int32) (x4 : Int32) (x6 : Int32), WI g 13 (cM g ad) ad V s.heap H locs → lv_has ls 7 [(0, .ref (ad 0)), (1, .int x1), (2, .int x2), (3, .int x3), (4, .int x4), (6, .int x6)] → wp_X8_areTaps_b51 K (wp_X8_areTaps_L9 K  n9) V x1 x2 x3 x4 x6 → W p l e (headSpec wsX8_areTaps rm_X8_areTaps).room s m args below meth c H locs 0 0 (MQ below (va_Qi K (WPost 13 (cM g ad) ad g) (AW ad 13 s.heap.size)) args s 0 0 (AW ad 13 s.heap.size)) (F0 m 51 ls []) := by
        intro V H locs ls x1 x2 x3 x4 x6  hI hl hw
        refine lv_iconst (v := (0 : Int32)) hx hb dX8_areTaps_51 (by decide) ?_
        exact hb52 V H locs ls x1 x2 x3 x4 x6 (0 : Int32) hI (lv_sub hl [0, 1, 2, 3, 4, 5] rfl) hw
      have hb47 : ∀ (V : VT) (H : Heap) (locs : List Loc) (ls : Array Slot) (x1 : Int32) (x2 : Int32) (x3 : Int32) (x4 : Int32) (x6 : Int32), WI g 13 (cM g ad) ad V s.heap H locs → lv_has ls 7 [(0, .ref (ad 0)), (1, .int x1), (2, .int x2), (3, .int x3), (4, .int x4), (6, .int x6)] → wp_X8_areTaps_b47 K (wp_X8_areTaps_L9 K  n9) V x1 x2 x3 x4 x6 → W p l e (headSpec wsX8_areTaps rm_X8_areTaps).room s m args below meth c H locs 0 0 (MQ below (va_Qi K (WPost 13 (cM g ad) ad g) (AW ad 13 s.heap.size)) args s 0 0 (AW ad 13 s.heap.size)) (F0 m 47 ls []) := by
        intro V H locs ls x1 x2 x3 x4 x6  hI hl hw
        refine lv_iconst (v := (1 : Int32)) hx hb dX8_areTaps_47 (by decide) ?_
        refine lv_goto (tgt := 52) hx hb dX8_areTaps_48 (by decide) ?_
        exact hb52 V H locs ls x1 x2 x3 x4 x6 (1 : Int32) hI (lv_sub hl [0, 1, 2, 3, 4, 5] rfl) hw
      intro V H locs ls x1 x2 x3 x4 x5 x6  hI hl hw
      refine lv_iload hx hb dX8_areTaps_9 (lv_at hl 6 rfl) ?_
      refine lv_iload_n hx hb dX8_areTaps_11 rfl (lv_at hl 1 rfl) ?_
      refine lv_iload_n hx hb dX8_areTaps_12 rfl (lv_at hl 2 rfl) ?_
      refine lv_iadd hx hb dX8_areTaps_13 ?_
      refine lv_icmp_ge (tgt := 81) hx hb dX8_areTaps_14 (by decide) (fun c1 => ?_) (fun c1 => ?_)
      · replace hw := hw.1 c1
        refine lv_iload hx hb dX8_areTaps_81 (lv_at hl 5 rfl) ?_
        refine lv_if_eq (tgt := 96) hx hb dX8_areTaps_83 (by decide) (fun c2 => ?_) (fun c2 => ?_)
        · replace hw := hw.1 c2
          refine lv_iconst (v := (0 : Int32)) hx hb dX8_areTaps_96 (by decide) ?_
          exact W.zret (v := (0 : Int32)) hx hb hr rfl (x_reti hI hw) hI.2.2.2.2 dX8_areTaps_97
        · replace hw := hw.2 c2
          refine lv_iload hx hb dX8_areTaps_86 (lv_at hl 4 rfl) ?_
          refine lv_iload_n hx hb dX8_areTaps_88 rfl (lv_at hl 3 rfl) ?_
          refine lv_icmp_gt (tgt := 96) hx hb dX8_areTaps_89 (by decide) (fun c3 => ?_) (fun c3 => ?_)
          · replace hw := hw.1 c3
            refine lv_iconst (v := (0 : Int32)) hx hb dX8_areTaps_96 (by decide) ?_
            exact W.zret (v := (0 : Int32)) hx hb hr rfl (x_reti hI hw) hI.2.2.2.2 dX8_areTaps_97
          · replace hw := hw.2 c3
            refine lv_iconst (v := (1 : Int32)) hx hb dX8_areTaps_92 (by decide) ?_
            refine lv_goto (tgt := 97) hx hb dX8_areTaps_93 (by decide) ?_
            exact W.zret (v := (1 : Int32)) hx hb hr rfl (x_reti hI hw) hI.2.2.2.2 dX8_areTaps_97
      · replace hw := hw.2 c1
        refine lv_iload hx hb dX8_areTaps_17 (lv_at hl 5 rfl) ?_
        refine lv_if_eq (tgt := 51) hx hb dX8_areTaps_19 (by decide) (fun c4 => ?_) (fun c4 => ?_)
        · replace hw := hw.1 c4
          exact hb51 V H locs ls x1 x2 x3 x4 x6 hI (lv_sub hl [0, 1, 2, 3, 4, 6] rfl) hw
        · replace hw := hw.2 c4
          refine lv_aload_n hx hb dX8_areTaps_22 rfl (lv_at hl 0 rfl) ?_
          refine mg_2 hx hb hts hin8 hown hK hI hw_0 dX8_areTaps_23 ?_
          refine lv_iload hx hb dX8_areTaps_26 (lv_at hl 6 rfl) ?_
          obtain ⟨h5, hw⟩ := hw
          refine x_iald (k := 3) hx hb hK hI (by decide) rfl h5 dX8_areTaps_28 ?_
          refine lv_iconst (v := (-1 : Int32)) hx hb dX8_areTaps_29 (by decide) ?_
          refine lv_icmp_eq (tgt := 47) hx hb dX8_areTaps_30 (by decide) (fun c6 => ?_) (fun c6 => ?_)
          · replace hw := hw.1 c6
            exact hb47 V H locs ls x1 x2 x3 x4 x6 hI (lv_sub hl [0, 1, 2, 3, 4, 6] rfl) hw
          · replace hw := hw.2 c6
            refine lv_aload_n hx hb dX8_areTaps_33 rfl (lv_at hl 0 rfl) ?_
            refine lv_aload_n hx hb dX8_areTaps_34 rfl (lv_at hl 0 rfl) ?_
            refine mg_2 hx hb hts hin8 hown hK hI hw_0 dX8_areTaps_35 ?_
            refine lv_iload hx hb dX8_areTaps_38 (lv_at hl 6 rfl) ?_
            obtain ⟨h7, hw⟩ := hw
            refine x_iald (k := 3) hx hb hK hI (by decide) rfl h7 dX8_areTaps_40 ?_
            refine x_afti (va_runV (As := [.int (V 3 (x6).toNatClampNeg)]) (rest := []) ⟨hx, hb, hml, hown, hts⟩ (c_X8_isTap l g ad H.size V (V 3 (x6).toNatClampNeg) _ hw) (cwV 1 hts gX8_areTaps_X8_isTap rfl rfl rfl (by decide +kernel) ⟨Nat.le_of_ble_eq_true rfl, Nat.le_of_ble_eq_true rfl⟩) (x_preV (k := 0) hK hE hI (by decide) rfl rfl) rfl rfl hl.1 rfl (lv_room (Nat.le_of_ble_eq_true rfl)) dX8_areTaps_41 ⟨Nat.zero_le _, Nat.zero_le _⟩) hI (fun r9 V8 H locs hw hI => ?_)
            refine lv_if_eq (tgt := 51) hx hb dX8_areTaps_44 (by decide) (fun c10 => ?_) (fun c10 => ?_)
            · replace hw := hw.1 c10
              exact hb51 V8 H locs ls x1 x2 x3 x4 x6 hI (lv_sub hl [0, 1, 2, 3, 4, 6] rfl) hw
            · replace hw := hw.2 c10
              exact hb47 V8 H locs ls x1 x2 x3 x4 x6 hI (lv_sub hl [0, 1, 2, 3, 4, 6] rfl) hw
  have hgo : ∀ (H : Heap) (locs : List Loc), WI g 13 (cM g ad) ad V s.heap H locs → W p l e (headSpec wsX8_areTaps rm_X8_areTaps).room s m args below meth c H locs 0 0 (MQ below (va_Qi K (WPost 13 (cM g ad) ad g) (AW ad 13 s.heap.size)) args s 0 0 (AW ad 13 s.heap.size)) (F0 m 0 ls []) := by
    intro H locs hI
    refine lv_iconst (v := (0 : Int32)) hx hb dX8_areTaps_0 (by decide) ?_
    refine lv_istore (lv' := [(4, .int (0 : Int32)), (0, .ref (ad 0)), (1, .int x1), (2, .int x2), (3, .int x3)]) hx hb dX8_areTaps_1 hl (by decide) rfl (fun ls hl => ?_)
    refine lv_iconst (v := (1 : Int32)) hx hb dX8_areTaps_3 (by decide) ?_
    refine lv_istore (lv' := [(5, .int (1 : Int32)), (4, .int (0 : Int32)), (0, .ref (ad 0)), (1, .int x1), (2, .int x2), (3, .int x3)]) hx hb dX8_areTaps_4 hl (by decide) rfl (fun ls hl => ?_)
    refine lv_iload_n hx hb dX8_areTaps_6 rfl (lv_at hl 3 rfl) ?_
    refine lv_istore (lv' := [(6, .int x1), (5, .int (1 : Int32)), (4, .int (0 : Int32)), (0, .ref (ad 0)), (1, .int x1), (2, .int x2), (3, .int x3)]) hx hb dX8_areTaps_7 hl (by decide) rfl (fun ls hl => ?_)
    obtain ⟨n9, hw⟩ := hw
    exact hL9 n9 V H locs ls x1 x2 x3 (0 : Int32) (1 : Int32) x1 hI (lv_sub hl [3, 4, 5, 6, 2, 1, 0] rfl) hw
  exact hgo s.heap [] hI
def rm_X8_plan : Room := { frames := 4, cells := 0, slots := 0, locals := 87 }
set_option maxHeartbeats 4000000 in
set_option maxRecDepth 100000 in
theorem c_X8_plan (l : Launch) (g : GP) (ad : Nat → Nat) (sz : Nat) (V : VT) (x1 : Int32) (x2 : Int32) (x3 : Int32) (x4 : Int32)  (K : Int32 → VT → Prop) (hw : wp_X8_plan V x1 x2 x3 x4 K) : Met l yX8_plan wsX8_plan rm_X8_plan (va_Pc [.ref (ad 0), .int x1, .int x2, .int x3, .int x4] (WPre 13 (cM g ad) ad g V sz)) (va_Qi K (WPost 13 (cM g ad) ad g) (AW ad 13 sz)) 0 0 (AW ad 13 sz) := by
  refine Met.ofW (cc := cX8_plan) (maxL := 9) (ret := (some .int)) (by decide) rfl ?_
  intro p e s m args below meth c s₁ B hml hv
  obtain ⟨ha, hv⟩ := hv
  obtain rfl := hv.1
  have hI : WI g 13 (cM g ad) ad V s.heap s.heap [] := WI.start hv
  have hK := hv.2.2.1
  have hE := hv.2.2.2.2
  have hx := B.exec
  have hb := B.bytes
  have hr := B.returns
  have hts := atoms_spec (ws := wsX8_plan) B.pre
  have hown : s.vm.findClass RX8 = some m.cls := findClass_of_methodNamed B.named
  have hlocks := B.notSynchronized
  have hw_0 := hts (.fieldLink RX8 136 "HoopLaneModel" "isLane" "Z") (by decide +kernel)
  have hw_1 := hts (.constant RX8 64 (-1000001)) (by decide +kernel)
  have hw_2 := hts (.constantLong RX8 246 (24)) (by decide +kernel)
  have hw_3 := hts (.constant RX8 184 (-1000002)) (by decide +kernel)
  have hw_4 := hts (.fieldLink RX8 159 "HoopLaneModel" "end" "I") (by decide +kernel)
  have hw_5 := hts (.fieldLink RX8 16 "HoopLaneModel" "items" "[I") (by decide +kernel)
  have hin8 : ∀ w ∈ wsX80, w ∈ wsX8_plan := by decide +kernel
  have hl := lv_entry ([.ref (ad 0), .int x1, .int x2, .int x3, .int x4]) (n := 9) (Nat.le_of_ble_eq_true rfl)
  have hent : entryFrame m args 9 = F0 m 0 ((lg_sl ([.ref (ad 0), .int x1, .int x2, .int x3, .int x4]) ++ List.replicate (9 - (lg_sl ([.ref (ad 0), .int x1, .int x2, .int x3, .int x4])).length) Slot.unset).toArray) [] := by rw [ha, lg_entry_eq]
  rw [hent]
  generalize (lg_sl ([.ref (ad 0), .int x1, .int x2, .int x3, .int x4]) ++ List.replicate (9 - (lg_sl ([.ref (ad 0), .int x1, .int x2, .int x3, .int x4])).length) Slot.unset).toArray = ls at hl ⊢
  have hl : lv_has ls 9 [(0, .ref (ad 0)), (1, .int x1), (2, .int x2), (3, .int x3), (4, .int x4)] := hl
  obtain ⟨H, hH⟩ : ∃ H : Heap, H = s.heap := ⟨_, rfl⟩
  have hb150 : ∀ (V : VT) (H : Heap) (locs : List Loc) (ls : Array Slot) (s1 : Int32), WI g 13 (cM g ad) ad V s.heap H locs → lv_has ls 9 [] → wp_X8_plan_b150 K  V s1 → W p l e (headSpec wsX8_plan rm_X8_plan).room s m args below meth c H locs 0 0 (MQ below (va_Qi K (WPost 13 (cM g ad) ad g) (AW ad 13 s.heap.size)) args s 0 0 (AW ad 13 s.heap.size)) (F0 m 150 ls [.int s1, .ref (ad 0)]) := by
    intro V H locs ls s1  hI hl hw
    refine x_afti (va_runV (As := [.int s1]) (rest := []) ⟨hx, hb, hml, hown, hts⟩ (c_X8_well l g ad H.size V s1 _ hw) (cwV 1 hts gX8_plan_X8_well rfl rfl rfl (by decide +kernel) ⟨Nat.le_of_ble_eq_true rfl, Nat.le_of_ble_eq_true rfl⟩) (x_preV (k := 0) hK hE hI (by decide) rfl rfl) rfl rfl hl.1 rfl (lv_room (Nat.le_of_ble_eq_true rfl)) dX8_plan_150 ⟨Nat.zero_le _, Nat.zero_le _⟩) hI (fun r27 V26 H locs hw hI => ?_)
    exact W.iret (v := r27) hx hb hr (x_reti hI hw) hI.2.2.2.2 dX8_plan_153
  have hb127 : ∀ (V : VT) (H : Heap) (locs : List Loc) (ls : Array Slot) (x4 : Int32) (x7 : Int32), WI g 13 (cM g ad) ad V s.heap H locs → lv_has ls 9 [(0, .ref (ad 0)), (4, .int x4), (7, .int x7)] → wp_X8_plan_b127 K  V x4 x7 → W p l e (headSpec wsX8_plan rm_X8_plan).room s m args below meth c H locs 0 0 (MQ below (va_Qi K (WPost 13 (cM g ad) ad g) (AW ad 13 s.heap.size)) args s 0 0 (AW ad 13 s.heap.size)) (F0 m 127 ls []) := by
    intro V H locs ls x4 x7  hI hl hw
    refine lv_aload_n hx hb dX8_plan_127 rfl (lv_at hl 0 rfl) ?_
    refine mg_19 hx hb hts hin8 hown hK hI hw_4 dX8_plan_128 ?_
    refine lv_istore (lv' := [(8, .int (V 0 19)), (0, .ref (ad 0)), (4, .int x4), (7, .int x7)]) hx hb dX8_plan_131 hl (by decide) rfl (fun ls hl => ?_)
    refine lv_aload_n hx hb dX8_plan_133 rfl (lv_at hl 1 rfl) ?_
    refine x_aftv (va_runV (As := []) (rest := []) ⟨hx, hb, hml, hown, hts⟩ (c_X8_backs l g ad H.size V  _ hw) (cwV 0 hts gX8_plan_X8_backs rfl rfl rfl (by decide +kernel) ⟨Nat.le_of_ble_eq_true rfl, Nat.le_of_ble_eq_true rfl⟩) (x_preV (k := 0) hK hE hI (by decide) rfl rfl) rfl rfl hl.1 rfl (lv_room (Nat.le_of_ble_eq_true rfl)) dX8_plan_134 ⟨Nat.zero_le _, Nat.zero_le _⟩) hI (fun V24 H locs hw hI => ?_)
    refine lv_aload_n hx hb dX8_plan_137 rfl (lv_at hl 1 rfl) ?_
    refine lv_iload hx hb dX8_plan_138 (lv_at hl 2 rfl) ?_
    refine lv_if_ne (tgt := 148) hx hb dX8_plan_140 (by decide) (fun c25 => ?_) (fun c25 => ?_)
    · replace hw := hw.1 c25
      refine lv_iload hx hb dX8_plan_148 (lv_at hl 0 rfl) ?_
      exact hb150 V24 H locs ls (V 0 19) hI (lv_sub hl [] rfl) hw
    · replace hw := hw.2 c25
      refine lv_iload hx hb dX8_plan_143 (lv_at hl 3 rfl) ?_
      refine lv_goto (tgt := 150) hx hb dX8_plan_145 (by decide) ?_
      exact hb150 V24 H locs ls x7 hI (lv_sub hl [] rfl) hw
  have hL94 : ∀ (n94 : Nat) (V : VT) (H : Heap) (locs : List Loc) (ls : Array Slot) (x3 : Int32) (x4 : Int32) (x6 : Int32) (x7 : Int32), WI g 13 (cM g ad) ad V s.heap H locs → lv_has ls 9 [(0, .ref (ad 0)), (3, .int x3), (4, .int x4), (6, .int x6), (7, .int x7)] → wp_X8_plan_L94 K  n94 V x3 x4 x6 x7 → W p l e (headSpec wsX8_plan rm_X8_plan).room s m args below meth c H locs 0 0 (MQ below (va_Qi K (WPost 13 (cM g ad) ad g) (AW ad 13 s.heap.size)) args s 0 0 (AW ad 13 s.heap.size)) (F0 m 94 ls []) := by
    intro n94
    induction n94 with
    | zero => intro V H locs ls x3 x4 x6 x7  hI hl hw; exact False.elim hw
    | succ n94 ihL94 =>
      intro V H locs ls x3 x4 x6 x7  hI hl hw
      refine lv_iload hx hb dX8_plan_94 (lv_at hl 4 rfl) ?_
      refine lv_iload_n hx hb dX8_plan_96 rfl (lv_at hl 1 rfl) ?_
      refine lv_icmp_ge (tgt := 127) hx hb dX8_plan_97 (by decide) (fun c20 => ?_) (fun c20 => ?_)
      · replace hw := hw.1 c20
        exact hb127 V H locs ls x4 x7 hI (lv_sub hl [0, 2, 4] rfl) hw
      · replace hw := hw.2 c20
        refine lv_aload_n hx hb dX8_plan_100 rfl (lv_at hl 0 rfl) ?_
        refine mg_19 hx hb hts hin8 hown hK hI hw_4 dX8_plan_101 ?_
        refine lv_if_ne (tgt := 127) hx hb dX8_plan_104 (by decide) (fun c21 => ?_) (fun c21 => ?_)
        · replace hw := hw.1 c21
          exact hb127 V H locs ls x4 x7 hI (lv_sub hl [0, 2, 4] rfl) hw
        · replace hw := hw.2 c21
          refine lv_aload_n hx hb dX8_plan_107 rfl (lv_at hl 0 rfl) ?_
          refine lv_aload_n hx hb dX8_plan_108 rfl (lv_at hl 0 rfl) ?_
          refine mg_2 hx hb hts hin8 hown hK hI hw_5 dX8_plan_109 ?_
          refine lv_iload hx hb dX8_plan_112 (lv_at hl 3 rfl) ?_
          refine lv_iload hx hb dX8_plan_114 (lv_at hl 4 rfl) ?_
          refine lv_iadd hx hb dX8_plan_116 ?_
          obtain ⟨h22, hw⟩ := hw
          refine x_iald (k := 3) hx hb hK hI (by decide) rfl h22 dX8_plan_117 ?_
          refine x_aftv (va_runV (As := [.int (V 3 ((x6 + x7)).toNatClampNeg)]) (rest := []) ⟨hx, hb, hml, hown, hts⟩ (c_X8_goesWith l g ad H.size V (V 3 ((x6 + x7)).toNatClampNeg) _ hw) (cwV 1 hts gX8_plan_X8_goesWith rfl rfl rfl (by decide +kernel) ⟨Nat.le_of_ble_eq_true rfl, Nat.le_of_ble_eq_true rfl⟩) (x_preV (k := 0) hK hE hI (by decide) rfl rfl) rfl rfl hl.1 rfl (lv_room (Nat.le_of_ble_eq_true rfl)) dX8_plan_118 ⟨Nat.zero_le _, Nat.zero_le _⟩) hI (fun V23 H locs hw hI => ?_)
          refine lv_iinc (v := (x7 + (1 : Int32))) (lv' := [(7, .int (x7 + (1 : Int32))), (0, .ref (ad 0)), (3, .int x3), (4, .int x4), (6, .int x6)]) hx hb dX8_plan_121 hl (k := 4) rfl rfl (by decide) rfl (fun ls hl => ?_)
          refine lv_goto (tgt := 94) hx hb dX8_plan_124 (by decide) ?_
          exact ihL94 V23 H locs ls x3 x4 x6 (x7 + (1 : Int32)) hI (lv_sub hl [1, 2, 3, 4, 0] rfl) hw
  have hgo : ∀ (H : Heap) (locs : List Loc), WI g 13 (cM g ad) ad V s.heap H locs → W p l e (headSpec wsX8_plan rm_X8_plan).room s m args below meth c H locs 0 0 (MQ below (va_Qi K (WPost 13 (cM g ad) ad g) (AW ad 13 s.heap.size)) args s 0 0 (AW ad 13 s.heap.size)) (F0 m 0 ls []) := by
    intro H locs hI
    refine lv_aload_n hx hb dX8_plan_0 rfl (lv_at hl 0 rfl) ?_
    refine mg_15 hx hb hts hin8 hown hK hI hw_0 dX8_plan_1 ?_
    refine lv_if_ne (tgt := 10) hx hb dX8_plan_4 (by decide) (fun c1 => ?_) (fun c1 => ?_)
    · replace hw := hw.1 c1
      refine lv_iload_n hx hb dX8_plan_10 rfl (lv_at hl 1 rfl) ?_
      refine x_afti (va_runS (As := [.int x1]) (rest := []) ⟨hx, hb, hml, hown, hts⟩ (c_X8_isRow l g ad H.size V x1 _ hw) (cwS 1 hts gX8_plan_X8_isRow rfl rfl rfl (by decide +kernel) ⟨Nat.le_of_ble_eq_true rfl, Nat.le_of_ble_eq_true rfl⟩) (x_preS hK hE hI) rfl rfl hl.1 rfl (lv_room (Nat.le_of_ble_eq_true rfl)) dX8_plan_11 ⟨Nat.zero_le _, Nat.zero_le _⟩) hI (fun r3 V2 H locs hw hI => ?_)
      refine lv_if_eq (tgt := 40) hx hb dX8_plan_14 (by decide) (fun c4 => ?_) (fun c4 => ?_)
      · replace hw := hw.1 c4
        refine lv_ldc (v := (-1000001 : Int32)) hx hb hown hw_1 dX8_plan_40 ?_
        exact W.iret (v := (-1000001 : Int32)) hx hb hr (x_reti hI hw) hI.2.2.2.2 dX8_plan_42
      · replace hw := hw.2 c4
        refine lv_iload_n hx hb dX8_plan_17 rfl (lv_at hl 3 rfl) ?_
        refine lv_i2l (v := (x3).toInt64) hx hb dX8_plan_18 rfl ?_
        refine lv_lconst (v := (0 : Int64)) hx hb dX8_plan_19 (by decide) ?_
        refine lv_ldc2 (v := (24 : Int64)) hx hb hown hw_2 dX8_plan_20 ?_
        refine x_afti (va_runS (As := [.long ((x3).toInt64), .long (0 : Int64), .long (24 : Int64)]) (rest := []) ⟨hx, hb, hml, hown, hts⟩ (c_X8_in l g ad H.size V2 ((x3).toInt64) (0 : Int64) (24 : Int64) _ hw) (cwS 3 hts gX8_plan_X8_in rfl rfl rfl (by decide +kernel) ⟨Nat.le_of_ble_eq_true rfl, Nat.le_of_ble_eq_true rfl⟩) (x_preS hK hE hI) rfl rfl hl.1 rfl (lv_room (Nat.le_of_ble_eq_true rfl)) dX8_plan_23 ⟨Nat.zero_le _, Nat.zero_le _⟩) hI (fun r6 V5 H locs hw hI => ?_)
        refine lv_if_eq (tgt := 40) hx hb dX8_plan_26 (by decide) (fun c7 => ?_) (fun c7 => ?_)
        · replace hw := hw.1 c7
          refine lv_ldc (v := (-1000001 : Int32)) hx hb hown hw_1 dX8_plan_40 ?_
          exact W.iret (v := (-1000001 : Int32)) hx hb hr (x_reti hI hw) hI.2.2.2.2 dX8_plan_42
        · replace hw := hw.2 c7
          refine lv_iload hx hb dX8_plan_29 (lv_at hl 4 rfl) ?_
          refine lv_i2l (v := (x4).toInt64) hx hb dX8_plan_31 rfl ?_
          refine lv_lconst (v := (0 : Int64)) hx hb dX8_plan_32 (by decide) ?_
          refine lv_lconst (v := (1 : Int64)) hx hb dX8_plan_33 (by decide) ?_
          refine x_afti (va_runS (As := [.long ((x4).toInt64), .long (0 : Int64), .long (1 : Int64)]) (rest := []) ⟨hx, hb, hml, hown, hts⟩ (c_X8_in l g ad H.size V5 ((x4).toInt64) (0 : Int64) (1 : Int64) _ hw) (cwS 3 hts gX8_plan_X8_in rfl rfl rfl (by decide +kernel) ⟨Nat.le_of_ble_eq_true rfl, Nat.le_of_ble_eq_true rfl⟩) (x_preS hK hE hI) rfl rfl hl.1 rfl (lv_room (Nat.le_of_ble_eq_true rfl)) dX8_plan_34 ⟨Nat.zero_le _, Nat.zero_le _⟩) hI (fun r9 V8 H locs hw hI => ?_)
          refine lv_if_ne (tgt := 43) hx hb dX8_plan_37 (by decide) (fun c10 => ?_) (fun c10 => ?_)
          · replace hw := hw.1 c10
            refine lv_aload_n hx hb dX8_plan_43 rfl (lv_at hl 0 rfl) ?_
            refine lv_iload_n hx hb dX8_plan_44 rfl (lv_at hl 1 rfl) ?_
            refine lv_iload_n hx hb dX8_plan_45 rfl (lv_at hl 2 rfl) ?_
            refine lv_iload_n hx hb dX8_plan_46 rfl (lv_at hl 3 rfl) ?_
            refine x_afti (va_runV (As := [.int x1, .int x2, .int x3]) (rest := []) ⟨hx, hb, hml, hown, hts⟩ (c_X8_partOf l g ad H.size V8 x1 x2 x3 _ hw) (cwV 3 hts gX8_plan_X8_partOf rfl rfl rfl (by decide +kernel) ⟨Nat.le_of_ble_eq_true rfl, Nat.le_of_ble_eq_true rfl⟩) (x_preV (k := 0) hK hE hI (by decide) rfl rfl) rfl rfl hl.1 rfl (lv_room (Nat.le_of_ble_eq_true rfl)) dX8_plan_47 ⟨Nat.zero_le _, Nat.zero_le _⟩) hI (fun r12 V11 H locs hw hI => ?_)
            refine lv_istore (lv' := [(5, .int r12), (0, .ref (ad 0)), (1, .int x1), (2, .int x2), (3, .int x3), (4, .int x4)]) hx hb dX8_plan_50 hl (by decide) rfl (fun ls hl => ?_)
            refine lv_iload hx hb dX8_plan_52 (lv_at hl 0 rfl) ?_
            refine lv_if_le (tgt := 64) hx hb dX8_plan_54 (by decide) (fun c13 => ?_) (fun c13 => ?_)
            · replace hw := hw.1 c13
              refine lv_bipush (v := (40 : Int32)) hx hb dX8_plan_64 (by decide) ?_
              refine lv_iload_n hx hb dX8_plan_66 rfl (lv_at hl 2 rfl) ?_
              refine lv_imul hx hb dX8_plan_67 ?_
              refine lv_iload_n hx hb dX8_plan_68 rfl (lv_at hl 3 rfl) ?_
              refine lv_iadd hx hb dX8_plan_69 ?_
              refine lv_istore (lv' := [(6, .int (((40 : Int32) * x1) + x2)), (5, .int r12), (0, .ref (ad 0)), (1, .int x1), (2, .int x2), (3, .int x3), (4, .int x4)]) hx hb dX8_plan_70 hl (by decide) rfl (fun ls hl => ?_)
              refine lv_aload_n hx hb dX8_plan_72 rfl (lv_at hl 2 rfl) ?_
              refine lv_iload hx hb dX8_plan_73 (lv_at hl 0 rfl) ?_
              refine lv_iload_n hx hb dX8_plan_75 rfl (lv_at hl 5 rfl) ?_
              refine lv_bipush (v := (24 : Int32)) hx hb dX8_plan_76 (by decide) ?_
              refine x_afti (va_runV (As := [.int (((40 : Int32) * x1) + x2), .int x3, .int (24 : Int32)]) (rest := []) ⟨hx, hb, hml, hown, hts⟩ (c_X8_areTaps l g ad H.size V11 (((40 : Int32) * x1) + x2) x3 (24 : Int32) _ hw) (cwV 3 hts gX8_plan_X8_areTaps rfl rfl rfl (by decide +kernel) ⟨Nat.le_of_ble_eq_true rfl, Nat.le_of_ble_eq_true rfl⟩) (x_preV (k := 0) hK hE hI (by decide) rfl rfl) rfl rfl hl.1 rfl (lv_room (Nat.le_of_ble_eq_true rfl)) dX8_plan_78 ⟨Nat.zero_le _, Nat.zero_le _⟩) hI (fun r15 V14 H locs hw hI => ?_)
              refine lv_if_ne (tgt := 87) hx hb dX8_plan_81 (by decide) (fun c16 => ?_) (fun c16 => ?_)
              · replace hw := hw.1 c16
                refine lv_aload_n hx hb dX8_plan_87 rfl (lv_at hl 2 rfl) ?_
                refine x_aftv (va_runV (As := []) (rest := []) ⟨hx, hb, hml, hown, hts⟩ (c_X8_asides l g ad H.size V14  _ hw) (cwV 0 hts gX8_plan_X8_asides rfl rfl rfl (by decide +kernel) ⟨Nat.le_of_ble_eq_true rfl, Nat.le_of_ble_eq_true rfl⟩) (x_preV (k := 0) hK hE hI (by decide) rfl rfl) rfl rfl hl.1 rfl (lv_room (Nat.le_of_ble_eq_true rfl)) dX8_plan_88 ⟨Nat.zero_le _, Nat.zero_le _⟩) hI (fun V17 H locs hw hI => ?_)
                refine lv_iconst (v := (0 : Int32)) hx hb dX8_plan_91 (by decide) ?_
                refine lv_istore (lv' := [(7, .int (0 : Int32)), (6, .int (((40 : Int32) * x1) + x2)), (5, .int r12), (0, .ref (ad 0)), (1, .int x1), (2, .int x2), (3, .int x3), (4, .int x4)]) hx hb dX8_plan_92 hl (by decide) rfl (fun ls hl => ?_)
                obtain ⟨n94, hw⟩ := hw
                exact hL94 n94 V17 H locs ls x3 x4 (((40 : Int32) * x1) + x2) (0 : Int32) hI (lv_sub hl [3, 6, 7, 1, 0] rfl) hw
              · replace hw := hw.2 c16
                refine lv_ldc (v := (-1000001 : Int32)) hx hb hown hw_1 dX8_plan_84 ?_
                exact W.iret (v := (-1000001 : Int32)) hx hb hr (x_reti hI hw) hI.2.2.2.2 dX8_plan_86
            · replace hw := hw.2 c13
              refine lv_aload_n hx hb dX8_plan_57 rfl (lv_at hl 1 rfl) ?_
              refine lv_iload hx hb dX8_plan_58 (lv_at hl 0 rfl) ?_
              refine x_afti (va_runV (As := [.int r12]) (rest := []) ⟨hx, hb, hml, hown, hts⟩ (c_X8_finds l g ad H.size V11 r12 _ hw) (cwV 1 hts gX8_plan_X8_finds rfl rfl rfl (by decide +kernel) ⟨Nat.le_of_ble_eq_true rfl, Nat.le_of_ble_eq_true rfl⟩) (x_preV (k := 0) hK hE hI (by decide) rfl rfl) rfl rfl hl.1 rfl (lv_room (Nat.le_of_ble_eq_true rfl)) dX8_plan_60 ⟨Nat.zero_le _, Nat.zero_le _⟩) hI (fun r19 V18 H locs hw hI => ?_)
              exact W.iret (v := r19) hx hb hr (x_reti hI hw) hI.2.2.2.2 dX8_plan_63
          · replace hw := hw.2 c10
            refine lv_ldc (v := (-1000001 : Int32)) hx hb hown hw_1 dX8_plan_40 ?_
            exact W.iret (v := (-1000001 : Int32)) hx hb hr (x_reti hI hw) hI.2.2.2.2 dX8_plan_42
    · replace hw := hw.2 c1
      refine lv_ldc (v := (-1000002 : Int32)) hx hb hown hw_3 dX8_plan_7 ?_
      exact W.iret (v := (-1000002 : Int32)) hx hb hr (x_reti hI hw) hI.2.2.2.2 dX8_plan_9
  exact hgo s.heap [] hI
def rm_X8_isSeen : Room := { frames := 3, cells := 0, slots := 0, locals := 66 }
set_option maxHeartbeats 4000000 in
set_option maxRecDepth 100000 in
theorem c_X8_isSeen (l : Launch) (g : GP) (ad : Nat → Nat) (sz : Nat) (V : VT) (x1 : Int32) (x2 : Int32) (x3 : Int32) (x4 : Int32)  (K : Int32 → VT → Prop) (hw : wp_X8_isSeen V x1 x2 x3 x4 K) : Met l yX8_isSeen wsX8_isSeen rm_X8_isSeen (va_Pc [.ref (ad 0), .int x1, .int x2, .int x3, .int x4] (WPre 13 (cM g ad) ad g V sz)) (va_Qi K (WPost 13 (cM g ad) ad g) (AW ad 13 sz)) 0 0 (AW ad 13 sz) := by
  refine Met.ofW (cc := cX8_isSeen) (maxL := 7) (ret := (some .boolean)) (by decide) rfl ?_
  intro p e s m args below meth c s₁ B hml hv
  obtain ⟨ha, hv⟩ := hv
  obtain rfl := hv.1
  have hI : WI g 13 (cM g ad) ad V s.heap s.heap [] := WI.start hv
  have hK := hv.2.2.1
  have hE := hv.2.2.2.2
  have hx := B.exec
  have hb := B.bytes
  have hr := B.returns
  have hts := atoms_spec (ws := wsX8_isSeen) B.pre
  have hown : s.vm.findClass RX8 = some m.cls := findClass_of_methodNamed B.named
  have hlocks := B.notSynchronized
  have hw_0 := hts (.fieldLink RX8 159 "HoopLaneModel" "end" "I") (by decide +kernel)
  have hw_1 := hts (.fieldLink RX8 150 "HoopLaneModel" "yard" "I") (by decide +kernel)
  have hw_2 := hts (.fieldLink RX8 16 "HoopLaneModel" "items" "[I") (by decide +kernel)
  have hin8 : ∀ w ∈ wsX80, w ∈ wsX8_isSeen := by decide +kernel
  have hl := lv_entry ([.ref (ad 0), .int x1, .int x2, .int x3, .int x4]) (n := 7) (Nat.le_of_ble_eq_true rfl)
  have hent : entryFrame m args 7 = F0 m 0 ((lg_sl ([.ref (ad 0), .int x1, .int x2, .int x3, .int x4]) ++ List.replicate (7 - (lg_sl ([.ref (ad 0), .int x1, .int x2, .int x3, .int x4])).length) Slot.unset).toArray) [] := by rw [ha, lg_entry_eq]
  rw [hent]
  generalize (lg_sl ([.ref (ad 0), .int x1, .int x2, .int x3, .int x4]) ++ List.replicate (7 - (lg_sl ([.ref (ad 0), .int x1, .int x2, .int x3, .int x4])).length) Slot.unset).toArray = ls at hl ⊢
  have hl : lv_has ls 7 [(0, .ref (ad 0)), (1, .int x1), (2, .int x2), (3, .int x3), (4, .int x4)] := hl
  obtain ⟨H, hH⟩ : ∃ H : Heap, H = s.heap := ⟨_, rfl⟩
  have hL6 : ∀ (n6 : Nat) (V : VT) (H : Heap) (locs : List Loc) (ls : Array Slot) (x1 : Int32) (x2 : Int32) (x3 : Int32) (x4 : Int32) (x5 : Int32) (x6 : Int32), WI g 13 (cM g ad) ad V s.heap H locs → lv_has ls 7 [(0, .ref (ad 0)), (1, .int x1), (2, .int x2), (3, .int x3), (4, .int x4), (5, .int x5), (6, .int x6)] → wp_X8_isSeen_L6 K  n6 V x1 x2 x3 x4 x5 x6 → W p l e (headSpec wsX8_isSeen rm_X8_isSeen).room s m args below meth c H locs 0 0 (MQ below (va_Qi K (WPost 13 (cM g ad) ad g) (AW ad 13 s.heap.size)) args s 0 0 (AW ad 13 s.heap.size)) (F0 m 6 ls []) := by
    intro n6
    induction n6 with
    | zero => intro V H locs ls x1 x2 x3 x4 x5 x6  hI hl hw; exact False.elim hw
    | succ n6 ihL6 =>
      have hb61 : ∀ (V : VT) (H : Heap) (locs : List Loc) (ls : Array Slot) (x1 : Int32) (x2 : Int32) (x3 : Int32) (x4 : Int32) (x6 : Int32) (s0 : Int32), WI g 13 (cM g ad) ad V s.heap H locs → lv_has ls 7 [(0, .ref (ad 0)), (1, .int x1), (2, .int x2), (3, .int x3), (4, .int x4), (6, .int x6)] → wp_X8_isSeen_b61 K (wp_X8_isSeen_L6 K  n6) V x1 x2 x3 x4 x6 s0 → W p l e (headSpec wsX8_isSeen rm_X8_isSeen).room s m args below meth c H locs 0 0 (MQ below (va_Qi K (WPost 13 (cM g ad) ad g) (AW ad 13 s.heap.size)) args s 0 0 (AW ad 13 s.heap.size)) (F0 m 61 ls [.int s0]) := by
        intro V H locs ls x1 x2 x3 x4 x6 s0  hI hl hw
        refine lv_istore (lv' := [(5, .int s0), (0, .ref (ad 0)), (1, .int x1), (2, .int x2), (3, .int x3), (4, .int x4), (6, .int x6)]) hx hb dX8_isSeen_61 hl (by decide) rfl (fun ls hl => ?_)
        refine lv_iinc (v := (x6 + (1 : Int32))) (lv' := [(6, .int (x6 + (1 : Int32))), (5, .int s0), (0, .ref (ad 0)), (1, .int x1), (2, .int x2), (3, .int x3), (4, .int x4)]) hx hb dX8_isSeen_63 hl (k := 6) rfl rfl (by decide) rfl (fun ls hl => ?_)
        refine lv_goto (tgt := 6) hx hb dX8_isSeen_66 (by decide) ?_
        exact ihL6 V H locs ls x1 x2 x3 x4 s0 (x6 + (1 : Int32)) hI (lv_sub hl [2, 3, 4, 5, 6, 1, 0] rfl) hw
      have hb60 : ∀ (V : VT) (H : Heap) (locs : List Loc) (ls : Array Slot) (x1 : Int32) (x2 : Int32) (x3 : Int32) (x4 : Int32) (x6 : Int32), WI g 13 (cM g ad) ad V s.heap H locs → lv_has ls 7 [(0, .ref (ad 0)), (1, .int x1), (2, .int x2), (3, .int x3), (4, .int x4), (6, .int x6)] → wp_X8_isSeen_b60 K (wp_X8_isSeen_L6 K  n6) V x1 x2 x3 x4 x6 → W p l e (headSpec wsX8_isSeen rm_X8_isSeen).room s m args below meth c H locs 0 0 (MQ below (va_Qi K (WPost 13 (cM g ad) ad g) (AW ad 13 s.heap.size)) args s 0 0 (AW ad 13 s.heap.size)) (F0 m 60 ls []) := by
        intro V H locs ls x1 x2 x3 x4 x6  hI hl hw
        refine lv_iconst (v := (0 : Int32)) hx hb dX8_isSeen_60 (by decide) ?_
        exact hb61 V H locs ls x1 x2 x3 x4 x6 (0 : Int32) hI (lv_sub hl [0, 1, 2, 3, 4, 5] rfl) hw
      have hb35 : ∀ (V : VT) (H : Heap) (locs : List Loc) (ls : Array Slot) (x1 : Int32) (x2 : Int32) (x3 : Int32) (x4 : Int32) (x5 : Int32) (x6 : Int32), WI g 13 (cM g ad) ad V s.heap H locs → lv_has ls 7 [(0, .ref (ad 0)), (1, .int x1), (2, .int x2), (3, .int x3), (4, .int x4), (5, .int x5), (6, .int x6)] → wp_X8_isSeen_b35 K (wp_X8_isSeen_L6 K  n6) V x1 x2 x3 x4 x5 x6 → W p l e (headSpec wsX8_isSeen rm_X8_isSeen).room s m args below meth c H locs 0 0 (MQ below (va_Qi K (WPost 13 (cM g ad) ad g) (AW ad 13 s.heap.size)) args s 0 0 (AW ad 13 s.heap.size)) (F0 m 35 ls []) := by
        intro V H locs ls x1 x2 x3 x4 x5 x6  hI hl hw
        refine lv_iload hx hb dX8_isSeen_35 (lv_at hl 5 rfl) ?_
        refine lv_if_eq (tgt := 60) hx hb dX8_isSeen_37 (by decide) (fun c5 => ?_) (fun c5 => ?_)
        · replace hw := hw.1 c5
          exact hb60 V H locs ls x1 x2 x3 x4 x6 hI (lv_sub hl [0, 1, 2, 3, 4, 6] rfl) hw
        · replace hw := hw.2 c5
          refine lv_aload_n hx hb dX8_isSeen_40 rfl (lv_at hl 0 rfl) ?_
          refine mg_16 hx hb hts hin8 hown hK hI hw_1 dX8_isSeen_41 ?_
          refine lv_aload_n hx hb dX8_isSeen_44 rfl (lv_at hl 0 rfl) ?_
          refine mg_2 hx hb hts hin8 hown hK hI hw_2 dX8_isSeen_45 ?_
          refine lv_iload_n hx hb dX8_isSeen_48 rfl (lv_at hl 1 rfl) ?_
          refine lv_iload hx hb dX8_isSeen_49 (lv_at hl 6 rfl) ?_
          refine lv_iadd hx hb dX8_isSeen_51 ?_
          obtain ⟨h6, hw⟩ := hw
          refine x_iald (k := 3) hx hb hK hI (by decide) rfl h6 dX8_isSeen_52 ?_
          refine lv_icmp_ne (tgt := 60) hx hb dX8_isSeen_53 (by decide) (fun c7 => ?_) (fun c7 => ?_)
          · replace hw := hw.1 c7
            exact hb60 V H locs ls x1 x2 x3 x4 x6 hI (lv_sub hl [0, 1, 2, 3, 4, 6] rfl) hw
          · replace hw := hw.2 c7
            refine lv_iconst (v := (1 : Int32)) hx hb dX8_isSeen_56 (by decide) ?_
            refine lv_goto (tgt := 61) hx hb dX8_isSeen_57 (by decide) ?_
            exact hb61 V H locs ls x1 x2 x3 x4 x6 (1 : Int32) hI (lv_sub hl [0, 1, 2, 3, 4, 6] rfl) hw
      have hb30 : ∀ (V : VT) (H : Heap) (locs : List Loc) (ls : Array Slot) (x1 : Int32) (x2 : Int32) (x3 : Int32) (x4 : Int32) (x5 : Int32) (x6 : Int32) (s1 : Int32), WI g 13 (cM g ad) ad V s.heap H locs → lv_has ls 7 [(0, .ref (ad 0)), (1, .int x1), (2, .int x2), (3, .int x3), (4, .int x4), (5, .int x5), (6, .int x6)] → wp_X8_isSeen_b30 K (wp_X8_isSeen_L6 K  n6) V x1 x2 x3 x4 x5 x6 s1 → W p l e (headSpec wsX8_isSeen rm_X8_isSeen).room s m args below meth c H locs 0 0 (MQ below (va_Qi K (WPost 13 (cM g ad) ad g) (AW ad 13 s.heap.size)) args s 0 0 (AW ad 13 s.heap.size)) (F0 m 30 ls [.int s1, .ref (ad 0)]) := by
        intro V H locs ls x1 x2 x3 x4 x5 x6 s1  hI hl hw
        refine lv_iload hx hb dX8_isSeen_30 (lv_at hl 4 rfl) ?_
        refine x_aftv (va_runV (As := [.int s1, .int x4]) (rest := []) ⟨hx, hb, hml, hown, hts⟩ (c_X8_goes l g ad H.size V s1 x4 _ hw) (cwV 2 hts gX8_isSeen_X8_goes rfl rfl rfl (by decide +kernel) ⟨Nat.le_of_ble_eq_true rfl, Nat.le_of_ble_eq_true rfl⟩) (x_preV (k := 0) hK hE hI (by decide) rfl rfl) rfl rfl hl.1 rfl (lv_room (Nat.le_of_ble_eq_true rfl)) dX8_isSeen_32 ⟨Nat.zero_le _, Nat.zero_le _⟩) hI (fun V8 H locs hw hI => ?_)
        exact hb35 V8 H locs ls x1 x2 x3 x4 x5 x6 hI (lv_sub hl [0, 1, 2, 3, 4, 5, 6] rfl) hw
      intro V H locs ls x1 x2 x3 x4 x5 x6  hI hl hw
      refine lv_iload hx hb dX8_isSeen_6 (lv_at hl 6 rfl) ?_
      refine lv_iload_n hx hb dX8_isSeen_8 rfl (lv_at hl 2 rfl) ?_
      refine lv_icmp_ge (tgt := 69) hx hb dX8_isSeen_9 (by decide) (fun c1 => ?_) (fun c1 => ?_)
      · replace hw := hw.1 c1
        refine lv_iload hx hb dX8_isSeen_69 (lv_at hl 5 rfl) ?_
        obtain ⟨h2, hw⟩ := hw
        exact W.zret (v := x5) hx hb hr (nar_z h2) (x_reti hI hw) hI.2.2.2.2 dX8_isSeen_71
      · replace hw := hw.2 c1
        refine lv_aload_n hx hb dX8_isSeen_12 rfl (lv_at hl 0 rfl) ?_
        refine mg_19 hx hb hts hin8 hown hK hI hw_0 dX8_isSeen_13 ?_
        refine lv_if_ne (tgt := 35) hx hb dX8_isSeen_16 (by decide) (fun c3 => ?_) (fun c3 => ?_)
        · replace hw := hw.1 c3
          exact hb35 V H locs ls x1 x2 x3 x4 x5 x6 hI (lv_sub hl [0, 1, 2, 3, 4, 5, 6] rfl) hw
        · replace hw := hw.2 c3
          refine lv_aload_n hx hb dX8_isSeen_19 rfl (lv_at hl 0 rfl) ?_
          refine lv_iload hx hb dX8_isSeen_20 (lv_at hl 6 rfl) ?_
          refine lv_if_ne (tgt := 29) hx hb dX8_isSeen_22 (by decide) (fun c4 => ?_) (fun c4 => ?_)
          · replace hw := hw.1 c4
            refine lv_iconst (v := (0 : Int32)) hx hb dX8_isSeen_29 (by decide) ?_
            exact hb30 V H locs ls x1 x2 x3 x4 x5 x6 (0 : Int32) hI (lv_sub hl [0, 1, 2, 3, 4, 5, 6] rfl) hw
          · replace hw := hw.2 c4
            refine lv_iload_n hx hb dX8_isSeen_25 rfl (lv_at hl 3 rfl) ?_
            refine lv_goto (tgt := 30) hx hb dX8_isSeen_26 (by decide) ?_
            exact hb30 V H locs ls x1 x2 x3 x4 x5 x6 x3 hI (lv_sub hl [0, 1, 2, 3, 4, 5, 6] rfl) hw
  have hgo : ∀ (H : Heap) (locs : List Loc), WI g 13 (cM g ad) ad V s.heap H locs → W p l e (headSpec wsX8_isSeen rm_X8_isSeen).room s m args below meth c H locs 0 0 (MQ below (va_Qi K (WPost 13 (cM g ad) ad g) (AW ad 13 s.heap.size)) args s 0 0 (AW ad 13 s.heap.size)) (F0 m 0 ls []) := by
    intro H locs hI
    refine lv_iconst (v := (1 : Int32)) hx hb dX8_isSeen_0 (by decide) ?_
    refine lv_istore (lv' := [(5, .int (1 : Int32)), (0, .ref (ad 0)), (1, .int x1), (2, .int x2), (3, .int x3), (4, .int x4)]) hx hb dX8_isSeen_1 hl (by decide) rfl (fun ls hl => ?_)
    refine lv_iconst (v := (0 : Int32)) hx hb dX8_isSeen_3 (by decide) ?_
    refine lv_istore (lv' := [(6, .int (0 : Int32)), (5, .int (1 : Int32)), (0, .ref (ad 0)), (1, .int x1), (2, .int x2), (3, .int x3), (4, .int x4)]) hx hb dX8_isSeen_4 hl (by decide) rfl (fun ls hl => ?_)
    obtain ⟨n6, hw⟩ := hw
    exact hL6 n6 V H locs ls x1 x2 x3 x4 (1 : Int32) (0 : Int32) hI (lv_sub hl [2, 3, 4, 5, 6, 1, 0] rfl) hw
  exact hgo s.heap [] hI
def rm_X8_seen : Room := { frames := 4, cells := 0, slots := 0, locals := 92 }
set_option maxHeartbeats 4000000 in
set_option maxRecDepth 100000 in
theorem c_X8_seen (l : Launch) (g : GP) (ad : Nat → Nat) (sz : Nat) (V : VT) (x1 : Int32) (x2 : Int32) (x3 : Int32) (x4 : Int32)  (K : Int32 → VT → Prop) (hw : wp_X8_seen V x1 x2 x3 x4 K) : Met l yX8_seen wsX8_seen rm_X8_seen (va_Pc [.ref (ad 0), .int x1, .int x2, .int x3, .int x4] (WPre 13 (cM g ad) ad g V sz)) (va_Qi K (WPost 13 (cM g ad) ad g) (AW ad 13 sz)) 0 0 (AW ad 13 sz) := by
  refine Met.ofW (cc := cX8_seen) (maxL := 8) (ret := (some .int)) (by decide) rfl ?_
  intro p e s m args below meth c s₁ B hml hv
  obtain ⟨ha, hv⟩ := hv
  obtain rfl := hv.1
  have hI : WI g 13 (cM g ad) ad V s.heap s.heap [] := WI.start hv
  have hK := hv.2.2.1
  have hE := hv.2.2.2.2
  have hx := B.exec
  have hb := B.bytes
  have hr := B.returns
  have hts := atoms_spec (ws := wsX8_seen) B.pre
  have hown : s.vm.findClass RX8 = some m.cls := findClass_of_methodNamed B.named
  have hlocks := B.notSynchronized
  have hw_0 := hts (.fieldLink RX8 136 "HoopLaneModel" "isLane" "Z") (by decide +kernel)
  have hw_1 := hts (.constant RX8 64 (-1000001)) (by decide +kernel)
  have hw_2 := hts (.constantLong RX8 254 (8)) (by decide +kernel)
  have hw_3 := hts (.fieldLink RX8 159 "HoopLaneModel" "end" "I") (by decide +kernel)
  have hw_4 := hts (.fieldLink RX8 22 "HoopLaneModel" "lane" "[I") (by decide +kernel)
  have hw_5 := hts (.constant RX8 184 (-1000002)) (by decide +kernel)
  have hw_6 := hts (.fieldLink RX8 153 "HoopLaneModel" "pace" "I") (by decide +kernel)
  have hw_7 := hts (.fieldLink RX8 156 "HoopLaneModel" "lean" "I") (by decide +kernel)
  have hin8 : ∀ w ∈ wsX80, w ∈ wsX8_seen := by decide +kernel
  have hl := lv_entry ([.ref (ad 0), .int x1, .int x2, .int x3, .int x4]) (n := 8) (Nat.le_of_ble_eq_true rfl)
  have hent : entryFrame m args 8 = F0 m 0 ((lg_sl ([.ref (ad 0), .int x1, .int x2, .int x3, .int x4]) ++ List.replicate (8 - (lg_sl ([.ref (ad 0), .int x1, .int x2, .int x3, .int x4])).length) Slot.unset).toArray) [] := by rw [ha, lg_entry_eq]
  rw [hent]
  generalize (lg_sl ([.ref (ad 0), .int x1, .int x2, .int x3, .int x4]) ++ List.replicate (8 - (lg_sl ([.ref (ad 0), .int x1, .int x2, .int x3, .int x4])).length) Slot.unset).toArray = ls at hl ⊢
  have hl : lv_has ls 8 [(0, .ref (ad 0)), (1, .int x1), (2, .int x2), (3, .int x3), (4, .int x4)] := hl
  obtain ⟨H, hH⟩ : ∃ H : Heap, H = s.heap := ⟨_, rfl⟩
  have hL99 : ∀ (n99 : Nat) (V : VT) (H : Heap) (locs : List Loc) (ls : Array Slot) (x1 : Int32) (x2 : Int32) (x3 : Int32) (x4 : Int32) (x6 : Int32) (x7 : Int32), WI g 13 (cM g ad) ad V s.heap H locs → lv_has ls 8 [(0, .ref (ad 0)), (1, .int x1), (2, .int x2), (3, .int x3), (4, .int x4), (6, .int x6), (7, .int x7)] → wp_X8_seen_L99 K  n99 V x1 x2 x3 x4 x6 x7 → W p l e (headSpec wsX8_seen rm_X8_seen).room s m args below meth c H locs 0 0 (MQ below (va_Qi K (WPost 13 (cM g ad) ad g) (AW ad 13 s.heap.size)) args s 0 0 (AW ad 13 s.heap.size)) (F0 m 99 ls []) := by
    intro n99
    induction n99 with
    | zero => intro V H locs ls x1 x2 x3 x4 x6 x7  hI hl hw; exact False.elim hw
    | succ n99 ihL99 =>
      have hb193 : ∀ (V : VT) (H : Heap) (locs : List Loc) (ls : Array Slot) (x1 : Int32) (x2 : Int32) (x3 : Int32) (x4 : Int32) (x7 : Int32) (s0 : Int32) (s1 : Int32), WI g 13 (cM g ad) ad V s.heap H locs → lv_has ls 8 [(0, .ref (ad 0)), (1, .int x1), (2, .int x2), (3, .int x3), (4, .int x4), (7, .int x7)] → wp_X8_seen_b193 K (wp_X8_seen_L99 K  n99) V x1 x2 x3 x4 x7 s0 s1 → W p l e (headSpec wsX8_seen rm_X8_seen).room s m args below meth c H locs 0 0 (MQ below (va_Qi K (WPost 13 (cM g ad) ad g) (AW ad 13 s.heap.size)) args s 0 0 (AW ad 13 s.heap.size)) (F0 m 193 ls [.int s1, .int s0]) := by
        intro V H locs ls x1 x2 x3 x4 x7 s0 s1  hI hl hw
        refine lv_ior hx hb dX8_seen_193 ?_
        refine lv_istore (lv' := [(6, .int (s0 ||| s1)), (0, .ref (ad 0)), (1, .int x1), (2, .int x2), (3, .int x3), (4, .int x4), (7, .int x7)]) hx hb dX8_seen_194 hl (by decide) rfl (fun ls hl => ?_)
        refine lv_aload_n hx hb dX8_seen_196 rfl (lv_at hl 1 rfl) ?_
        refine x_aftv (va_runV (As := []) (rest := []) ⟨hx, hb, hml, hown, hts⟩ (c_X8_backs l g ad H.size V  _ hw) (cwV 0 hts gX8_seen_X8_backs rfl rfl rfl (by decide +kernel) ⟨Nat.le_of_ble_eq_true rfl, Nat.le_of_ble_eq_true rfl⟩) (x_preV (k := 0) hK hE hI (by decide) rfl rfl) rfl rfl hl.1 rfl (lv_room (Nat.le_of_ble_eq_true rfl)) dX8_seen_197 ⟨Nat.zero_le _, Nat.zero_le _⟩) hI (fun V33 H locs hw hI => ?_)
        refine lv_iinc (v := (x7 + (1 : Int32))) (lv' := [(7, .int (x7 + (1 : Int32))), (6, .int (s0 ||| s1)), (0, .ref (ad 0)), (1, .int x1), (2, .int x2), (3, .int x3), (4, .int x4)]) hx hb dX8_seen_200 hl (k := 6) rfl rfl (by decide) rfl (fun ls hl => ?_)
        refine lv_goto (tgt := 99) hx hb dX8_seen_203 (by decide) ?_
        exact ihL99 V33 H locs ls x1 x2 x3 x4 (s0 ||| s1) (x7 + (1 : Int32)) hI (lv_sub hl [2, 3, 4, 5, 6, 1, 0] rfl) hw
      have hb187 : ∀ (V : VT) (H : Heap) (locs : List Loc) (ls : Array Slot) (x1 : Int32) (x2 : Int32) (x3 : Int32) (x4 : Int32) (x7 : Int32) (s0 : Int32) (s1 : Int32) (s2 : Int32) (s3 : Int32), WI g 13 (cM g ad) ad V s.heap H locs → lv_has ls 8 [(0, .ref (ad 0)), (1, .int x1), (2, .int x2), (3, .int x3), (4, .int x4), (7, .int x7)] → wp_X8_seen_b187 K (wp_X8_seen_L99 K  n99) V x1 x2 x3 x4 x7 s0 s1 s2 s3 → W p l e (headSpec wsX8_seen rm_X8_seen).room s m args below meth c H locs 0 0 (MQ below (va_Qi K (WPost 13 (cM g ad) ad g) (AW ad 13 s.heap.size)) args s 0 0 (AW ad 13 s.heap.size)) (F0 m 187 ls [.int s3, .int s2, .int s1, .int s0]) := by
        intro V H locs ls x1 x2 x3 x4 x7 s0 s1 s2 s3  hI hl hw
        refine lv_iadd hx hb dX8_seen_187 ?_
        refine lv_ishl hx hb dX8_seen_188 ?_
        refine lv_goto (tgt := 193) hx hb dX8_seen_189 (by decide) ?_
        exact hb193 V H locs ls x1 x2 x3 x4 x7 s0 (s1 <<< ((s2 + s3) &&& (31 : Int32))) hI (lv_sub hl [0, 1, 2, 3, 4, 5] rfl) hw
      have hb153 : ∀ (V : VT) (H : Heap) (locs : List Loc) (ls : Array Slot) (x1 : Int32) (x2 : Int32) (x3 : Int32) (x4 : Int32) (x6 : Int32) (x7 : Int32) (s1 : Int32), WI g 13 (cM g ad) ad V s.heap H locs → lv_has ls 8 [(0, .ref (ad 0)), (1, .int x1), (2, .int x2), (3, .int x3), (4, .int x4), (6, .int x6), (7, .int x7)] → wp_X8_seen_b153 K (wp_X8_seen_L99 K  n99) V x1 x2 x3 x4 x6 x7 s1 → W p l e (headSpec wsX8_seen rm_X8_seen).room s m args below meth c H locs 0 0 (MQ below (va_Qi K (WPost 13 (cM g ad) ad g) (AW ad 13 s.heap.size)) args s 0 0 (AW ad 13 s.heap.size)) (F0 m 153 ls [.int s1, .ref (ad 0)]) := by
        intro V H locs ls x1 x2 x3 x4 x6 x7 s1  hI hl hw
        refine mp_18 hx hb hts hin8 hown hK hI hw_7 dX8_seen_153 (fun V28 H locs eV28 hI => ?_)
        replace hw := hw V28 eV28
        refine lv_iload hx hb dX8_seen_156 (lv_at hl 5 rfl) ?_
        refine lv_aload_n hx hb dX8_seen_158 rfl (lv_at hl 0 rfl) ?_
        refine lv_bipush (v := (40 : Int32)) hx hb dX8_seen_159 (by decide) ?_
        refine lv_iload_n hx hb dX8_seen_161 rfl (lv_at hl 1 rfl) ?_
        refine lv_imul hx hb dX8_seen_162 ?_
        refine lv_iload_n hx hb dX8_seen_163 rfl (lv_at hl 2 rfl) ?_
        refine lv_iadd hx hb dX8_seen_164 ?_
        refine lv_iload_n hx hb dX8_seen_165 rfl (lv_at hl 3 rfl) ?_
        refine lv_iconst (v := (0 : Int32)) hx hb dX8_seen_166 (by decide) ?_
        refine lv_iconst (v := (0 : Int32)) hx hb dX8_seen_167 (by decide) ?_
        refine x_afti (va_runV (As := [.int (((40 : Int32) * x1) + x2), .int x3, .int (0 : Int32), .int (0 : Int32)]) (rest := [.int x6]) ⟨hx, hb, hml, hown, hts⟩ (c_X8_isSeen l g ad H.size V28 (((40 : Int32) * x1) + x2) x3 (0 : Int32) (0 : Int32) _ hw) (cwV 4 hts gX8_seen_X8_isSeen rfl rfl rfl (by decide +kernel) ⟨Nat.le_of_ble_eq_true rfl, Nat.le_of_ble_eq_true rfl⟩) (x_preV (k := 0) hK hE hI (by decide) rfl rfl) rfl rfl hl.1 rfl (lv_room (Nat.le_of_ble_eq_true rfl)) dX8_seen_168 ⟨Nat.zero_le _, Nat.zero_le _⟩) hI (fun r30 V29 H locs hw hI => ?_)
        refine lv_if_eq (tgt := 192) hx hb dX8_seen_171 (by decide) (fun c31 => ?_) (fun c31 => ?_)
        · replace hw := hw.1 c31
          refine lv_iconst (v := (0 : Int32)) hx hb dX8_seen_192 (by decide) ?_
          exact hb193 V29 H locs ls x1 x2 x3 x4 x7 x6 (0 : Int32) hI (lv_sub hl [0, 1, 2, 3, 4, 6] rfl) hw
        · replace hw := hw.2 c31
          refine lv_iconst (v := (1 : Int32)) hx hb dX8_seen_174 (by decide) ?_
          refine lv_iload hx hb dX8_seen_175 (lv_at hl 6 rfl) ?_
          refine lv_iload hx hb dX8_seen_177 (lv_at hl 4 rfl) ?_
          refine lv_if_ne (tgt := 186) hx hb dX8_seen_179 (by decide) (fun c32 => ?_) (fun c32 => ?_)
          · replace hw := hw.1 c32
            refine lv_iconst (v := (5 : Int32)) hx hb dX8_seen_186 (by decide) ?_
            exact hb187 V29 H locs ls x1 x2 x3 x4 x7 x6 (1 : Int32) x7 (5 : Int32) hI (lv_sub hl [0, 1, 2, 3, 4, 6] rfl) hw
          · replace hw := hw.2 c32
            refine lv_iconst (v := (0 : Int32)) hx hb dX8_seen_182 (by decide) ?_
            refine lv_goto (tgt := 187) hx hb dX8_seen_183 (by decide) ?_
            exact hb187 V29 H locs ls x1 x2 x3 x4 x7 x6 (1 : Int32) x7 (0 : Int32) hI (lv_sub hl [0, 1, 2, 3, 4, 6] rfl) hw
      have hb135 : ∀ (V : VT) (H : Heap) (locs : List Loc) (ls : Array Slot) (x1 : Int32) (x2 : Int32) (x3 : Int32) (x4 : Int32) (x6 : Int32) (x7 : Int32) (s1 : Int32), WI g 13 (cM g ad) ad V s.heap H locs → lv_has ls 8 [(0, .ref (ad 0)), (1, .int x1), (2, .int x2), (3, .int x3), (4, .int x4), (6, .int x6), (7, .int x7)] → wp_X8_seen_b135 K (wp_X8_seen_L99 K  n99) V x1 x2 x3 x4 x6 x7 s1 → W p l e (headSpec wsX8_seen rm_X8_seen).room s m args below meth c H locs 0 0 (MQ below (va_Qi K (WPost 13 (cM g ad) ad g) (AW ad 13 s.heap.size)) args s 0 0 (AW ad 13 s.heap.size)) (F0 m 135 ls [.int s1, .ref (ad 0)]) := by
        intro V H locs ls x1 x2 x3 x4 x6 x7 s1  hI hl hw
        refine mp_17 hx hb hts hin8 hown hK hI hw_6 dX8_seen_135 (fun V26 H locs eV26 hI => ?_)
        replace hw := hw V26 eV26
        refine lv_aload_n hx hb dX8_seen_138 rfl (lv_at hl 0 rfl) ?_
        refine lv_iload hx hb dX8_seen_139 (lv_at hl 4 rfl) ?_
        refine lv_if_ne (tgt := 151) hx hb dX8_seen_141 (by decide) (fun c27 => ?_) (fun c27 => ?_)
        · replace hw := hw.1 c27
          refine lv_iload hx hb dX8_seen_151 (lv_at hl 6 rfl) ?_
          exact hb153 V26 H locs ls x1 x2 x3 x4 x6 x7 x7 hI (lv_sub hl [0, 1, 2, 3, 4, 5, 6] rfl) hw
        · replace hw := hw.2 c27
          refine lv_aload_n hx hb dX8_seen_144 rfl (lv_at hl 0 rfl) ?_
          refine mg_18 hx hb hts hin8 hown hK hI hw_7 dX8_seen_145 ?_
          refine lv_goto (tgt := 153) hx hb dX8_seen_148 (by decide) ?_
          exact hb153 V26 H locs ls x1 x2 x3 x4 x6 x7 (V26 0 18) hI (lv_sub hl [0, 1, 2, 3, 4, 5, 6] rfl) hw
      have hb117 : ∀ (V : VT) (H : Heap) (locs : List Loc) (ls : Array Slot) (x1 : Int32) (x2 : Int32) (x3 : Int32) (x4 : Int32) (x6 : Int32) (x7 : Int32) (s0 : Int32) (s1 : Int32), WI g 13 (cM g ad) ad V s.heap H locs → lv_has ls 8 [(0, .ref (ad 0)), (1, .int x1), (2, .int x2), (3, .int x3), (4, .int x4), (6, .int x6), (7, .int x7)] → wp_X8_seen_b117 K (wp_X8_seen_L99 K  n99) V x1 x2 x3 x4 x6 x7 s0 s1 → W p l e (headSpec wsX8_seen rm_X8_seen).room s m args below meth c H locs 0 0 (MQ below (va_Qi K (WPost 13 (cM g ad) ad g) (AW ad 13 s.heap.size)) args s 0 0 (AW ad 13 s.heap.size)) (F0 m 117 ls [.int s1, .int s0]) := by
        intro V H locs ls x1 x2 x3 x4 x6 x7 s0 s1  hI hl hw
        refine lv_icmp_gt (tgt := 206) hx hb dX8_seen_117 (by decide) (fun c22 => ?_) (fun c22 => ?_)
        · replace hw := hw.1 c22
          refine lv_aload_n hx hb dX8_seen_206 rfl (lv_at hl 0 rfl) ?_
          refine lv_iload hx hb dX8_seen_207 (lv_at hl 5 rfl) ?_
          refine x_afti (va_runV (As := [.int x6]) (rest := []) ⟨hx, hb, hml, hown, hts⟩ (c_X8_well l g ad H.size V x6 _ hw) (cwV 1 hts gX8_seen_X8_well rfl rfl rfl (by decide +kernel) ⟨Nat.le_of_ble_eq_true rfl, Nat.le_of_ble_eq_true rfl⟩) (x_preV (k := 0) hK hE hI (by decide) rfl rfl) rfl rfl hl.1 rfl (lv_room (Nat.le_of_ble_eq_true rfl)) dX8_seen_209 ⟨Nat.zero_le _, Nat.zero_le _⟩) hI (fun r24 V23 H locs hw hI => ?_)
          exact W.iret (v := r24) hx hb hr (x_reti hI hw) hI.2.2.2.2 dX8_seen_212
        · replace hw := hw.2 c22
          refine lv_aload_n hx hb dX8_seen_120 rfl (lv_at hl 0 rfl) ?_
          refine lv_iload hx hb dX8_seen_121 (lv_at hl 4 rfl) ?_
          refine lv_if_ne (tgt := 131) hx hb dX8_seen_123 (by decide) (fun c25 => ?_) (fun c25 => ?_)
          · replace hw := hw.1 c25
            refine lv_aload_n hx hb dX8_seen_131 rfl (lv_at hl 0 rfl) ?_
            refine mg_17 hx hb hts hin8 hown hK hI hw_6 dX8_seen_132 ?_
            exact hb135 V H locs ls x1 x2 x3 x4 x6 x7 (V 0 17) hI (lv_sub hl [0, 1, 2, 3, 4, 5, 6] rfl) hw
          · replace hw := hw.2 c25
            refine lv_iload hx hb dX8_seen_126 (lv_at hl 6 rfl) ?_
            refine lv_goto (tgt := 135) hx hb dX8_seen_128 (by decide) ?_
            exact hb135 V H locs ls x1 x2 x3 x4 x6 x7 x7 hI (lv_sub hl [0, 1, 2, 3, 4, 5, 6] rfl) hw
      intro V H locs ls x1 x2 x3 x4 x6 x7  hI hl hw
      refine lv_iload hx hb dX8_seen_99 (lv_at hl 6 rfl) ?_
      refine lv_iload hx hb dX8_seen_101 (lv_at hl 4 rfl) ?_
      refine lv_if_ne (tgt := 111) hx hb dX8_seen_103 (by decide) (fun c20 => ?_) (fun c20 => ?_)
      · replace hw := hw.1 c20
        refine lv_aload_n hx hb dX8_seen_111 rfl (lv_at hl 0 rfl) ?_
        refine mg_5 hx hb hts hin8 hown hK hI hw_4 dX8_seen_112 ?_
        refine lv_iconst (v := (2 : Int32)) hx hb dX8_seen_115 (by decide) ?_
        obtain ⟨h21, hw⟩ := hw
        refine x_iald (k := 5) hx hb hK hI (by decide) rfl h21 dX8_seen_116 ?_
        exact hb117 V H locs ls x1 x2 x3 x4 x6 x7 x7 (V 5 ((2 : Int32)).toNatClampNeg) hI (lv_sub hl [0, 1, 2, 3, 4, 5, 6] rfl) hw
      · replace hw := hw.2 c20
        refine lv_bipush (v := (9 : Int32)) hx hb dX8_seen_106 (by decide) ?_
        refine lv_goto (tgt := 117) hx hb dX8_seen_108 (by decide) ?_
        exact hb117 V H locs ls x1 x2 x3 x4 x6 x7 x7 (9 : Int32) hI (lv_sub hl [0, 1, 2, 3, 4, 5, 6] rfl) hw
  have hb97 : ∀ (V : VT) (H : Heap) (locs : List Loc) (ls : Array Slot) (x1 : Int32) (x2 : Int32) (x3 : Int32) (x4 : Int32) (x6 : Int32) (s0 : Int32), WI g 13 (cM g ad) ad V s.heap H locs → lv_has ls 8 [(0, .ref (ad 0)), (1, .int x1), (2, .int x2), (3, .int x3), (4, .int x4), (6, .int x6)] → wp_X8_seen_b97 K  V x1 x2 x3 x4 x6 s0 → W p l e (headSpec wsX8_seen rm_X8_seen).room s m args below meth c H locs 0 0 (MQ below (va_Qi K (WPost 13 (cM g ad) ad g) (AW ad 13 s.heap.size)) args s 0 0 (AW ad 13 s.heap.size)) (F0 m 97 ls [.int s0]) := by
    intro V H locs ls x1 x2 x3 x4 x6 s0  hI hl hw
    refine lv_istore (lv' := [(7, .int s0), (0, .ref (ad 0)), (1, .int x1), (2, .int x2), (3, .int x3), (4, .int x4), (6, .int x6)]) hx hb dX8_seen_97 hl (by decide) rfl (fun ls hl => ?_)
    obtain ⟨n99, hw⟩ := hw
    exact hL99 n99 V H locs ls x1 x2 x3 x4 x6 s0 hI (lv_sub hl [1, 2, 3, 4, 5, 6, 0] rfl) hw
  have hgo : ∀ (H : Heap) (locs : List Loc), WI g 13 (cM g ad) ad V s.heap H locs → W p l e (headSpec wsX8_seen rm_X8_seen).room s m args below meth c H locs 0 0 (MQ below (va_Qi K (WPost 13 (cM g ad) ad g) (AW ad 13 s.heap.size)) args s 0 0 (AW ad 13 s.heap.size)) (F0 m 0 ls []) := by
    intro H locs hI
    refine lv_aload_n hx hb dX8_seen_0 rfl (lv_at hl 0 rfl) ?_
    refine mg_15 hx hb hts hin8 hown hK hI hw_0 dX8_seen_1 ?_
    refine lv_if_ne (tgt := 10) hx hb dX8_seen_4 (by decide) (fun c1 => ?_) (fun c1 => ?_)
    · replace hw := hw.1 c1
      refine lv_iload_n hx hb dX8_seen_10 rfl (lv_at hl 1 rfl) ?_
      refine x_afti (va_runS (As := [.int x1]) (rest := []) ⟨hx, hb, hml, hown, hts⟩ (c_X8_isRow l g ad H.size V x1 _ hw) (cwS 1 hts gX8_seen_X8_isRow rfl rfl rfl (by decide +kernel) ⟨Nat.le_of_ble_eq_true rfl, Nat.le_of_ble_eq_true rfl⟩) (x_preS hK hE hI) rfl rfl hl.1 rfl (lv_room (Nat.le_of_ble_eq_true rfl)) dX8_seen_11 ⟨Nat.zero_le _, Nat.zero_le _⟩) hI (fun r3 V2 H locs hw hI => ?_)
      refine lv_if_eq (tgt := 40) hx hb dX8_seen_14 (by decide) (fun c4 => ?_) (fun c4 => ?_)
      · replace hw := hw.1 c4
        refine lv_ldc (v := (-1000001 : Int32)) hx hb hown hw_1 dX8_seen_40 ?_
        exact W.iret (v := (-1000001 : Int32)) hx hb hr (x_reti hI hw) hI.2.2.2.2 dX8_seen_42
      · replace hw := hw.2 c4
        refine lv_iload_n hx hb dX8_seen_17 rfl (lv_at hl 3 rfl) ?_
        refine lv_i2l (v := (x3).toInt64) hx hb dX8_seen_18 rfl ?_
        refine lv_lconst (v := (1 : Int64)) hx hb dX8_seen_19 (by decide) ?_
        refine lv_ldc2 (v := (8 : Int64)) hx hb hown hw_2 dX8_seen_20 ?_
        refine x_afti (va_runS (As := [.long ((x3).toInt64), .long (1 : Int64), .long (8 : Int64)]) (rest := []) ⟨hx, hb, hml, hown, hts⟩ (c_X8_in l g ad H.size V2 ((x3).toInt64) (1 : Int64) (8 : Int64) _ hw) (cwS 3 hts gX8_seen_X8_in rfl rfl rfl (by decide +kernel) ⟨Nat.le_of_ble_eq_true rfl, Nat.le_of_ble_eq_true rfl⟩) (x_preS hK hE hI) rfl rfl hl.1 rfl (lv_room (Nat.le_of_ble_eq_true rfl)) dX8_seen_23 ⟨Nat.zero_le _, Nat.zero_le _⟩) hI (fun r6 V5 H locs hw hI => ?_)
        refine lv_if_eq (tgt := 40) hx hb dX8_seen_26 (by decide) (fun c7 => ?_) (fun c7 => ?_)
        · replace hw := hw.1 c7
          refine lv_ldc (v := (-1000001 : Int32)) hx hb hown hw_1 dX8_seen_40 ?_
          exact W.iret (v := (-1000001 : Int32)) hx hb hr (x_reti hI hw) hI.2.2.2.2 dX8_seen_42
        · replace hw := hw.2 c7
          refine lv_iload hx hb dX8_seen_29 (lv_at hl 4 rfl) ?_
          refine lv_i2l (v := (x4).toInt64) hx hb dX8_seen_31 rfl ?_
          refine lv_lconst (v := (0 : Int64)) hx hb dX8_seen_32 (by decide) ?_
          refine lv_lconst (v := (1 : Int64)) hx hb dX8_seen_33 (by decide) ?_
          refine x_afti (va_runS (As := [.long ((x4).toInt64), .long (0 : Int64), .long (1 : Int64)]) (rest := []) ⟨hx, hb, hml, hown, hts⟩ (c_X8_in l g ad H.size V5 ((x4).toInt64) (0 : Int64) (1 : Int64) _ hw) (cwS 3 hts gX8_seen_X8_in rfl rfl rfl (by decide +kernel) ⟨Nat.le_of_ble_eq_true rfl, Nat.le_of_ble_eq_true rfl⟩) (x_preS hK hE hI) rfl rfl hl.1 rfl (lv_room (Nat.le_of_ble_eq_true rfl)) dX8_seen_34 ⟨Nat.zero_le _, Nat.zero_le _⟩) hI (fun r9 V8 H locs hw hI => ?_)
          refine lv_if_ne (tgt := 43) hx hb dX8_seen_37 (by decide) (fun c10 => ?_) (fun c10 => ?_)
          · replace hw := hw.1 c10
            refine lv_aload_n hx hb dX8_seen_43 rfl (lv_at hl 0 rfl) ?_
            refine mg_19 hx hb hts hin8 hown hK hI hw_3 dX8_seen_44 ?_
            refine lv_if_eq (tgt := 53) hx hb dX8_seen_47 (by decide) (fun c11 => ?_) (fun c11 => ?_)
            · replace hw := hw.1 c11
              refine lv_aload_n hx hb dX8_seen_53 rfl (lv_at hl 0 rfl) ?_
              refine lv_iload_n hx hb dX8_seen_54 rfl (lv_at hl 1 rfl) ?_
              refine lv_iload_n hx hb dX8_seen_55 rfl (lv_at hl 2 rfl) ?_
              refine lv_iload_n hx hb dX8_seen_56 rfl (lv_at hl 3 rfl) ?_
              refine x_afti (va_runV (As := [.int x1, .int x2, .int x3]) (rest := []) ⟨hx, hb, hml, hown, hts⟩ (c_X8_partOf l g ad H.size V8 x1 x2 x3 _ hw) (cwV 3 hts gX8_seen_X8_partOf rfl rfl rfl (by decide +kernel) ⟨Nat.le_of_ble_eq_true rfl, Nat.le_of_ble_eq_true rfl⟩) (x_preV (k := 0) hK hE hI (by decide) rfl rfl) rfl rfl hl.1 rfl (lv_room (Nat.le_of_ble_eq_true rfl)) dX8_seen_57 ⟨Nat.zero_le _, Nat.zero_le _⟩) hI (fun r13 V12 H locs hw hI => ?_)
              refine lv_istore (lv' := [(5, .int r13), (0, .ref (ad 0)), (1, .int x1), (2, .int x2), (3, .int x3), (4, .int x4)]) hx hb dX8_seen_60 hl (by decide) rfl (fun ls hl => ?_)
              refine lv_iload hx hb dX8_seen_62 (lv_at hl 0 rfl) ?_
              refine lv_if_le (tgt := 74) hx hb dX8_seen_64 (by decide) (fun c14 => ?_) (fun c14 => ?_)
              · replace hw := hw.1 c14
                refine lv_aload_n hx hb dX8_seen_74 rfl (lv_at hl 1 rfl) ?_
                refine x_aftv (va_runV (As := []) (rest := []) ⟨hx, hb, hml, hown, hts⟩ (c_X8_asides l g ad H.size V12  _ hw) (cwV 0 hts gX8_seen_X8_asides rfl rfl rfl (by decide +kernel) ⟨Nat.le_of_ble_eq_true rfl, Nat.le_of_ble_eq_true rfl⟩) (x_preV (k := 0) hK hE hI (by decide) rfl rfl) rfl rfl hl.1 rfl (lv_room (Nat.le_of_ble_eq_true rfl)) dX8_seen_75 ⟨Nat.zero_le _, Nat.zero_le _⟩) hI (fun V15 H locs hw hI => ?_)
                refine lv_iconst (v := (0 : Int32)) hx hb dX8_seen_78 (by decide) ?_
                refine lv_istore (lv' := [(6, .int (0 : Int32)), (5, .int r13), (0, .ref (ad 0)), (1, .int x1), (2, .int x2), (3, .int x3), (4, .int x4)]) hx hb dX8_seen_79 hl (by decide) rfl (fun ls hl => ?_)
                refine lv_iload hx hb dX8_seen_81 (lv_at hl 6 rfl) ?_
                refine lv_if_ne (tgt := 90) hx hb dX8_seen_83 (by decide) (fun c16 => ?_) (fun c16 => ?_)
                · replace hw := hw.1 c16
                  refine lv_aload_n hx hb dX8_seen_90 rfl (lv_at hl 2 rfl) ?_
                  refine mg_5 hx hb hts hin8 hown hK hI hw_4 dX8_seen_91 ?_
                  refine lv_iconst (v := (2 : Int32)) hx hb dX8_seen_94 (by decide) ?_
                  obtain ⟨h17, hw⟩ := hw
                  refine x_iald (k := 5) hx hb hK hI (by decide) rfl h17 dX8_seen_95 ?_
                  refine lv_ineg hx hb dX8_seen_96 ?_
                  exact hb97 V15 H locs ls x1 x2 x3 x4 (0 : Int32) (-(V15 5 ((2 : Int32)).toNatClampNeg)) hI (lv_sub hl [2, 3, 4, 5, 6, 0] rfl) hw
                · replace hw := hw.2 c16
                  refine lv_iconst (v := (1 : Int32)) hx hb dX8_seen_86 (by decide) ?_
                  refine lv_goto (tgt := 97) hx hb dX8_seen_87 (by decide) ?_
                  exact hb97 V15 H locs ls x1 x2 x3 x4 (0 : Int32) (1 : Int32) hI (lv_sub hl [2, 3, 4, 5, 6, 0] rfl) hw
              · replace hw := hw.2 c14
                refine lv_aload_n hx hb dX8_seen_67 rfl (lv_at hl 1 rfl) ?_
                refine lv_iload hx hb dX8_seen_68 (lv_at hl 0 rfl) ?_
                refine x_afti (va_runV (As := [.int r13]) (rest := []) ⟨hx, hb, hml, hown, hts⟩ (c_X8_finds l g ad H.size V12 r13 _ hw) (cwV 1 hts gX8_seen_X8_finds rfl rfl rfl (by decide +kernel) ⟨Nat.le_of_ble_eq_true rfl, Nat.le_of_ble_eq_true rfl⟩) (x_preV (k := 0) hK hE hI (by decide) rfl rfl) rfl rfl hl.1 rfl (lv_room (Nat.le_of_ble_eq_true rfl)) dX8_seen_70 ⟨Nat.zero_le _, Nat.zero_le _⟩) hI (fun r19 V18 H locs hw hI => ?_)
                exact W.iret (v := r19) hx hb hr (x_reti hI hw) hI.2.2.2.2 dX8_seen_73
            · replace hw := hw.2 c11
              refine lv_ldc (v := (-1000002 : Int32)) hx hb hown hw_5 dX8_seen_50 ?_
              exact W.iret (v := (-1000002 : Int32)) hx hb hr (x_reti hI hw) hI.2.2.2.2 dX8_seen_52
          · replace hw := hw.2 c10
            refine lv_ldc (v := (-1000001 : Int32)) hx hb hown hw_1 dX8_seen_40 ?_
            exact W.iret (v := (-1000001 : Int32)) hx hb hr (x_reti hI hw) hI.2.2.2.2 dX8_seen_42
    · replace hw := hw.2 c1
      refine lv_ldc (v := (-1000002 : Int32)) hx hb hown hw_5 dX8_seen_7 ?_
      exact W.iret (v := (-1000002 : Int32)) hx hb hr (x_reti hI hw) hI.2.2.2.2 dX8_seen_9
  exact hgo s.heap [] hI
