def rm_X7_isOfKind : Room := { frames := 0, cells := 0, slots := 0, locals := 0 }
set_option maxHeartbeats 4000000 in
set_option maxRecDepth 100000 in
theorem c_X7_isOfKind (l : Launch) (g : GP) (ad : Nat → Nat) (sz : Nat) (V : VT) (x0 : Int32) (x1 : Int32)  (K : Int32 → VT → Prop) (hw : wp_X7_isOfKind V x0 x1 K) : Met l yX7_isOfKind wsX7_isOfKind rm_X7_isOfKind (va_Pc [.int x0, .int x1] (WPre 76 (cX g ad) ad g V sz)) (va_Qi K (WPost 76 (cX g ad) ad g) (AW ad 76 sz)) 0 0 (AW ad 76 sz) := by
  refine Met.ofW (cc := cX7_isOfKind) (maxL := 4) (ret := (some .boolean)) (by decide) rfl ?_
  intro p e s m args below meth c s₁ B hml hv
  obtain ⟨ha, hv⟩ := hv
  obtain rfl := hv.1
  have hI : WI g 76 (cX g ad) ad V s.heap s.heap [] := WI.start hv
  have hK := hv.2.2.1
  have hE := hv.2.2.2.2
  have hx := B.exec
  have hb := B.bytes
  have hr := B.returns
  have hts := atoms_spec (ws := wsX7_isOfKind) B.pre
  have hown : s.vm.findClass RX7 = some m.cls := findClass_of_methodNamed B.named
  have hlocks := B.notSynchronized
  have hw_0 := hts (.fieldLink RX7 294 "HoopLane" "NEAREST" "[I") (by decide +kernel)
  have hl := lv_entry ([.int x0, .int x1]) (n := 4) (Nat.le_of_ble_eq_true rfl)
  have hent : entryFrame m args 4 = F0 m 0 ((lg_sl ([.int x0, .int x1]) ++ List.replicate (4 - (lg_sl ([.int x0, .int x1])).length) Slot.unset).toArray) [] := by rw [ha, lg_entry_eq]
  rw [hent]
  generalize (lg_sl ([.int x0, .int x1]) ++ List.replicate (4 - (lg_sl ([.int x0, .int x1])).length) Slot.unset).toArray = ls at hl ⊢
  have hl : lv_has ls 4 [(0, .int x0), (1, .int x1)] := hl
  obtain ⟨H, hH⟩ : ∃ H : Heap, H = s.heap := ⟨_, rfl⟩
  have hL4 : ∀ (n4 : Nat) (V : VT) (H : Heap) (locs : List Loc) (ls : Array Slot) (x1 : Int32) (x2 : Int32) (x3 : Int32), WI g 76 (cX g ad) ad V s.heap H locs → lv_has ls 4 [(1, .int x1), (2, .int x2), (3, .int x3)] → wp_X7_isOfKind_L4 K  n4 V x1 x2 x3 → W p l e (headSpec wsX7_isOfKind rm_X7_isOfKind).room s m args below meth c H locs 0 0 (MQ below (va_Qi K (WPost 76 (cX g ad) ad g) (AW ad 76 s.heap.size)) args s 0 0 (AW ad 76 s.heap.size)) (F0 m 4 ls []) := by
    intro n4
    induction n4 with
    | zero => intro V H locs ls x1 x2 x3  hI hl hw; exact False.elim hw
    | succ n4 ihL4 =>
      intro V H locs ls x1 x2 x3  hI hl hw
      refine lv_iload_n hx hb dX7_isOfKind_4 rfl (lv_at hl 2 rfl) ?_
      refine va_gets hx hb hE.2.2.2.1 hI.2.2 hown hw_0 (fun _ h => h) dX7_isOfKind_5 ?_
      refine va_tlen hx hb hE.2.2.2.2 hI.2.2 (v := nI (stN 2)) rfl dX7_isOfKind_8 ?_
      refine lv_icmp_ge (tgt := 43) hx hb dX7_isOfKind_9 (by decide) (fun c1 => ?_) (fun c1 => ?_)
      · replace hw := hw.1 c1
        refine lv_iconst (v := (0 : Int32)) hx hb dX7_isOfKind_43 (by decide) ?_
        exact W.zret (v := (0 : Int32)) hx hb hr rfl (x_reti hI hw) hI.2.2.2.2 dX7_isOfKind_44
      · replace hw := hw.2 c1
        refine lv_iload_n hx hb dX7_isOfKind_12 rfl (lv_at hl 1 rfl) ?_
        refine lv_if_lt (tgt := 43) hx hb dX7_isOfKind_13 (by decide) (fun c2 => ?_) (fun c2 => ?_)
        · replace hw := hw.1 c2
          refine lv_iconst (v := (0 : Int32)) hx hb dX7_isOfKind_43 (by decide) ?_
          exact W.zret (v := (0 : Int32)) hx hb hr rfl (x_reti hI hw) hI.2.2.2.2 dX7_isOfKind_44
        · replace hw := hw.2 c2
          refine lv_iload_n hx hb dX7_isOfKind_16 rfl (lv_at hl 1 rfl) ?_
          refine va_gets hx hb hE.2.2.2.1 hI.2.2 hown hw_0 (fun _ h => h) dX7_isOfKind_17 ?_
          refine va_tlen hx hb hE.2.2.2.2 hI.2.2 (v := nI (stN 2)) rfl dX7_isOfKind_20 ?_
          refine lv_icmp_ge (tgt := 43) hx hb dX7_isOfKind_21 (by decide) (fun c3 => ?_) (fun c3 => ?_)
          · replace hw := hw.1 c3
            refine lv_iconst (v := (0 : Int32)) hx hb dX7_isOfKind_43 (by decide) ?_
            exact W.zret (v := (0 : Int32)) hx hb hr rfl (x_reti hI hw) hI.2.2.2.2 dX7_isOfKind_44
          · replace hw := hw.2 c3
            refine lv_iload_n hx hb dX7_isOfKind_24 rfl (lv_at hl 1 rfl) ?_
            refine lv_iload_n hx hb dX7_isOfKind_25 rfl (lv_at hl 0 rfl) ?_
            refine lv_icmp_ne (tgt := 31) hx hb dX7_isOfKind_26 (by decide) (fun c4 => ?_) (fun c4 => ?_)
            · replace hw := hw.1 c4
              refine va_gets hx hb hE.2.2.2.1 hI.2.2 hown hw_0 (fun _ h => h) dX7_isOfKind_31 ?_
              refine lv_iload_n hx hb dX7_isOfKind_34 rfl (lv_at hl 1 rfl) ?_
              obtain ⟨h5, hw⟩ := hw
              refine va_ti hx hb hE.2.2.2.2 hI.2.2 (v := .int (stF 2 (x2).toNatClampNeg)) h5 rfl dX7_isOfKind_35 ?_
              refine lv_istore_n (lv' := [(2, .int (stF 2 (x2).toNatClampNeg)), (1, .int x1), (3, .int x3)]) hx hb dX7_isOfKind_36 rfl hl (by decide) rfl (fun ls hl => ?_)
              refine lv_iinc (v := (x3 + (1 : Int32))) (lv' := [(3, .int (x3 + (1 : Int32))), (2, .int (stF 2 (x2).toNatClampNeg)), (1, .int x1)]) hx hb dX7_isOfKind_37 hl (k := 2) rfl rfl (by decide) rfl (fun ls hl => ?_)
              refine lv_goto (tgt := 4) hx hb dX7_isOfKind_40 (by decide) ?_
              exact ihL4 V H locs ls x1 (stF 2 (x2).toNatClampNeg) (x3 + (1 : Int32)) hI (lv_sub hl [2, 1, 0] rfl) hw
            · replace hw := hw.2 c4
              refine lv_iconst (v := (1 : Int32)) hx hb dX7_isOfKind_29 (by decide) ?_
              exact W.zret (v := (1 : Int32)) hx hb hr rfl (x_reti hI hw) hI.2.2.2.2 dX7_isOfKind_30
  have hgo : ∀ (H : Heap) (locs : List Loc), WI g 76 (cX g ad) ad V s.heap H locs → W p l e (headSpec wsX7_isOfKind rm_X7_isOfKind).room s m args below meth c H locs 0 0 (MQ below (va_Qi K (WPost 76 (cX g ad) ad g) (AW ad 76 s.heap.size)) args s 0 0 (AW ad 76 s.heap.size)) (F0 m 0 ls []) := by
    intro H locs hI
    refine lv_iload_n hx hb dX7_isOfKind_0 rfl (lv_at hl 0 rfl) ?_
    refine lv_istore_n (lv' := [(2, .int x0), (0, .int x0), (1, .int x1)]) hx hb dX7_isOfKind_1 rfl hl (by decide) rfl (fun ls hl => ?_)
    refine lv_iconst (v := (0 : Int32)) hx hb dX7_isOfKind_2 (by decide) ?_
    refine lv_istore_n (lv' := [(3, .int (0 : Int32)), (2, .int x0), (0, .int x0), (1, .int x1)]) hx hb dX7_isOfKind_3 rfl hl (by decide) rfl (fun ls hl => ?_)
    obtain ⟨n4, hw⟩ := hw
    exact hL4 n4 V H locs ls x1 x0 (0 : Int32) hI (lv_sub hl [3, 1, 0] rfl) hw
  exact hgo s.heap [] hI
def rm_X1_brakingMark : Room := { frames := 4, cells := 0, slots := 0, locals := 81 }
set_option maxHeartbeats 4000000 in
set_option maxRecDepth 100000 in
theorem c_X1_brakingMark (l : Launch) (g : GP) (ad : Nat → Nat) (sz : Nat) (V : VT)   (K : Int32 → VT → Prop) (hw : wp_X1_brakingMark V  K) : Met l yX1_brakingMark wsX1_brakingMark rm_X1_brakingMark (va_Pc [.ref (ad 13)] (WPre 76 (cX g ad) ad g V sz)) (va_Qi K (WPost 76 (cX g ad) ad g) (AW ad 76 sz)) 0 0 (AW ad 76 sz) := by
  refine Met.ofW (cc := cX1_brakingMark) (maxL := 1) (ret := (some .int)) (by decide) rfl ?_
  intro p e s m args below meth c s₁ B hml hv
  obtain ⟨ha, hv⟩ := hv
  obtain rfl := hv.1
  have hI : WI g 76 (cX g ad) ad V s.heap s.heap [] := WI.start hv
  have hK := hv.2.2.1
  have hE := hv.2.2.2.2
  have hx := B.exec
  have hb := B.bytes
  have hr := B.returns
  have hts := atoms_spec (ws := wsX1_brakingMark) B.pre
  have hown : s.vm.findClass RX1 = some m.cls := findClass_of_methodNamed B.named
  have hlocks := B.notSynchronized
  have hl := lv_entry ([.ref (ad 13)]) (n := 1) (Nat.le_of_ble_eq_true rfl)
  have hent : entryFrame m args 1 = F0 m 0 ((lg_sl ([.ref (ad 13)]) ++ List.replicate (1 - (lg_sl ([.ref (ad 13)])).length) Slot.unset).toArray) [] := by rw [ha, lg_entry_eq]
  rw [hent]
  generalize (lg_sl ([.ref (ad 13)]) ++ List.replicate (1 - (lg_sl ([.ref (ad 13)])).length) Slot.unset).toArray = ls at hl ⊢
  have hl : lv_has ls 1 [(0, .ref (ad 13))] := hl
  obtain ⟨H, hH⟩ : ∃ H : Heap, H = s.heap := ⟨_, rfl⟩
  have hgo : ∀ (H : Heap) (locs : List Loc), WI g 76 (cX g ad) ad V s.heap H locs → W p l e (headSpec wsX1_brakingMark rm_X1_brakingMark).room s m args below meth c H locs 0 0 (MQ below (va_Qi K (WPost 76 (cX g ad) ad g) (AW ad 76 s.heap.size)) args s 0 0 (AW ad 76 s.heap.size)) (F0 m 0 ls []) := by
    intro H locs hI
    refine lv_aload_n hx hb dX1_brakingMark_0 rfl (lv_at hl 0 rfl) ?_
    refine lv_bipush (v := (23 : Int32)) hx hb dX1_brakingMark_1 (by decide) ?_
    refine x_aftv (va_runV (As := [.int (23 : Int32)]) (rest := []) ⟨hx, hb, hml, hown, hts⟩ (c_X1_leave l g ad H.size V (23 : Int32) _ hw) (cwV 1 hts gX1_brakingMark_X1_leave rfl rfl rfl (by decide +kernel) ⟨Nat.le_of_ble_eq_true rfl, Nat.le_of_ble_eq_true rfl⟩) (x_preV (k := 13) hK hE hI (by decide) (cX_1 (by decide)) rfl) rfl rfl hl.1 rfl (lv_room (Nat.le_of_ble_eq_true rfl)) dX1_brakingMark_3 ⟨Nat.zero_le _, Nat.zero_le _⟩) hI (fun V1 H locs hw hI => ?_)
    refine lv_aload_n hx hb dX1_brakingMark_6 rfl (lv_at hl 0 rfl) ?_
    refine x_afti (va_runV (As := []) (rest := []) ⟨hx, hb, hml, hown, hts⟩ (c_X1_lentMark l g ad H.size V1  _ hw) (cwV 0 hts gX1_brakingMark_X1_lentMark rfl rfl rfl (by decide +kernel) ⟨Nat.le_of_ble_eq_true rfl, Nat.le_of_ble_eq_true rfl⟩) (x_preV (k := 13) hK hE hI (by decide) (cX_1 (by decide)) rfl) rfl rfl hl.1 rfl (lv_room (Nat.le_of_ble_eq_true rfl)) dX1_brakingMark_7 ⟨Nat.zero_le _, Nat.zero_le _⟩) hI (fun r3 V2 H locs hw hI => ?_)
    refine lv_aload_n hx hb dX1_brakingMark_10 rfl (lv_at hl 0 rfl) ?_
    refine x_afti (va_runV (As := []) (rest := [.int r3]) ⟨hx, hb, hml, hown, hts⟩ (c_X1_brakedSize l g ad H.size V2  _ hw) (cwV 0 hts gX1_brakingMark_X1_brakedSize rfl rfl rfl (by decide +kernel) ⟨Nat.le_of_ble_eq_true rfl, Nat.le_of_ble_eq_true rfl⟩) (x_preV (k := 13) hK hE hI (by decide) (cX_1 (by decide)) rfl) rfl rfl hl.1 rfl (lv_room (Nat.le_of_ble_eq_true rfl)) dX1_brakingMark_11 ⟨Nat.zero_le _, Nat.zero_le _⟩) hI (fun r5 V4 H locs hw hI => ?_)
    refine lv_isub hx hb dX1_brakingMark_14 ?_
    exact W.iret (v := (r3 - r5)) hx hb hr (x_reti hI hw) hI.2.2.2.2 dX1_brakingMark_15
  exact hgo s.heap [] hI
def rm_X1_mark : Room := { frames := 5, cells := 0, slots := 0, locals := 101 }
set_option maxHeartbeats 4000000 in
set_option maxRecDepth 100000 in
theorem c_X1_mark (l : Launch) (g : GP) (ad : Nat → Nat) (sz : Nat) (V : VT)   (K : Int32 → VT → Prop) (hw : wp_X1_mark V  K) : Met l yX1_mark wsX1_mark rm_X1_mark (va_Pc [.ref (ad 13)] (WPre 76 (cX g ad) ad g V sz)) (va_Qi K (WPost 76 (cX g ad) ad g) (AW ad 76 sz)) 0 0 (AW ad 76 sz) := by
  refine Met.ofW (cc := cX1_mark) (maxL := 1) (ret := (some .int)) (by decide) rfl ?_
  intro p e s m args below meth c s₁ B hml hv
  obtain ⟨ha, hv⟩ := hv
  obtain rfl := hv.1
  have hI : WI g 76 (cX g ad) ad V s.heap s.heap [] := WI.start hv
  have hK := hv.2.2.1
  have hE := hv.2.2.2.2
  have hx := B.exec
  have hb := B.bytes
  have hr := B.returns
  have hts := atoms_spec (ws := wsX1_mark) B.pre
  have hown : s.vm.findClass RX1 = some m.cls := findClass_of_methodNamed B.named
  have hlocks := B.notSynchronized
  have hw_0 := hts (.fieldLink RX1 19 "HoopLane$Asks" "kind" "I") (by decide +kernel)
  have hw_1 := hts (.initialized RX7) (by decide +kernel)
  have hw_2 := hts (.static yX7_isOfKind) (by decide +kernel)
  have hin1 : ∀ w ∈ wsX10, w ∈ wsX1_mark := by decide +kernel
  have hl := lv_entry ([.ref (ad 13)]) (n := 1) (Nat.le_of_ble_eq_true rfl)
  have hent : entryFrame m args 1 = F0 m 0 ((lg_sl ([.ref (ad 13)]) ++ List.replicate (1 - (lg_sl ([.ref (ad 13)])).length) Slot.unset).toArray) [] := by rw [ha, lg_entry_eq]
  rw [hent]
  generalize (lg_sl ([.ref (ad 13)]) ++ List.replicate (1 - (lg_sl ([.ref (ad 13)])).length) Slot.unset).toArray = ls at hl ⊢
  have hl : lv_has ls 1 [(0, .ref (ad 13))] := hl
  obtain ⟨H, hH⟩ : ∃ H : Heap, H = s.heap := ⟨_, rfl⟩
  have hgo : ∀ (H : Heap) (locs : List Loc), WI g 76 (cX g ad) ad V s.heap H locs → W p l e (headSpec wsX1_mark rm_X1_mark).room s m args below meth c H locs 0 0 (MQ below (va_Qi K (WPost 76 (cX g ad) ad g) (AW ad 76 s.heap.size)) args s 0 0 (AW ad 76 s.heap.size)) (F0 m 0 ls []) := by
    intro H locs hI
    refine lv_aload_n hx hb dX1_mark_0 rfl (lv_at hl 0 rfl) ?_
    refine xg1_2 (k := 13) hx hb hts hin1 hown hK hI (by decide) hw_0 dX1_mark_1 ?_
    refine lv_iconst (v := (4 : Int32)) hx hb dX1_mark_4 (by decide) ?_
    refine x_afti (va_runSN (As := [.int (V 13 2), .int (4 : Int32)]) (rest := []) ⟨hx, hb, hml, hown, hts⟩ (c_X7_isOfKind l g ad H.size V (V 13 2) (4 : Int32) _ hw) ⟨va_cnB 2 hts gX1_mark_X7_isOfKind_n58 rfl rfl rfl (hE.1 _ (List.mem_of_getElem? (i := 0) rfl)) hw_1 (by decide +kernel) ⟨Nat.le_of_ble_eq_true rfl, Nat.le_of_ble_eq_true rfl⟩, hw_2, trivial⟩ (x_preS hK hE hI) rfl rfl hl.1 rfl (lv_room (Nat.le_of_ble_eq_true rfl)) dX1_mark_5 ⟨Nat.zero_le _, Nat.zero_le _⟩) hI (fun r2 V1 H locs hw hI => ?_)
    refine lv_if_eq (tgt := 18) hx hb dX1_mark_8 (by decide) (fun c3 => ?_) (fun c3 => ?_)
    · replace hw := hw.1 c3
      refine lv_aload_n hx hb dX1_mark_18 rfl (lv_at hl 0 rfl) ?_
      refine x_afti (va_runV (As := []) (rest := []) ⟨hx, hb, hml, hown, hts⟩ (c_X1_drivenMark l g ad H.size V1  _ hw) (cwV 0 hts gX1_mark_X1_drivenMark rfl rfl rfl (by decide +kernel) ⟨Nat.le_of_ble_eq_true rfl, Nat.le_of_ble_eq_true rfl⟩) (x_preV (k := 13) hK hE hI (by decide) (cX_1 (by decide)) rfl) rfl rfl hl.1 rfl (lv_room (Nat.le_of_ble_eq_true rfl)) dX1_mark_19 ⟨Nat.zero_le _, Nat.zero_le _⟩) hI (fun r5 V4 H locs hw hI => ?_)
      exact W.iret (v := r5) hx hb hr (x_reti hI hw) hI.2.2.2.2 dX1_mark_22
    · replace hw := hw.2 c3
      refine lv_aload_n hx hb dX1_mark_11 rfl (lv_at hl 0 rfl) ?_
      refine x_afti (va_runV (As := []) (rest := []) ⟨hx, hb, hml, hown, hts⟩ (c_X1_brakingMark l g ad H.size V1  _ hw) (cwV 0 hts gX1_mark_X1_brakingMark rfl rfl rfl (by decide +kernel) ⟨Nat.le_of_ble_eq_true rfl, Nat.le_of_ble_eq_true rfl⟩) (x_preV (k := 13) hK hE hI (by decide) (cX_1 (by decide)) rfl) rfl rfl hl.1 rfl (lv_room (Nat.le_of_ble_eq_true rfl)) dX1_mark_12 ⟨Nat.zero_le _, Nat.zero_le _⟩) hI (fun r7 V6 H locs hw hI => ?_)
      refine lv_goto (tgt := 22) hx hb dX1_mark_15 (by decide) ?_
      exact W.iret (v := r7) hx hb hr (x_reti hI hw) hI.2.2.2.2 dX1_mark_22
  exact hgo s.heap [] hI
def rm_X2_stand : Room := { frames := 0, cells := 0, slots := 0, locals := 0 }
set_option maxHeartbeats 4000000 in
set_option maxRecDepth 100000 in
theorem c_X2_stand (l : Launch) (g : GP) (ad : Nat → Nat) (sz : Nat) (V : VT) (k0 : Nat) (x1 : Int32) (x2 : Int32) (x3 : Int32) (hk0 : kX k0 = 2) (K : VT → Prop) (hw : wp_X2_stand V k0 x1 x2 x3 K) : Met l yX2_stand wsX2_stand rm_X2_stand (va_Pc [.ref (ad k0), .int x1, .int x2, .int x3] (WPre 76 (cX g ad) ad g V sz)) (va_Qv K (WPost 76 (cX g ad) ad g) (AW ad 76 sz)) 0 0 (AW ad 76 sz) := by
  refine Met.ofW (cc := cX2_stand) (maxL := 4) (ret := none) (by decide) rfl ?_
  intro p e s m args below meth c s₁ B hml hv
  obtain ⟨ha, hv⟩ := hv
  obtain rfl := hv.1
  have hI : WI g 76 (cX g ad) ad V s.heap s.heap [] := WI.start hv
  have hK := hv.2.2.1
  have hE := hv.2.2.2.2
  have hx := B.exec
  have hb := B.bytes
  have hr := B.returns
  have hts := atoms_spec (ws := wsX2_stand) B.pre
  have hown : s.vm.findClass RX2 = some m.cls := findClass_of_methodNamed B.named
  have hlocks := B.notSynchronized
  have hw_0 := hts (.fieldLink RX2 9 "HoopLane$Hoop" "yard" "I") (by decide +kernel)
  have hw_1 := hts (.fieldLink RX2 15 "HoopLane$Hoop" "pace" "I") (by decide +kernel)
  have hw_2 := hts (.fieldLink RX2 18 "HoopLane$Hoop" "lean" "I") (by decide +kernel)
  have hw_3 := hts (.fieldLink RX2 21 "HoopLane$Hoop" "end" "I") (by decide +kernel)
  have hin2 : ∀ w ∈ wsX20, w ∈ wsX2_stand := by decide +kernel
  have hl := lv_entry ([.ref (ad k0), .int x1, .int x2, .int x3]) (n := 4) (Nat.le_of_ble_eq_true rfl)
  have hent : entryFrame m args 4 = F0 m 0 ((lg_sl ([.ref (ad k0), .int x1, .int x2, .int x3]) ++ List.replicate (4 - (lg_sl ([.ref (ad k0), .int x1, .int x2, .int x3])).length) Slot.unset).toArray) [] := by rw [ha, lg_entry_eq]
  rw [hent]
  generalize (lg_sl ([.ref (ad k0), .int x1, .int x2, .int x3]) ++ List.replicate (4 - (lg_sl ([.ref (ad k0), .int x1, .int x2, .int x3])).length) Slot.unset).toArray = ls at hl ⊢
  have hl : lv_has ls 4 [(0, .ref (ad k0)), (1, .int x1), (2, .int x2), (3, .int x3)] := hl
  obtain ⟨H, hH⟩ : ∃ H : Heap, H = s.heap := ⟨_, rfl⟩
  have hgo : ∀ (H : Heap) (locs : List Loc), WI g 76 (cX g ad) ad V s.heap H locs → W p l e (headSpec wsX2_stand rm_X2_stand).room s m args below meth c H locs 0 0 (MQ below (va_Qv K (WPost 76 (cX g ad) ad g) (AW ad 76 s.heap.size)) args s 0 0 (AW ad 76 s.heap.size)) (F0 m 0 ls []) := by
    intro H locs hI
    refine lv_aload_n hx hb dX2_stand_0 rfl (lv_at hl 0 rfl) ?_
    refine lv_iload_n hx hb dX2_stand_1 rfl (lv_at hl 1 rfl) ?_
    refine xp2_0 (k := k0) hx hb hts hin2 hown hK hI hk0 hw_0 dX2_stand_2 (fun V1 H locs eV1 hI => ?_)
    replace hw := hw V1 eV1
    refine lv_aload_n hx hb dX2_stand_5 rfl (lv_at hl 0 rfl) ?_
    refine lv_iload_n hx hb dX2_stand_6 rfl (lv_at hl 2 rfl) ?_
    refine xp2_1 (k := k0) hx hb hts hin2 hown hK hI hk0 hw_1 dX2_stand_7 (fun V2 H locs eV2 hI => ?_)
    replace hw := hw V2 eV2
    refine lv_aload_n hx hb dX2_stand_10 rfl (lv_at hl 0 rfl) ?_
    refine lv_iload_n hx hb dX2_stand_11 rfl (lv_at hl 3 rfl) ?_
    refine xp2_2 (k := k0) hx hb hts hin2 hown hK hI hk0 hw_2 dX2_stand_12 (fun V3 H locs eV3 hI => ?_)
    replace hw := hw V3 eV3
    refine lv_aload_n hx hb dX2_stand_15 rfl (lv_at hl 0 rfl) ?_
    refine lv_iconst (v := (0 : Int32)) hx hb dX2_stand_16 (by decide) ?_
    refine xp2_3 (k := k0) hx hb hts hin2 hown hK hI hk0 hw_3 dX2_stand_17 (fun V4 H locs eV4 hI => ?_)
    replace hw := hw V4 eV4
    exact W.vret hx hb hr (x_retv hI hw) hI.2.2.2.2 dX2_stand_20
  exact hgo s.heap [] hI
def rm_X2_tell : Room := { frames := 0, cells := 0, slots := 0, locals := 0 }
set_option maxHeartbeats 4000000 in
set_option maxRecDepth 100000 in
theorem c_X2_tell (l : Launch) (g : GP) (ad : Nat → Nat) (sz : Nat) (V : VT) (k0 : Nat) (x1 : Int32) (hk0 : kX k0 = 2) (K : Int32 → VT → Prop) (hw : wp_X2_tell V k0 x1 K) : Met l yX2_tell wsX2_tell rm_X2_tell (va_Pc [.ref (ad k0), .int x1] (WPre 76 (cX g ad) ad g V sz)) (va_Qi K (WPost 76 (cX g ad) ad g) (AW ad 76 sz)) 0 0 (AW ad 76 sz) := by
  refine Met.ofW (cc := cX2_tell) (maxL := 2) (ret := (some .int)) (by decide) rfl ?_
  intro p e s m args below meth c s₁ B hml hv
  obtain ⟨ha, hv⟩ := hv
  obtain rfl := hv.1
  have hI : WI g 76 (cX g ad) ad V s.heap s.heap [] := WI.start hv
  have hK := hv.2.2.1
  have hE := hv.2.2.2.2
  have hx := B.exec
  have hb := B.bytes
  have hr := B.returns
  have hts := atoms_spec (ws := wsX2_tell) B.pre
  have hown : s.vm.findClass RX2 = some m.cls := findClass_of_methodNamed B.named
  have hlocks := B.notSynchronized
  have hw_0 := hts (.fieldLink RX2 9 "HoopLane$Hoop" "yard" "I") (by decide +kernel)
  have hw_1 := hts (.fieldLink RX2 15 "HoopLane$Hoop" "pace" "I") (by decide +kernel)
  have hw_2 := hts (.fieldLink RX2 18 "HoopLane$Hoop" "lean" "I") (by decide +kernel)
  have hw_3 := hts (.fieldLink RX2 21 "HoopLane$Hoop" "end" "I") (by decide +kernel)
  have hin2 : ∀ w ∈ wsX20, w ∈ wsX2_tell := by decide +kernel
  have hl := lv_entry ([.ref (ad k0), .int x1]) (n := 2) (Nat.le_of_ble_eq_true rfl)
  have hent : entryFrame m args 2 = F0 m 0 ((lg_sl ([.ref (ad k0), .int x1]) ++ List.replicate (2 - (lg_sl ([.ref (ad k0), .int x1])).length) Slot.unset).toArray) [] := by rw [ha, lg_entry_eq]
  rw [hent]
  generalize (lg_sl ([.ref (ad k0), .int x1]) ++ List.replicate (2 - (lg_sl ([.ref (ad k0), .int x1])).length) Slot.unset).toArray = ls at hl ⊢
  have hl : lv_has ls 2 [(0, .ref (ad k0)), (1, .int x1)] := hl
  obtain ⟨H, hH⟩ : ∃ H : Heap, H = s.heap := ⟨_, rfl⟩
  have hgo : ∀ (H : Heap) (locs : List Loc), WI g 76 (cX g ad) ad V s.heap H locs → W p l e (headSpec wsX2_tell rm_X2_tell).room s m args below meth c H locs 0 0 (MQ below (va_Qi K (WPost 76 (cX g ad) ad g) (AW ad 76 s.heap.size)) args s 0 0 (AW ad 76 s.heap.size)) (F0 m 0 ls []) := by
    intro H locs hI
    refine lv_iload_n hx hb dX2_tell_0 rfl (lv_at hl 1 rfl) ?_
    by_cases c1 : x1 = (0 : Int32)
    · replace hw := hw.1 c1
      refine lv_tableIn (off := 27) (tgt := 28) hx hb dX2_tell_1 (by rw [c1]; decide) (by rw [c1]; decide) (by rw [c1]; rfl) (by decide) ?_
      refine lv_aload_n hx hb dX2_tell_28 rfl (lv_at hl 0 rfl) ?_
      refine xg2_0 (k := k0) hx hb hts hin2 hown hK hI hk0 hw_0 dX2_tell_29 ?_
      exact W.iret (v := (V k0 0)) hx hb hr (x_reti hI hw) hI.2.2.2.2 dX2_tell_32
    · skip
      by_cases c2 : x1 = (1 : Int32)
      · replace hw := hw.2.1 c2
        refine lv_tableIn (off := 32) (tgt := 33) hx hb dX2_tell_1 (by rw [c2]; decide) (by rw [c2]; decide) (by rw [c2]; rfl) (by decide) ?_
        refine lv_aload_n hx hb dX2_tell_33 rfl (lv_at hl 0 rfl) ?_
        refine xg2_1 (k := k0) hx hb hts hin2 hown hK hI hk0 hw_1 dX2_tell_34 ?_
        exact W.iret (v := (V k0 1)) hx hb hr (x_reti hI hw) hI.2.2.2.2 dX2_tell_37
      · skip
        by_cases c3 : x1 = (2 : Int32)
        · replace hw := hw.2.2.1 c3
          refine lv_tableIn (off := 37) (tgt := 38) hx hb dX2_tell_1 (by rw [c3]; decide) (by rw [c3]; decide) (by rw [c3]; rfl) (by decide) ?_
          refine lv_aload_n hx hb dX2_tell_38 rfl (lv_at hl 0 rfl) ?_
          refine xg2_2 (k := k0) hx hb hts hin2 hown hK hI hk0 hw_2 dX2_tell_39 ?_
          exact W.iret (v := (V k0 2)) hx hb hr (x_reti hI hw) hI.2.2.2.2 dX2_tell_42
        · skip
          replace hw := hw.2.2.2 c1 c2 c3
          refine lv_tableOut (tgt := 43) hx hb dX2_tell_1 (by have ec1 : ¬ Int32.toInt x1 = 0 := fun h => c1 (Int32.toInt_inj.mp (h.trans (by decide))); have ec2 : ¬ Int32.toInt x1 = 1 := fun h => c2 (Int32.toInt_inj.mp (h.trans (by decide))); have ec3 : ¬ Int32.toInt x1 = 2 := fun h => c3 (Int32.toInt_inj.mp (h.trans (by decide))); omega) (by decide) ?_
          refine lv_aload_n hx hb dX2_tell_43 rfl (lv_at hl 0 rfl) ?_
          refine xg2_3 (k := k0) hx hb hts hin2 hown hK hI hk0 hw_3 dX2_tell_44 ?_
          exact W.iret (v := (V k0 3)) hx hb hr (x_reti hI hw) hI.2.2.2.2 dX2_tell_47
  exact hgo s.heap [] hI
def rm_X2_changePace : Room := { frames := 1, cells := 0, slots := 0, locals := 15 }
set_option maxHeartbeats 4000000 in
set_option maxRecDepth 100000 in
theorem c_X2_changePace (l : Launch) (g : GP) (ad : Nat → Nat) (sz : Nat) (V : VT) (k0 : Nat) (x1 : Int32) (hk0 : kX k0 = 2) (K : VT → Prop) (hw : wp_X2_changePace V k0 x1 K) : Met l yX2_changePace wsX2_changePace rm_X2_changePace (va_Pc [.ref (ad k0), .int x1] (WPre 76 (cX g ad) ad g V sz)) (va_Qv K (WPost 76 (cX g ad) ad g) (AW ad 76 sz)) 0 0 (AW ad 76 sz) := by
  refine Met.ofW (cc := cX2_changePace) (maxL := 2) (ret := none) (by decide) rfl ?_
  intro p e s m args below meth c s₁ B hml hv
  obtain ⟨ha, hv⟩ := hv
  obtain rfl := hv.1
  have hI : WI g 76 (cX g ad) ad V s.heap s.heap [] := WI.start hv
  have hK := hv.2.2.1
  have hE := hv.2.2.2.2
  have hx := B.exec
  have hb := B.bytes
  have hr := B.returns
  have hts := atoms_spec (ws := wsX2_changePace) B.pre
  have hown : s.vm.findClass RX2 = some m.cls := findClass_of_methodNamed B.named
  have hlocks := B.notSynchronized
  have hw_0 := hts (.fieldLink RX2 15 "HoopLane$Hoop" "pace" "I") (by decide +kernel)
  have hw_1 := hts (.methodLink RX2 63 Lib.Math.min.name) (by decide +kernel)
  have hw_2 := hts (.static Lib.Math.min.name) (by decide +kernel)
  have hw_3 := hts (.initialized "java/lang/Math") (by decide +kernel)
  have hw_4 := hts (.code Lib.Math.min.name Lib.Math.min.code 2 (some .int)) (by decide +kernel)
  have hw_5 := hts (.methodLink RX2 57 Lib.Math.max.name) (by decide +kernel)
  have hw_6 := hts (.static Lib.Math.max.name) (by decide +kernel)
  have hw_7 := hts (.code Lib.Math.max.name Lib.Math.max.code 2 (some .int)) (by decide +kernel)
  have hin2 : ∀ w ∈ wsX20, w ∈ wsX2_changePace := by decide +kernel
  have hl := lv_entry ([.ref (ad k0), .int x1]) (n := 2) (Nat.le_of_ble_eq_true rfl)
  have hent : entryFrame m args 2 = F0 m 0 ((lg_sl ([.ref (ad k0), .int x1]) ++ List.replicate (2 - (lg_sl ([.ref (ad k0), .int x1])).length) Slot.unset).toArray) [] := by rw [ha, lg_entry_eq]
  rw [hent]
  generalize (lg_sl ([.ref (ad k0), .int x1]) ++ List.replicate (2 - (lg_sl ([.ref (ad k0), .int x1])).length) Slot.unset).toArray = ls at hl ⊢
  have hl : lv_has ls 2 [(0, .ref (ad k0)), (1, .int x1)] := hl
  obtain ⟨H, hH⟩ : ∃ H : Heap, H = s.heap := ⟨_, rfl⟩
  have hgo : ∀ (H : Heap) (locs : List Loc), WI g 76 (cX g ad) ad V s.heap H locs → W p l e (headSpec wsX2_changePace rm_X2_changePace).room s m args below meth c H locs 0 0 (MQ below (va_Qv K (WPost 76 (cX g ad) ad g) (AW ad 76 s.heap.size)) args s 0 0 (AW ad 76 s.heap.size)) (F0 m 0 ls []) := by
    intro H locs hI
    refine lv_aload_n hx hb dX2_changePace_0 rfl (lv_at hl 0 rfl) ?_
    refine lv_iconst (v := (0 : Int32)) hx hb dX2_changePace_1 (by decide) ?_
    refine lv_bipush (v := (9 : Int32)) hx hb dX2_changePace_2 (by decide) ?_
    refine lv_aload_n hx hb dX2_changePace_4 rfl (lv_at hl 0 rfl) ?_
    refine xg2_1 (k := k0) hx hb hts hin2 hown hK hI hk0 hw_0 dX2_changePace_5 ?_
    refine lv_iload_n hx hb dX2_changePace_8 rfl (lv_at hl 1 rfl) ?_
    refine lv_iadd hx hb dX2_changePace_9 ?_
    refine va_mmin hx hb (hml.trans hl.1.symm) hown hw_1 hw_2 hw_3 hw_4 (Nat.le_of_ble_eq_true rfl) (Nat.le_of_ble_eq_true rfl) (Nat.zero_le _) (Nat.zero_le _) dX2_changePace_10 ?_
    refine va_mmax hx hb (hml.trans hl.1.symm) hown hw_5 hw_6 hw_3 hw_7 (Nat.le_of_ble_eq_true rfl) (Nat.le_of_ble_eq_true rfl) (Nat.zero_le _) (Nat.zero_le _) dX2_changePace_13 ?_
    refine xp2_1 (k := k0) hx hb hts hin2 hown hK hI hk0 hw_0 dX2_changePace_16 (fun V1 H locs eV1 hI => ?_)
    replace hw := hw V1 eV1
    exact W.vret hx hb hr (x_retv hI hw) hI.2.2.2.2 dX2_changePace_19
  exact hgo s.heap [] hI
def rm_X2_takeTap : Room := { frames := 2, cells := 0, slots := 0, locals := 36 }
set_option maxHeartbeats 4000000 in
set_option maxRecDepth 100000 in
theorem c_X2_takeTap (l : Launch) (g : GP) (ad : Nat → Nat) (sz : Nat) (V : VT) (k0 : Nat) (x1 : Int32) (x2 : Int32) (hk0 : kX k0 = 2) (K : VT → Prop) (hw : wp_X2_takeTap V k0 x1 x2 K) : Met l yX2_takeTap wsX2_takeTap rm_X2_takeTap (va_Pc [.ref (ad k0), .int x1, .int x2] (WPre 76 (cX g ad) ad g V sz)) (va_Qv K (WPost 76 (cX g ad) ad g) (AW ad 76 sz)) 0 0 (AW ad 76 sz) := by
  refine Met.ofW (cc := cX2_takeTap) (maxL := 3) (ret := none) (by decide) rfl ?_
  intro p e s m args below meth c s₁ B hml hv
  obtain ⟨ha, hv⟩ := hv
  obtain rfl := hv.1
  have hI : WI g 76 (cX g ad) ad V s.heap s.heap [] := WI.start hv
  have hK := hv.2.2.1
  have hE := hv.2.2.2.2
  have hx := B.exec
  have hb := B.bytes
  have hr := B.returns
  have hts := atoms_spec (ws := wsX2_takeTap) B.pre
  have hown : s.vm.findClass RX2 = some m.cls := findClass_of_methodNamed B.named
  have hlocks := B.notSynchronized
  have hw_0 := hts (.fieldLink RX2 18 "HoopLane$Hoop" "lean" "I") (by decide +kernel)
  have hw_1 := hts (.methodLink RX2 63 Lib.Math.min.name) (by decide +kernel)
  have hw_2 := hts (.static Lib.Math.min.name) (by decide +kernel)
  have hw_3 := hts (.initialized "java/lang/Math") (by decide +kernel)
  have hw_4 := hts (.code Lib.Math.min.name Lib.Math.min.code 2 (some .int)) (by decide +kernel)
  have hw_5 := hts (.methodLink RX2 57 Lib.Math.max.name) (by decide +kernel)
  have hw_6 := hts (.static Lib.Math.max.name) (by decide +kernel)
  have hw_7 := hts (.code Lib.Math.max.name Lib.Math.max.code 2 (some .int)) (by decide +kernel)
  have hin2 : ∀ w ∈ wsX20, w ∈ wsX2_takeTap := by decide +kernel
  have hl := lv_entry ([.ref (ad k0), .int x1, .int x2]) (n := 3) (Nat.le_of_ble_eq_true rfl)
  have hent : entryFrame m args 3 = F0 m 0 ((lg_sl ([.ref (ad k0), .int x1, .int x2]) ++ List.replicate (3 - (lg_sl ([.ref (ad k0), .int x1, .int x2])).length) Slot.unset).toArray) [] := by rw [ha, lg_entry_eq]
  rw [hent]
  generalize (lg_sl ([.ref (ad k0), .int x1, .int x2]) ++ List.replicate (3 - (lg_sl ([.ref (ad k0), .int x1, .int x2])).length) Slot.unset).toArray = ls at hl ⊢
  have hl : lv_has ls 3 [(0, .ref (ad k0)), (1, .int x1), (2, .int x2)] := hl
  obtain ⟨H, hH⟩ : ∃ H : Heap, H = s.heap := ⟨_, rfl⟩
  have hb82 : ∀ (V : VT) (H : Heap) (locs : List Loc) (ls : Array Slot) (t0 : Nat) (s1 : Int32), kX t0 = 2 → WI g 76 (cX g ad) ad V s.heap H locs → lv_has ls 3 [] → wp_X2_takeTap_b82 K  V t0 s1 → W p l e (headSpec wsX2_takeTap rm_X2_takeTap).room s m args below meth c H locs 0 0 (MQ below (va_Qv K (WPost 76 (cX g ad) ad g) (AW ad 76 s.heap.size)) args s 0 0 (AW ad 76 s.heap.size)) (F0 m 82 ls [.int s1, .ref (ad t0)]) := by
    intro V H locs ls t0 s1 ht0 hI hl hw
    refine xp2_2 (k := t0) hx hb hts hin2 hown hK hI ht0 hw_0 dX2_takeTap_82 (fun V12 H locs eV12 hI => ?_)
    replace hw := hw V12 eV12
    refine lv_goto (tgt := 113) hx hb dX2_takeTap_85 (by decide) ?_
    exact W.vret hx hb hr (x_retv hI hw) hI.2.2.2.2 dX2_takeTap_113
  have hb36 : ∀ (V : VT) (H : Heap) (locs : List Loc) (ls : Array Slot) (k0 : Nat) (x2 : Int32), kX k0 = 2 → WI g 76 (cX g ad) ad V s.heap H locs → lv_has ls 3 [(0, .ref (ad k0)), (2, .int x2)] → wp_X2_takeTap_b36 K  V k0 x2 → W p l e (headSpec wsX2_takeTap rm_X2_takeTap).room s m args below meth c H locs 0 0 (MQ below (va_Qv K (WPost 76 (cX g ad) ad g) (AW ad 76 s.heap.size)) args s 0 0 (AW ad 76 s.heap.size)) (F0 m 36 ls []) := by
    intro V H locs ls k0 x2 hk0 hI hl hw
    refine lv_aload_n hx hb dX2_takeTap_36 rfl (lv_at hl 0 rfl) ?_
    refine lv_iload_n hx hb dX2_takeTap_37 rfl (lv_at hl 1 rfl) ?_
    refine x_aftv (va_runV (As := [.int x2]) (rest := []) ⟨hx, hb, hml, hown, hts⟩ (c_X2_changePace l g ad H.size V k0 x2 hk0 _ hw) (cwV 1 hts gX2_takeTap_X2_changePace rfl rfl rfl (by decide +kernel) ⟨Nat.le_of_ble_eq_true rfl, Nat.le_of_ble_eq_true rfl⟩) (x_preV (k := k0) hK hE hI (kX_lt hk0 (by decide)) (cX_2 hk0) rfl) rfl rfl hl.1 rfl (lv_room (Nat.le_of_ble_eq_true rfl)) dX2_takeTap_38 ⟨Nat.zero_le _, Nat.zero_le _⟩) hI (fun V11 H locs hw hI => ?_)
    refine lv_goto (tgt := 113) hx hb dX2_takeTap_41 (by decide) ?_
    exact W.vret hx hb hr (x_retv hI hw) hI.2.2.2.2 dX2_takeTap_113
  have hgo : ∀ (H : Heap) (locs : List Loc), WI g 76 (cX g ad) ad V s.heap H locs → W p l e (headSpec wsX2_takeTap rm_X2_takeTap).room s m args below meth c H locs 0 0 (MQ below (va_Qv K (WPost 76 (cX g ad) ad g) (AW ad 76 s.heap.size)) args s 0 0 (AW ad 76 s.heap.size)) (F0 m 0 ls []) := by
    intro H locs hI
    refine lv_iload_n hx hb dX2_takeTap_0 rfl (lv_at hl 1 rfl) ?_
    by_cases c1 : x1 = (1 : Int32)
    · replace hw := hw.1 c1
      refine lv_tableIn (off := 35) (tgt := 36) hx hb dX2_takeTap_1 (by rw [c1]; decide) (by rw [c1]; decide) (by rw [c1]; rfl) (by decide) ?_
      exact hb36 V H locs ls k0 x2 hk0 hI (lv_sub hl [0, 2] rfl) hw
    · skip
      by_cases c2 : x1 = (2 : Int32)
      · replace hw := hw.2.1 c2
        refine lv_tableIn (off := 43) (tgt := 44) hx hb dX2_takeTap_1 (by rw [c2]; decide) (by rw [c2]; decide) (by rw [c2]; rfl) (by decide) ?_
        refine lv_aload_n hx hb dX2_takeTap_44 rfl (lv_at hl 0 rfl) ?_
        refine lv_iload_n hx hb dX2_takeTap_45 rfl (lv_at hl 2 rfl) ?_
        refine lv_iconst (v := (2 : Int32)) hx hb dX2_takeTap_46 (by decide) ?_
        refine lv_idiv hx hb dX2_takeTap_47 (by decide) ?_
        refine x_aftv (va_runV (As := [.int (x2 / (2 : Int32))]) (rest := []) ⟨hx, hb, hml, hown, hts⟩ (c_X2_changePace l g ad H.size V k0 (x2 / (2 : Int32)) hk0 _ hw) (cwV 1 hts gX2_takeTap_X2_changePace rfl rfl rfl (by decide +kernel) ⟨Nat.le_of_ble_eq_true rfl, Nat.le_of_ble_eq_true rfl⟩) (x_preV (k := k0) hK hE hI (kX_lt hk0 (by decide)) (cX_2 hk0) rfl) rfl rfl hl.1 rfl (lv_room (Nat.le_of_ble_eq_true rfl)) dX2_takeTap_48 ⟨Nat.zero_le _, Nat.zero_le _⟩) hI (fun V3 H locs hw hI => ?_)
        refine lv_aload_n hx hb dX2_takeTap_51 rfl (lv_at hl 0 rfl) ?_
        refine lv_aload_n hx hb dX2_takeTap_52 rfl (lv_at hl 0 rfl) ?_
        refine xg2_2 (k := k0) hx hb hts hin2 hown hK hI hk0 hw_0 dX2_takeTap_53 ?_
        refine lv_if_le (tgt := 72) hx hb dX2_takeTap_56 (by decide) (fun c4 => ?_) (fun c4 => ?_)
        · replace hw := hw.1 c4
          refine lv_iconst (v := (0 : Int32)) hx hb dX2_takeTap_72 (by decide) ?_
          refine lv_aload_n hx hb dX2_takeTap_73 rfl (lv_at hl 0 rfl) ?_
          refine xg2_2 (k := k0) hx hb hts hin2 hown hK hI hk0 hw_0 dX2_takeTap_74 ?_
          refine lv_iload_n hx hb dX2_takeTap_77 rfl (lv_at hl 2 rfl) ?_
          refine lv_iadd hx hb dX2_takeTap_78 ?_
          refine va_mmin hx hb (hml.trans hl.1.symm) hown hw_1 hw_2 hw_3 hw_4 (Nat.le_of_ble_eq_true rfl) (Nat.le_of_ble_eq_true rfl) (Nat.zero_le _) (Nat.zero_le _) dX2_takeTap_79 ?_
          exact hb82 V3 H locs ls k0 (imn (0 : Int32) ((V3 k0 2) + x2)) hk0 hI (lv_sub hl [] rfl) hw
        · replace hw := hw.2 c4
          refine lv_iconst (v := (0 : Int32)) hx hb dX2_takeTap_59 (by decide) ?_
          refine lv_aload_n hx hb dX2_takeTap_60 rfl (lv_at hl 0 rfl) ?_
          refine xg2_2 (k := k0) hx hb hts hin2 hown hK hI hk0 hw_0 dX2_takeTap_61 ?_
          refine lv_iload_n hx hb dX2_takeTap_64 rfl (lv_at hl 2 rfl) ?_
          refine lv_isub hx hb dX2_takeTap_65 ?_
          refine va_mmax hx hb (hml.trans hl.1.symm) hown hw_5 hw_6 hw_3 hw_7 (Nat.le_of_ble_eq_true rfl) (Nat.le_of_ble_eq_true rfl) (Nat.zero_le _) (Nat.zero_le _) dX2_takeTap_66 ?_
          refine lv_goto (tgt := 82) hx hb dX2_takeTap_69 (by decide) ?_
          exact hb82 V3 H locs ls k0 (imx (0 : Int32) ((V3 k0 2) - x2)) hk0 hI (lv_sub hl [] rfl) hw
      · skip
        by_cases c5 : x1 = (3 : Int32)
        · replace hw := hw.2.2.1 c5
          refine lv_tableIn (off := 35) (tgt := 36) hx hb dX2_takeTap_1 (by rw [c5]; decide) (by rw [c5]; decide) (by rw [c5]; rfl) (by decide) ?_
          exact hb36 V H locs ls k0 x2 hk0 hI (lv_sub hl [0, 2] rfl) hw
        · skip
          by_cases c6 : x1 = (4 : Int32)
          · replace hw := hw.2.2.2.1 c6
            refine lv_tableIn (off := 87) (tgt := 88) hx hb dX2_takeTap_1 (by rw [c6]; decide) (by rw [c6]; decide) (by rw [c6]; rfl) (by decide) ?_
            refine lv_aload_n hx hb dX2_takeTap_88 rfl (lv_at hl 0 rfl) ?_
            refine lv_iconst (v := (0 : Int32)) hx hb dX2_takeTap_89 (by decide) ?_
            refine lv_iload_n hx hb dX2_takeTap_90 rfl (lv_at hl 2 rfl) ?_
            refine lv_isub hx hb dX2_takeTap_91 ?_
            refine x_aftv (va_runV (As := [.int ((0 : Int32) - x2)]) (rest := []) ⟨hx, hb, hml, hown, hts⟩ (c_X2_changePace l g ad H.size V k0 ((0 : Int32) - x2) hk0 _ hw) (cwV 1 hts gX2_takeTap_X2_changePace rfl rfl rfl (by decide +kernel) ⟨Nat.le_of_ble_eq_true rfl, Nat.le_of_ble_eq_true rfl⟩) (x_preV (k := k0) hK hE hI (kX_lt hk0 (by decide)) (cX_2 hk0) rfl) rfl rfl hl.1 rfl (lv_room (Nat.le_of_ble_eq_true rfl)) dX2_takeTap_92 ⟨Nat.zero_le _, Nat.zero_le _⟩) hI (fun V7 H locs hw hI => ?_)
            refine lv_goto (tgt := 113) hx hb dX2_takeTap_95 (by decide) ?_
            exact W.vret hx hb hr (x_retv hI hw) hI.2.2.2.2 dX2_takeTap_113
          · skip
            by_cases c8 : x1 = (5 : Int32)
            · replace hw := hw.2.2.2.2.1 c8
              refine lv_tableIn (off := 97) (tgt := 98) hx hb dX2_takeTap_1 (by rw [c8]; decide) (by rw [c8]; decide) (by rw [c8]; rfl) (by decide) ?_
              refine lv_aload_n hx hb dX2_takeTap_98 rfl (lv_at hl 0 rfl) ?_
              refine lv_iconst (v := (0 : Int32)) hx hb dX2_takeTap_99 (by decide) ?_
              refine lv_iload_n hx hb dX2_takeTap_100 rfl (lv_at hl 2 rfl) ?_
              refine lv_isub hx hb dX2_takeTap_101 ?_
              refine x_aftv (va_runV (As := [.int ((0 : Int32) - x2)]) (rest := []) ⟨hx, hb, hml, hown, hts⟩ (c_X2_changePace l g ad H.size V k0 ((0 : Int32) - x2) hk0 _ hw) (cwV 1 hts gX2_takeTap_X2_changePace rfl rfl rfl (by decide +kernel) ⟨Nat.le_of_ble_eq_true rfl, Nat.le_of_ble_eq_true rfl⟩) (x_preV (k := k0) hK hE hI (kX_lt hk0 (by decide)) (cX_2 hk0) rfl) rfl rfl hl.1 rfl (lv_room (Nat.le_of_ble_eq_true rfl)) dX2_takeTap_102 ⟨Nat.zero_le _, Nat.zero_le _⟩) hI (fun V9 H locs hw hI => ?_)
              refine lv_aload_n hx hb dX2_takeTap_105 rfl (lv_at hl 0 rfl) ?_
              refine lv_iconst (v := (0 : Int32)) hx hb dX2_takeTap_106 (by decide) ?_
              refine xp2_2 (k := k0) hx hb hts hin2 hown hK hI hk0 hw_0 dX2_takeTap_107 (fun V10 H locs eV10 hI => ?_)
              replace hw := hw V10 eV10
              refine lv_goto (tgt := 113) hx hb dX2_takeTap_110 (by decide) ?_
              exact W.vret hx hb hr (x_retv hI hw) hI.2.2.2.2 dX2_takeTap_113
            · skip
              replace hw := hw.2.2.2.2.2 c1 c2 c5 c6 c8
              refine lv_tableOut (tgt := 113) hx hb dX2_takeTap_1 (by have ec1 : ¬ Int32.toInt x1 = 1 := fun h => c1 (Int32.toInt_inj.mp (h.trans (by decide))); have ec2 : ¬ Int32.toInt x1 = 2 := fun h => c2 (Int32.toInt_inj.mp (h.trans (by decide))); have ec5 : ¬ Int32.toInt x1 = 3 := fun h => c5 (Int32.toInt_inj.mp (h.trans (by decide))); have ec6 : ¬ Int32.toInt x1 = 4 := fun h => c6 (Int32.toInt_inj.mp (h.trans (by decide))); have ec8 : ¬ Int32.toInt x1 = 5 := fun h => c8 (Int32.toInt_inj.mp (h.trans (by decide))); omega) (by decide) ?_
              exact W.vret hx hb hr (x_retv hI hw) hI.2.2.2.2 dX2_takeTap_113
  exact hgo s.heap [] hI
def rm_X2_leanFurther : Room := { frames := 0, cells := 0, slots := 0, locals := 0 }
set_option maxHeartbeats 4000000 in
set_option maxRecDepth 100000 in
theorem c_X2_leanFurther (l : Launch) (g : GP) (ad : Nat → Nat) (sz : Nat) (V : VT) (k0 : Nat) (x1 : Int32) (x2 : Int32) (hk0 : kX k0 = 2) (K : VT → Prop) (hw : wp_X2_leanFurther V k0 x1 x2 K) : Met l yX2_leanFurther wsX2_leanFurther rm_X2_leanFurther (va_Pc [.ref (ad k0), .int x1, .int x2] (WPre 76 (cX g ad) ad g V sz)) (va_Qv K (WPost 76 (cX g ad) ad g) (AW ad 76 sz)) 0 0 (AW ad 76 sz) := by
  refine Met.ofW (cc := cX2_leanFurther) (maxL := 3) (ret := none) (by decide) rfl ?_
  intro p e s m args below meth c s₁ B hml hv
  obtain ⟨ha, hv⟩ := hv
  obtain rfl := hv.1
  have hI : WI g 76 (cX g ad) ad V s.heap s.heap [] := WI.start hv
  have hK := hv.2.2.1
  have hE := hv.2.2.2.2
  have hx := B.exec
  have hb := B.bytes
  have hr := B.returns
  have hts := atoms_spec (ws := wsX2_leanFurther) B.pre
  have hown : s.vm.findClass RX2 = some m.cls := findClass_of_methodNamed B.named
  have hlocks := B.notSynchronized
  have hw_0 := hts (.fieldLink RX2 18 "HoopLane$Hoop" "lean" "I") (by decide +kernel)
  have hin2 : ∀ w ∈ wsX20, w ∈ wsX2_leanFurther := by decide +kernel
  have hl := lv_entry ([.ref (ad k0), .int x1, .int x2]) (n := 3) (Nat.le_of_ble_eq_true rfl)
  have hent : entryFrame m args 3 = F0 m 0 ((lg_sl ([.ref (ad k0), .int x1, .int x2]) ++ List.replicate (3 - (lg_sl ([.ref (ad k0), .int x1, .int x2])).length) Slot.unset).toArray) [] := by rw [ha, lg_entry_eq]
  rw [hent]
  generalize (lg_sl ([.ref (ad k0), .int x1, .int x2]) ++ List.replicate (3 - (lg_sl ([.ref (ad k0), .int x1, .int x2])).length) Slot.unset).toArray = ls at hl ⊢
  have hl : lv_has ls 3 [(0, .ref (ad k0)), (1, .int x1), (2, .int x2)] := hl
  obtain ⟨H, hH⟩ : ∃ H : Heap, H = s.heap := ⟨_, rfl⟩
  have hb34 : ∀ (V : VT) (H : Heap) (locs : List Loc) (ls : Array Slot) (t0 : Nat) (s1 : Int32) (s2 : Int32), kX t0 = 2 → WI g 76 (cX g ad) ad V s.heap H locs → lv_has ls 3 [] → wp_X2_leanFurther_b34 K  V t0 s1 s2 → W p l e (headSpec wsX2_leanFurther rm_X2_leanFurther).room s m args below meth c H locs 0 0 (MQ below (va_Qv K (WPost 76 (cX g ad) ad g) (AW ad 76 s.heap.size)) args s 0 0 (AW ad 76 s.heap.size)) (F0 m 34 ls [.int s2, .int s1, .ref (ad t0)]) := by
    intro V H locs ls t0 s1 s2 ht0 hI hl hw
    refine lv_iadd hx hb dX2_leanFurther_34 ?_
    refine xp2_2 (k := t0) hx hb hts hin2 hown hK hI ht0 hw_0 dX2_leanFurther_35 (fun V4 H locs eV4 hI => ?_)
    replace hw := hw V4 eV4
    exact W.vret hx hb hr (x_retv hI hw) hI.2.2.2.2 dX2_leanFurther_38
  have hgo : ∀ (H : Heap) (locs : List Loc), WI g 76 (cX g ad) ad V s.heap H locs → W p l e (headSpec wsX2_leanFurther rm_X2_leanFurther).room s m args below meth c H locs 0 0 (MQ below (va_Qv K (WPost 76 (cX g ad) ad g) (AW ad 76 s.heap.size)) args s 0 0 (AW ad 76 s.heap.size)) (F0 m 0 ls []) := by
    intro H locs hI
    refine lv_aload_n hx hb dX2_leanFurther_0 rfl (lv_at hl 0 rfl) ?_
    refine xg2_2 (k := k0) hx hb hts hin2 hown hK hI hk0 hw_0 dX2_leanFurther_1 ?_
    refine lv_if_ne (tgt := 15) hx hb dX2_leanFurther_4 (by decide) (fun c1 => ?_) (fun c1 => ?_)
    · replace hw := hw.1 c1
      refine lv_aload_n hx hb dX2_leanFurther_15 rfl (lv_at hl 0 rfl) ?_
      refine lv_dup hx hb dX2_leanFurther_16 rfl ?_
      refine xg2_2 (k := k0) hx hb hts hin2 hown hK hI hk0 hw_0 dX2_leanFurther_17 ?_
      refine lv_aload_n hx hb dX2_leanFurther_20 rfl (lv_at hl 0 rfl) ?_
      refine xg2_2 (k := k0) hx hb hts hin2 hown hK hI hk0 hw_0 dX2_leanFurther_21 ?_
      refine lv_if_le (tgt := 31) hx hb dX2_leanFurther_24 (by decide) (fun c2 => ?_) (fun c2 => ?_)
      · replace hw := hw.1 c2
        refine lv_iconst (v := (0 : Int32)) hx hb dX2_leanFurther_31 (by decide) ?_
        refine lv_iload_n hx hb dX2_leanFurther_32 rfl (lv_at hl 1 rfl) ?_
        refine lv_isub hx hb dX2_leanFurther_33 ?_
        exact hb34 V H locs ls k0 (V k0 2) ((0 : Int32) - x1) hk0 hI (lv_sub hl [] rfl) hw
      · replace hw := hw.2 c2
        refine lv_iload_n hx hb dX2_leanFurther_27 rfl (lv_at hl 1 rfl) ?_
        refine lv_goto (tgt := 34) hx hb dX2_leanFurther_28 (by decide) ?_
        exact hb34 V H locs ls k0 (V k0 2) x1 hk0 hI (lv_sub hl [] rfl) hw
    · replace hw := hw.2 c1
      refine lv_aload_n hx hb dX2_leanFurther_7 rfl (lv_at hl 0 rfl) ?_
      refine lv_iload_n hx hb dX2_leanFurther_8 rfl (lv_at hl 2 rfl) ?_
      refine xp2_2 (k := k0) hx hb hts hin2 hown hK hI hk0 hw_0 dX2_leanFurther_9 (fun V3 H locs eV3 hI => ?_)
      replace hw := hw V3 eV3
      refine lv_goto (tgt := 38) hx hb dX2_leanFurther_12 (by decide) ?_
      exact W.vret hx hb hr (x_retv hI hw) hI.2.2.2.2 dX2_leanFurther_38
  exact hgo s.heap [] hI
def rm_X2_comeTo : Room := { frames := 2, cells := 0, slots := 0, locals := 36 }
set_option maxHeartbeats 4000000 in
set_option maxRecDepth 100000 in
theorem c_X2_comeTo (l : Launch) (g : GP) (ad : Nat → Nat) (sz : Nat) (V : VT) (k0 : Nat) (x1 : Int32) (hk0 : kX k0 = 2) (K : VT → Prop) (hw : wp_X2_comeTo V k0 x1 K) : Met l yX2_comeTo wsX2_comeTo rm_X2_comeTo (va_Pc [.ref (ad k0), .int x1] (WPre 76 (cX g ad) ad g V sz)) (va_Qv K (WPost 76 (cX g ad) ad g) (AW ad 76 sz)) 0 0 (AW ad 76 sz) := by
  refine Met.ofW (cc := cX2_comeTo) (maxL := 2) (ret := none) (by decide) rfl ?_
  intro p e s m args below meth c s₁ B hml hv
  obtain ⟨ha, hv⟩ := hv
  obtain rfl := hv.1
  have hI : WI g 76 (cX g ad) ad V s.heap s.heap [] := WI.start hv
  have hK := hv.2.2.1
  have hE := hv.2.2.2.2
  have hx := B.exec
  have hb := B.bytes
  have hr := B.returns
  have hts := atoms_spec (ws := wsX2_comeTo) B.pre
  have hown : s.vm.findClass RX2 = some m.cls := findClass_of_methodNamed B.named
  have hlocks := B.notSynchronized
  have hw_0 := hts (.fieldLink RX2 18 "HoopLane$Hoop" "lean" "I") (by decide +kernel)
  have hin2 : ∀ w ∈ wsX20, w ∈ wsX2_comeTo := by decide +kernel
  have hl := lv_entry ([.ref (ad k0), .int x1]) (n := 2) (Nat.le_of_ble_eq_true rfl)
  have hent : entryFrame m args 2 = F0 m 0 ((lg_sl ([.ref (ad k0), .int x1]) ++ List.replicate (2 - (lg_sl ([.ref (ad k0), .int x1])).length) Slot.unset).toArray) [] := by rw [ha, lg_entry_eq]
  rw [hent]
  generalize (lg_sl ([.ref (ad k0), .int x1]) ++ List.replicate (2 - (lg_sl ([.ref (ad k0), .int x1])).length) Slot.unset).toArray = ls at hl ⊢
  have hl : lv_has ls 2 [(0, .ref (ad k0)), (1, .int x1)] := hl
  obtain ⟨H, hH⟩ : ∃ H : Heap, H = s.heap := ⟨_, rfl⟩
  have hgo : ∀ (H : Heap) (locs : List Loc), WI g 76 (cX g ad) ad V s.heap H locs → W p l e (headSpec wsX2_comeTo rm_X2_comeTo).room s m args below meth c H locs 0 0 (MQ below (va_Qv K (WPost 76 (cX g ad) ad g) (AW ad 76 s.heap.size)) args s 0 0 (AW ad 76 s.heap.size)) (F0 m 0 ls []) := by
    intro H locs hI
    refine lv_iload_n hx hb dX2_comeTo_0 rfl (lv_at hl 1 rfl) ?_
    by_cases c1 : x1 = (1 : Int32)
    · replace hw := hw.1 c1
      refine lv_tableIn (off := 35) (tgt := 36) hx hb dX2_comeTo_1 (by rw [c1]; decide) (by rw [c1]; decide) (by rw [c1]; rfl) (by decide) ?_
      refine lv_aload_n hx hb dX2_comeTo_36 rfl (lv_at hl 0 rfl) ?_
      refine lv_iconst (v := (2 : Int32)) hx hb dX2_comeTo_37 (by decide) ?_
      refine x_aftv (va_runV (As := [.int (2 : Int32)]) (rest := []) ⟨hx, hb, hml, hown, hts⟩ (c_X2_changePace l g ad H.size V k0 (2 : Int32) hk0 _ hw) (cwV 1 hts gX2_comeTo_X2_changePace rfl rfl rfl (by decide +kernel) ⟨Nat.le_of_ble_eq_true rfl, Nat.le_of_ble_eq_true rfl⟩) (x_preV (k := k0) hK hE hI (kX_lt hk0 (by decide)) (cX_2 hk0) rfl) rfl rfl hl.1 rfl (lv_room (Nat.le_of_ble_eq_true rfl)) dX2_comeTo_38 ⟨Nat.zero_le _, Nat.zero_le _⟩) hI (fun V2 H locs hw hI => ?_)
      refine lv_goto (tgt := 83) hx hb dX2_comeTo_41 (by decide) ?_
      exact W.vret hx hb hr (x_retv hI hw) hI.2.2.2.2 dX2_comeTo_83
    · skip
      by_cases c3 : x1 = (2 : Int32)
      · replace hw := hw.2.1 c3
        refine lv_tableIn (off := 43) (tgt := 44) hx hb dX2_comeTo_1 (by rw [c3]; decide) (by rw [c3]; decide) (by rw [c3]; rfl) (by decide) ?_
        refine lv_aload_n hx hb dX2_comeTo_44 rfl (lv_at hl 0 rfl) ?_
        refine lv_iconst (v := (-1 : Int32)) hx hb dX2_comeTo_45 (by decide) ?_
        refine x_aftv (va_runV (As := [.int (-1 : Int32)]) (rest := []) ⟨hx, hb, hml, hown, hts⟩ (c_X2_changePace l g ad H.size V k0 (-1 : Int32) hk0 _ hw) (cwV 1 hts gX2_comeTo_X2_changePace rfl rfl rfl (by decide +kernel) ⟨Nat.le_of_ble_eq_true rfl, Nat.le_of_ble_eq_true rfl⟩) (x_preV (k := k0) hK hE hI (kX_lt hk0 (by decide)) (cX_2 hk0) rfl) rfl rfl hl.1 rfl (lv_room (Nat.le_of_ble_eq_true rfl)) dX2_comeTo_46 ⟨Nat.zero_le _, Nat.zero_le _⟩) hI (fun V4 H locs hw hI => ?_)
        refine lv_goto (tgt := 83) hx hb dX2_comeTo_49 (by decide) ?_
        exact W.vret hx hb hr (x_retv hI hw) hI.2.2.2.2 dX2_comeTo_83
      · skip
        by_cases c5 : x1 = (3 : Int32)
        · replace hw := hw.2.2.1 c5
          refine lv_tableIn (off := 51) (tgt := 52) hx hb dX2_comeTo_1 (by rw [c5]; decide) (by rw [c5]; decide) (by rw [c5]; rfl) (by decide) ?_
          refine lv_aload_n hx hb dX2_comeTo_52 rfl (lv_at hl 0 rfl) ?_
          refine lv_iconst (v := (0 : Int32)) hx hb dX2_comeTo_53 (by decide) ?_
          refine xp2_2 (k := k0) hx hb hts hin2 hown hK hI hk0 hw_0 dX2_comeTo_54 (fun V6 H locs eV6 hI => ?_)
          replace hw := hw V6 eV6
          refine lv_goto (tgt := 83) hx hb dX2_comeTo_57 (by decide) ?_
          exact W.vret hx hb hr (x_retv hI hw) hI.2.2.2.2 dX2_comeTo_83
        · skip
          by_cases c7 : x1 = (4 : Int32)
          · replace hw := hw.2.2.2.1 c7
            refine lv_tableIn (off := 59) (tgt := 60) hx hb dX2_comeTo_1 (by rw [c7]; decide) (by rw [c7]; decide) (by rw [c7]; rfl) (by decide) ?_
            refine lv_aload_n hx hb dX2_comeTo_60 rfl (lv_at hl 0 rfl) ?_
            refine lv_iconst (v := (2 : Int32)) hx hb dX2_comeTo_61 (by decide) ?_
            refine lv_iconst (v := (2 : Int32)) hx hb dX2_comeTo_62 (by decide) ?_
            refine x_aftv (va_runV (As := [.int (2 : Int32), .int (2 : Int32)]) (rest := []) ⟨hx, hb, hml, hown, hts⟩ (c_X2_leanFurther l g ad H.size V k0 (2 : Int32) (2 : Int32) hk0 _ hw) (cwV 2 hts gX2_comeTo_X2_leanFurther rfl rfl rfl (by decide +kernel) ⟨Nat.le_of_ble_eq_true rfl, Nat.le_of_ble_eq_true rfl⟩) (x_preV (k := k0) hK hE hI (kX_lt hk0 (by decide)) (cX_2 hk0) rfl) rfl rfl hl.1 rfl (lv_room (Nat.le_of_ble_eq_true rfl)) dX2_comeTo_63 ⟨Nat.zero_le _, Nat.zero_le _⟩) hI (fun V8 H locs hw hI => ?_)
            refine lv_goto (tgt := 83) hx hb dX2_comeTo_66 (by decide) ?_
            exact W.vret hx hb hr (x_retv hI hw) hI.2.2.2.2 dX2_comeTo_83
          · skip
            by_cases c9 : x1 = (5 : Int32)
            · replace hw := hw.2.2.2.2.1 c9
              refine lv_tableIn (off := 68) (tgt := 69) hx hb dX2_comeTo_1 (by rw [c9]; decide) (by rw [c9]; decide) (by rw [c9]; rfl) (by decide) ?_
              refine lv_aload_n hx hb dX2_comeTo_69 rfl (lv_at hl 0 rfl) ?_
              refine lv_iconst (v := (-1 : Int32)) hx hb dX2_comeTo_70 (by decide) ?_
              refine x_aftv (va_runV (As := [.int (-1 : Int32)]) (rest := []) ⟨hx, hb, hml, hown, hts⟩ (c_X2_changePace l g ad H.size V k0 (-1 : Int32) hk0 _ hw) (cwV 1 hts gX2_comeTo_X2_changePace rfl rfl rfl (by decide +kernel) ⟨Nat.le_of_ble_eq_true rfl, Nat.le_of_ble_eq_true rfl⟩) (x_preV (k := k0) hK hE hI (kX_lt hk0 (by decide)) (cX_2 hk0) rfl) rfl rfl hl.1 rfl (lv_room (Nat.le_of_ble_eq_true rfl)) dX2_comeTo_71 ⟨Nat.zero_le _, Nat.zero_le _⟩) hI (fun V10 H locs hw hI => ?_)
              refine lv_aload_n hx hb dX2_comeTo_74 rfl (lv_at hl 0 rfl) ?_
              refine lv_iconst (v := (1 : Int32)) hx hb dX2_comeTo_75 (by decide) ?_
              refine lv_iconst (v := (-1 : Int32)) hx hb dX2_comeTo_76 (by decide) ?_
              refine x_aftv (va_runV (As := [.int (1 : Int32), .int (-1 : Int32)]) (rest := []) ⟨hx, hb, hml, hown, hts⟩ (c_X2_leanFurther l g ad H.size V10 k0 (1 : Int32) (-1 : Int32) hk0 _ hw) (cwV 2 hts gX2_comeTo_X2_leanFurther rfl rfl rfl (by decide +kernel) ⟨Nat.le_of_ble_eq_true rfl, Nat.le_of_ble_eq_true rfl⟩) (x_preV (k := k0) hK hE hI (kX_lt hk0 (by decide)) (cX_2 hk0) rfl) rfl rfl hl.1 rfl (lv_room (Nat.le_of_ble_eq_true rfl)) dX2_comeTo_77 ⟨Nat.zero_le _, Nat.zero_le _⟩) hI (fun V11 H locs hw hI => ?_)
              refine lv_goto (tgt := 83) hx hb dX2_comeTo_80 (by decide) ?_
              exact W.vret hx hb hr (x_retv hI hw) hI.2.2.2.2 dX2_comeTo_83
            · skip
              replace hw := hw.2.2.2.2.2 c1 c3 c5 c7 c9
              refine lv_tableOut (tgt := 83) hx hb dX2_comeTo_1 (by have ec1 : ¬ Int32.toInt x1 = 1 := fun h => c1 (Int32.toInt_inj.mp (h.trans (by decide))); have ec3 : ¬ Int32.toInt x1 = 2 := fun h => c3 (Int32.toInt_inj.mp (h.trans (by decide))); have ec5 : ¬ Int32.toInt x1 = 3 := fun h => c5 (Int32.toInt_inj.mp (h.trans (by decide))); have ec7 : ¬ Int32.toInt x1 = 4 := fun h => c7 (Int32.toInt_inj.mp (h.trans (by decide))); have ec9 : ¬ Int32.toInt x1 = 5 := fun h => c9 (Int32.toInt_inj.mp (h.trans (by decide))); omega) (by decide) ?_
              exact W.vret hx hb hr (x_retv hI hw) hI.2.2.2.2 dX2_comeTo_83
  exact hgo s.heap [] hI
def rm_X2_pass : Room := { frames := 3, cells := 0, slots := 0, locals := 58 }
set_option maxHeartbeats 4000000 in
set_option maxRecDepth 100000 in
theorem c_X2_pass (l : Launch) (g : GP) (ad : Nat → Nat) (sz : Nat) (V : VT) (k0 : Nat) (k1 : Nat) (x2 : Int32) (x3 : Int32) (hk0 : kX k0 = 2) (hk1 : kX k1 = 3) (K : VT → Prop) (hw : wp_X2_pass V k0 k1 x2 x3 K) : Met l yX2_pass wsX2_pass rm_X2_pass (va_Pc [.ref (ad k0), .ref (ad k1), .int x2, .int x3] (WPre 76 (cX g ad) ad g V sz)) (va_Qv K (WPost 76 (cX g ad) ad g) (AW ad 76 sz)) 0 0 (AW ad 76 sz) := by
  refine Met.ofW (cc := cX2_pass) (maxL := 4) (ret := none) (by decide) rfl ?_
  intro p e s m args below meth c s₁ B hml hv
  obtain ⟨ha, hv⟩ := hv
  obtain rfl := hv.1
  have hI : WI g 76 (cX g ad) ad V s.heap s.heap [] := WI.start hv
  have hK := hv.2.2.1
  have hE := hv.2.2.2.2
  have hx := B.exec
  have hb := B.bytes
  have hr := B.returns
  have hts := atoms_spec (ws := wsX2_pass) B.pre
  have hown : s.vm.findClass RX2 = some m.cls := findClass_of_methodNamed B.named
  have hlocks := B.notSynchronized
  have hw_0 := hts (.fieldLink RX2 21 "HoopLane$Hoop" "end" "I") (by decide +kernel)
  have hw_1 := hts (.fieldLink RX2 9 "HoopLane$Hoop" "yard" "I") (by decide +kernel)
  have hw_2 := hts (.fieldLink RX2 15 "HoopLane$Hoop" "pace" "I") (by decide +kernel)
  have hw_3 := hts (.fieldLink RX2 28 "HoopLane$Lane" "yards" "I") (by decide +kernel)
  have hw_4 := hts (.fieldLink RX2 33 "HoopLane$Lane" "grounds" "[I") (by decide +kernel)
  have hw_5 := hts (.fieldLink RX2 41 "HoopLane$Lane" "drag" "I") (by decide +kernel)
  have hw_6 := hts (.fieldLink RX2 18 "HoopLane$Hoop" "lean" "I") (by decide +kernel)
  have hw_7 := hts (.fieldLink RX2 50 "HoopLane$Lane" "holds" "I") (by decide +kernel)
  have hw_8 := hts (.initialized RX7) (by decide +kernel)
  have hw_9 := hts (.static yX7_isOut) (by decide +kernel)
  have hin2 : ∀ w ∈ wsX20, w ∈ wsX2_pass := by decide +kernel
  have hin3 : ∀ w ∈ wsX30, w ∈ wsX2_pass := by decide +kernel
  have hl := lv_entry ([.ref (ad k0), .ref (ad k1), .int x2, .int x3]) (n := 4) (Nat.le_of_ble_eq_true rfl)
  have hent : entryFrame m args 4 = F0 m 0 ((lg_sl ([.ref (ad k0), .ref (ad k1), .int x2, .int x3]) ++ List.replicate (4 - (lg_sl ([.ref (ad k0), .ref (ad k1), .int x2, .int x3])).length) Slot.unset).toArray) [] := by rw [ha, lg_entry_eq]
  rw [hent]
  generalize (lg_sl ([.ref (ad k0), .ref (ad k1), .int x2, .int x3]) ++ List.replicate (4 - (lg_sl ([.ref (ad k0), .ref (ad k1), .int x2, .int x3])).length) Slot.unset).toArray = ls at hl ⊢
  have hl : lv_has ls 4 [(0, .ref (ad k0)), (1, .ref (ad k1)), (2, .int x2), (3, .int x3)] := hl
  obtain ⟨H, hH⟩ : ∃ H : Heap, H = s.heap := ⟨_, rfl⟩
  have hb138 : ∀ (V : VT) (H : Heap) (locs : List Loc) (ls : Array Slot) (k0 : Nat), kX k0 = 2 → WI g 76 (cX g ad) ad V s.heap H locs → lv_has ls 4 [(0, .ref (ad k0))] → wp_X2_pass_b138 K  V k0 → W p l e (headSpec wsX2_pass rm_X2_pass).room s m args below meth c H locs 0 0 (MQ below (va_Qv K (WPost 76 (cX g ad) ad g) (AW ad 76 s.heap.size)) args s 0 0 (AW ad 76 s.heap.size)) (F0 m 138 ls []) := by
    intro V H locs ls k0 hk0 hI hl hw
    refine lv_aload_n hx hb dX2_pass_138 rfl (lv_at hl 0 rfl) ?_
    refine lv_iconst (v := (1 : Int32)) hx hb dX2_pass_139 (by decide) ?_
    refine xp2_3 (k := k0) hx hb hts hin2 hown hK hI hk0 hw_0 dX2_pass_140 (fun V18 H locs eV18 hI => ?_)
    replace hw := hw V18 eV18
    exact W.vret hx hb hr (x_retv hI hw) hI.2.2.2.2 dX2_pass_143
  have hb111 : ∀ (V : VT) (H : Heap) (locs : List Loc) (ls : Array Slot) (k0 : Nat) (k1 : Nat), kX k0 = 2 → kX k1 = 3 → WI g 76 (cX g ad) ad V s.heap H locs → lv_has ls 4 [(0, .ref (ad k0)), (1, .ref (ad k1))] → wp_X2_pass_b111 K  V k0 k1 → W p l e (headSpec wsX2_pass rm_X2_pass).room s m args below meth c H locs 0 0 (MQ below (va_Qv K (WPost 76 (cX g ad) ad g) (AW ad 76 s.heap.size)) args s 0 0 (AW ad 76 s.heap.size)) (F0 m 111 ls []) := by
    intro V H locs ls k0 k1 hk0 hk1 hI hl hw
    refine lv_aload_n hx hb dX2_pass_111 rfl (lv_at hl 0 rfl) ?_
    refine xg2_2 (k := k0) hx hb hts hin2 hown hK hI hk0 hw_6 dX2_pass_112 ?_
    refine lv_iconst (v := (0 : Int32)) hx hb dX2_pass_115 (by decide) ?_
    refine lv_aload_n hx hb dX2_pass_116 rfl (lv_at hl 1 rfl) ?_
    refine xg3_6 (k := k1) hx hb hts hin3 hown hK hI hk1 hw_7 dX2_pass_117 ?_
    refine lv_isub hx hb dX2_pass_120 ?_
    refine lv_aload_n hx hb dX2_pass_121 rfl (lv_at hl 1 rfl) ?_
    refine xg3_6 (k := k1) hx hb hts hin3 hown hK hI hk1 hw_7 dX2_pass_122 ?_
    refine x_afti (va_runSN (As := [.int (V k0 2), .int ((0 : Int32) - (V k1 6)), .int (V k1 6)]) (rest := []) ⟨hx, hb, hml, hown, hts⟩ (c_X7_isOut l g ad H.size V (V k0 2) ((0 : Int32) - (V k1 6)) (V k1 6) _ hw) ⟨va_cnB 3 hts gX2_pass_X7_isOut_n53 rfl rfl rfl (hE.1 _ (List.mem_of_getElem? (i := 1) rfl)) hw_8 (by decide +kernel) ⟨Nat.le_of_ble_eq_true rfl, Nat.le_of_ble_eq_true rfl⟩, hw_9, trivial⟩ (x_preS hK hE hI) rfl rfl hl.1 rfl (lv_room (Nat.le_of_ble_eq_true rfl)) dX2_pass_125 ⟨Nat.zero_le _, Nat.zero_le _⟩) hI (fun r14 V13 H locs hw hI => ?_)
    refine lv_if_ne (tgt := 138) hx hb dX2_pass_128 (by decide) (fun c15 => ?_) (fun c15 => ?_)
    · replace hw := hw.1 c15
      exact hb138 V13 H locs ls k0 hk0 hI (lv_sub hl [0] rfl) hw
    · replace hw := hw.2 c15
      refine lv_aload_n hx hb dX2_pass_131 rfl (lv_at hl 0 rfl) ?_
      refine xg2_1 (k := k0) hx hb hts hin2 hown hK hI hk0 hw_2 dX2_pass_132 ?_
      refine lv_if_ne (tgt := 143) hx hb dX2_pass_135 (by decide) (fun c16 => ?_) (fun c16 => ?_)
      · replace hw := hw.1 c16
        exact W.vret hx hb hr (x_retv hI hw) hI.2.2.2.2 dX2_pass_143
      · replace hw := hw.2 c16
        exact hb138 V13 H locs ls k0 hk0 hI (lv_sub hl [0] rfl) hw
  have hb108 : ∀ (V : VT) (H : Heap) (locs : List Loc) (ls : Array Slot) (k0 : Nat) (k1 : Nat) (t0 : Nat) (s1 : Int32) (s2 : Int32), kX k0 = 2 → kX k1 = 3 → kX t0 = 2 → WI g 76 (cX g ad) ad V s.heap H locs → lv_has ls 4 [(0, .ref (ad k0)), (1, .ref (ad k1))] → wp_X2_pass_b108 K  V k0 k1 t0 s1 s2 → W p l e (headSpec wsX2_pass rm_X2_pass).room s m args below meth c H locs 0 0 (MQ below (va_Qv K (WPost 76 (cX g ad) ad g) (AW ad 76 s.heap.size)) args s 0 0 (AW ad 76 s.heap.size)) (F0 m 108 ls [.int s2, .int s1, .ref (ad t0)]) := by
    intro V H locs ls k0 k1 t0 s1 s2 hk0 hk1 ht0 hI hl hw
    refine x_aftv (va_runV (As := [.int s1, .int s2]) (rest := []) ⟨hx, hb, hml, hown, hts⟩ (c_X2_leanFurther l g ad H.size V t0 s1 s2 ht0 _ hw) (cwV 2 hts gX2_pass_X2_leanFurther rfl rfl rfl (by decide +kernel) ⟨Nat.le_of_ble_eq_true rfl, Nat.le_of_ble_eq_true rfl⟩) (x_preV (k := t0) hK hE hI (kX_lt ht0 (by decide)) (cX_2 ht0) rfl) rfl rfl hl.1 rfl (lv_room (Nat.le_of_ble_eq_true rfl)) dX2_pass_108 ⟨Nat.zero_le _, Nat.zero_le _⟩) hI (fun V17 H locs hw hI => ?_)
    exact hb111 V17 H locs ls k0 k1 hk0 hk1 hI (lv_sub hl [0, 1] rfl) hw
  have hb74 : ∀ (V : VT) (H : Heap) (locs : List Loc) (ls : Array Slot) (k0 : Nat) (k1 : Nat), kX k0 = 2 → kX k1 = 3 → WI g 76 (cX g ad) ad V s.heap H locs → lv_has ls 4 [(0, .ref (ad k0)), (1, .ref (ad k1))] → wp_X2_pass_b74 K  V k0 k1 → W p l e (headSpec wsX2_pass rm_X2_pass).room s m args below meth c H locs 0 0 (MQ below (va_Qv K (WPost 76 (cX g ad) ad g) (AW ad 76 s.heap.size)) args s 0 0 (AW ad 76 s.heap.size)) (F0 m 74 ls []) := by
    intro V H locs ls k0 k1 hk0 hk1 hI hl hw
    refine lv_aload_n hx hb dX2_pass_74 rfl (lv_at hl 0 rfl) ?_
    refine lv_iconst (v := (0 : Int32)) hx hb dX2_pass_75 (by decide) ?_
    refine lv_aload_n hx hb dX2_pass_76 rfl (lv_at hl 1 rfl) ?_
    refine xg3_7 (k := k1) hx hb hts hin3 hown hK hI hk1 hw_5 dX2_pass_77 ?_
    refine lv_isub hx hb dX2_pass_80 ?_
    refine x_aftv (va_runV (As := [.int ((0 : Int32) - (V k1 7))]) (rest := []) ⟨hx, hb, hml, hown, hts⟩ (c_X2_changePace l g ad H.size V k0 ((0 : Int32) - (V k1 7)) hk0 _ hw) (cwV 1 hts gX2_pass_X2_changePace rfl rfl rfl (by decide +kernel) ⟨Nat.le_of_ble_eq_true rfl, Nat.le_of_ble_eq_true rfl⟩) (x_preV (k := k0) hK hE hI (kX_lt hk0 (by decide)) (cX_2 hk0) rfl) rfl rfl hl.1 rfl (lv_room (Nat.le_of_ble_eq_true rfl)) dX2_pass_81 ⟨Nat.zero_le _, Nat.zero_le _⟩) hI (fun V10 H locs hw hI => ?_)
    refine lv_aload_n hx hb dX2_pass_84 rfl (lv_at hl 0 rfl) ?_
    refine xg2_1 (k := k0) hx hb hts hin2 hown hK hI hk0 hw_2 dX2_pass_85 ?_
    refine lv_iconst (v := (4 : Int32)) hx hb dX2_pass_88 (by decide) ?_
    refine lv_icmp_ge (tgt := 111) hx hb dX2_pass_89 (by decide) (fun c11 => ?_) (fun c11 => ?_)
    · replace hw := hw.1 c11
      exact hb111 V10 H locs ls k0 k1 hk0 hk1 hI (lv_sub hl [0, 1] rfl) hw
    · replace hw := hw.2 c11
      refine lv_aload_n hx hb dX2_pass_92 rfl (lv_at hl 0 rfl) ?_
      refine lv_iconst (v := (1 : Int32)) hx hb dX2_pass_93 (by decide) ?_
      refine lv_aload_n hx hb dX2_pass_94 rfl (lv_at hl 0 rfl) ?_
      refine xg2_0 (k := k0) hx hb hts hin2 hown hK hI hk0 hw_1 dX2_pass_95 ?_
      refine lv_iconst (v := (2 : Int32)) hx hb dX2_pass_98 (by decide) ?_
      refine lv_irem hx hb dX2_pass_99 (by decide) ?_
      refine lv_if_ne (tgt := 107) hx hb dX2_pass_100 (by decide) (fun c12 => ?_) (fun c12 => ?_)
      · replace hw := hw.1 c12
        refine lv_iconst (v := (-1 : Int32)) hx hb dX2_pass_107 (by decide) ?_
        exact hb108 V10 H locs ls k0 k1 k0 (1 : Int32) (-1 : Int32) hk0 hk1 hk0 hI (lv_sub hl [0, 1] rfl) hw
      · replace hw := hw.2 c12
        refine lv_iconst (v := (1 : Int32)) hx hb dX2_pass_103 (by decide) ?_
        refine lv_goto (tgt := 108) hx hb dX2_pass_104 (by decide) ?_
        exact hb108 V10 H locs ls k0 k1 k0 (1 : Int32) (1 : Int32) hk0 hk1 hk0 hI (lv_sub hl [0, 1] rfl) hw
  have hgo : ∀ (H : Heap) (locs : List Loc), WI g 76 (cX g ad) ad V s.heap H locs → W p l e (headSpec wsX2_pass rm_X2_pass).room s m args below meth c H locs 0 0 (MQ below (va_Qv K (WPost 76 (cX g ad) ad g) (AW ad 76 s.heap.size)) args s 0 0 (AW ad 76 s.heap.size)) (F0 m 0 ls []) := by
    intro H locs hI
    refine lv_aload_n hx hb dX2_pass_0 rfl (lv_at hl 0 rfl) ?_
    refine xg2_3 (k := k0) hx hb hts hin2 hown hK hI hk0 hw_0 dX2_pass_1 ?_
    refine lv_if_eq (tgt := 8) hx hb dX2_pass_4 (by decide) (fun c1 => ?_) (fun c1 => ?_)
    · replace hw := hw.1 c1
      refine lv_aload_n hx hb dX2_pass_8 rfl (lv_at hl 0 rfl) ?_
      refine lv_iload_n hx hb dX2_pass_9 rfl (lv_at hl 2 rfl) ?_
      refine lv_iload_n hx hb dX2_pass_10 rfl (lv_at hl 3 rfl) ?_
      refine x_aftv (va_runV (As := [.int x2, .int x3]) (rest := []) ⟨hx, hb, hml, hown, hts⟩ (c_X2_takeTap l g ad H.size V k0 x2 x3 hk0 _ hw) (cwV 2 hts gX2_pass_X2_takeTap rfl rfl rfl (by decide +kernel) ⟨Nat.le_of_ble_eq_true rfl, Nat.le_of_ble_eq_true rfl⟩) (x_preV (k := k0) hK hE hI (kX_lt hk0 (by decide)) (cX_2 hk0) rfl) rfl rfl hl.1 rfl (lv_room (Nat.le_of_ble_eq_true rfl)) dX2_pass_11 ⟨Nat.zero_le _, Nat.zero_le _⟩) hI (fun V2 H locs hw hI => ?_)
      refine lv_aload_n hx hb dX2_pass_14 rfl (lv_at hl 0 rfl) ?_
      refine lv_dup hx hb dX2_pass_15 rfl ?_
      refine xg2_0 (k := k0) hx hb hts hin2 hown hK hI hk0 hw_1 dX2_pass_16 ?_
      refine lv_aload_n hx hb dX2_pass_19 rfl (lv_at hl 0 rfl) ?_
      refine xg2_1 (k := k0) hx hb hts hin2 hown hK hI hk0 hw_2 dX2_pass_20 ?_
      refine lv_iconst (v := (3 : Int32)) hx hb dX2_pass_23 (by decide) ?_
      refine lv_idiv hx hb dX2_pass_24 (by decide) ?_
      refine lv_iconst (v := (1 : Int32)) hx hb dX2_pass_25 (by decide) ?_
      refine lv_iadd hx hb dX2_pass_26 ?_
      refine lv_iadd hx hb dX2_pass_27 ?_
      refine xp2_0 (k := k0) hx hb hts hin2 hown hK hI hk0 hw_1 dX2_pass_28 (fun V3 H locs eV3 hI => ?_)
      replace hw := hw V3 eV3
      refine lv_aload_n hx hb dX2_pass_31 rfl (lv_at hl 0 rfl) ?_
      refine xg2_0 (k := k0) hx hb hts hin2 hown hK hI hk0 hw_1 dX2_pass_32 ?_
      refine lv_aload_n hx hb dX2_pass_35 rfl (lv_at hl 1 rfl) ?_
      refine xg3_4 (k := k1) hx hb hts hin3 hown hK hI hk1 hw_3 dX2_pass_36 ?_
      refine lv_icmp_lt (tgt := 56) hx hb dX2_pass_39 (by decide) (fun c4 => ?_) (fun c4 => ?_)
      · replace hw := hw.1 c4
        refine lv_iload_n hx hb dX2_pass_56 rfl (lv_at hl 2 rfl) ?_
        refine lv_iconst (v := (3 : Int32)) hx hb dX2_pass_57 (by decide) ?_
        refine lv_icmp_eq (tgt := 74) hx hb dX2_pass_58 (by decide) (fun c5 => ?_) (fun c5 => ?_)
        · replace hw := hw.1 c5
          exact hb74 V3 H locs ls k0 k1 hk0 hk1 hI (lv_sub hl [0, 1] rfl) hw
        · replace hw := hw.2 c5
          refine lv_aload_n hx hb dX2_pass_61 rfl (lv_at hl 0 rfl) ?_
          refine lv_aload_n hx hb dX2_pass_62 rfl (lv_at hl 1 rfl) ?_
          refine xg3_0 (k := k1) hx hb hts hin3 hown hK hI hk1 hw_4 dX2_pass_63 ?_
          refine lv_aload_n hx hb dX2_pass_66 rfl (lv_at hl 0 rfl) ?_
          refine xg2_0 (k := k0) hx hb hts hin2 hown hK hI hk0 hw_1 dX2_pass_67 ?_
          obtain ⟨h6, hw⟩ := hw
          refine x_iald (k := k1 + 1) hx hb hK hI (kX_lt (kX_3s hk1).1 (by decide)) (cX_9 (kX_3s hk1).1 (kX_3s hk1).2.1) h6 dX2_pass_70 ?_
          refine x_aftv (va_runV (As := [.int (V3 (k1 + 1) ((V3 k0 0)).toNatClampNeg)]) (rest := []) ⟨hx, hb, hml, hown, hts⟩ (c_X2_comeTo l g ad H.size V3 k0 (V3 (k1 + 1) ((V3 k0 0)).toNatClampNeg) hk0 _ hw) (cwV 1 hts gX2_pass_X2_comeTo rfl rfl rfl (by decide +kernel) ⟨Nat.le_of_ble_eq_true rfl, Nat.le_of_ble_eq_true rfl⟩) (x_preV (k := k0) hK hE hI (kX_lt hk0 (by decide)) (cX_2 hk0) rfl) rfl rfl hl.1 rfl (lv_room (Nat.le_of_ble_eq_true rfl)) dX2_pass_71 ⟨Nat.zero_le _, Nat.zero_le _⟩) hI (fun V7 H locs hw hI => ?_)
          exact hb74 V7 H locs ls k0 k1 hk0 hk1 hI (lv_sub hl [0, 1] rfl) hw
      · replace hw := hw.2 c4
        refine lv_aload_n hx hb dX2_pass_42 rfl (lv_at hl 0 rfl) ?_
        refine lv_aload_n hx hb dX2_pass_43 rfl (lv_at hl 1 rfl) ?_
        refine xg3_4 (k := k1) hx hb hts hin3 hown hK hI hk1 hw_3 dX2_pass_44 ?_
        refine xp2_0 (k := k0) hx hb hts hin2 hown hK hI hk0 hw_1 dX2_pass_47 (fun V8 H locs eV8 hI => ?_)
        replace hw := hw V8 eV8
        refine lv_aload_n hx hb dX2_pass_50 rfl (lv_at hl 0 rfl) ?_
        refine lv_iconst (v := (2 : Int32)) hx hb dX2_pass_51 (by decide) ?_
        refine xp2_3 (k := k0) hx hb hts hin2 hown hK hI hk0 hw_0 dX2_pass_52 (fun V9 H locs eV9 hI => ?_)
        replace hw := hw V9 eV9
        exact W.vret hx hb hr (x_retv hI hw) hI.2.2.2.2 dX2_pass_55
    · replace hw := hw.2 c1
      exact W.vret hx hb hr (x_retv hI hw) hI.2.2.2.2 dX2_pass_7
  exact hgo s.heap [] hI
def rm_X3_isThere : Room := { frames := 0, cells := 0, slots := 0, locals := 0 }
set_option maxHeartbeats 4000000 in
set_option maxRecDepth 100000 in
theorem c_X3_isThere (l : Launch) (g : GP) (ad : Nat → Nat) (sz : Nat) (V : VT) (k0 : Nat) (hk0 : kX k0 = 3) (K : Int32 → VT → Prop) (hw : wp_X3_isThere V k0 K) : Met l yX3_isThere wsX3_isThere rm_X3_isThere (va_Pc [.ref (ad k0)] (WPre 76 (cX g ad) ad g V sz)) (va_Qi K (WPost 76 (cX g ad) ad g) (AW ad 76 sz)) 0 0 (AW ad 76 sz) := by
  refine Met.ofW (cc := cX3_isThere) (maxL := 1) (ret := (some .boolean)) (by decide) rfl ?_
  intro p e s m args below meth c s₁ B hml hv
  obtain ⟨ha, hv⟩ := hv
  obtain rfl := hv.1
  have hI : WI g 76 (cX g ad) ad V s.heap s.heap [] := WI.start hv
  have hK := hv.2.2.1
  have hE := hv.2.2.2.2
  have hx := B.exec
  have hb := B.bytes
  have hr := B.returns
  have hts := atoms_spec (ws := wsX3_isThere) B.pre
  have hown : s.vm.findClass RX3 = some m.cls := findClass_of_methodNamed B.named
  have hlocks := B.notSynchronized
  have hw_0 := hts (.fieldLink RX3 28 "HoopLane$Lane" "yards" "I") (by decide +kernel)
  have hin3 : ∀ w ∈ wsX30, w ∈ wsX3_isThere := by decide +kernel
  have hl := lv_entry ([.ref (ad k0)]) (n := 1) (Nat.le_of_ble_eq_true rfl)
  have hent : entryFrame m args 1 = F0 m 0 ((lg_sl ([.ref (ad k0)]) ++ List.replicate (1 - (lg_sl ([.ref (ad k0)])).length) Slot.unset).toArray) [] := by rw [ha, lg_entry_eq]
  rw [hent]
  generalize (lg_sl ([.ref (ad k0)]) ++ List.replicate (1 - (lg_sl ([.ref (ad k0)])).length) Slot.unset).toArray = ls at hl ⊢
  have hl : lv_has ls 1 [(0, .ref (ad k0))] := hl
  obtain ⟨H, hH⟩ : ∃ H : Heap, H = s.heap := ⟨_, rfl⟩
  have hgo : ∀ (H : Heap) (locs : List Loc), WI g 76 (cX g ad) ad V s.heap H locs → W p l e (headSpec wsX3_isThere rm_X3_isThere).room s m args below meth c H locs 0 0 (MQ below (va_Qi K (WPost 76 (cX g ad) ad g) (AW ad 76 s.heap.size)) args s 0 0 (AW ad 76 s.heap.size)) (F0 m 0 ls []) := by
    intro H locs hI
    refine lv_aload_n hx hb dX3_isThere_0 rfl (lv_at hl 0 rfl) ?_
    refine xg3_4 (k := k0) hx hb hts hin3 hown hK hI hk0 hw_0 dX3_isThere_1 ?_
    refine lv_if_le (tgt := 11) hx hb dX3_isThere_4 (by decide) (fun c1 => ?_) (fun c1 => ?_)
    · replace hw := hw.1 c1
      refine lv_iconst (v := (0 : Int32)) hx hb dX3_isThere_11 (by decide) ?_
      exact W.zret (v := (0 : Int32)) hx hb hr rfl (x_reti hI hw) hI.2.2.2.2 dX3_isThere_12
    · replace hw := hw.2 c1
      refine lv_iconst (v := (1 : Int32)) hx hb dX3_isThere_7 (by decide) ?_
      refine lv_goto (tgt := 12) hx hb dX3_isThere_8 (by decide) ?_
      exact W.zret (v := (1 : Int32)) hx hb hr rfl (x_reti hI hw) hI.2.2.2.2 dX3_isThere_12
  exact hgo s.heap [] hI
def rm_X3_be : Room := { frames := 1, cells := 0, slots := 0, locals := 21 }
set_option maxHeartbeats 4000000 in
set_option maxRecDepth 100000 in
theorem c_X3_be (l : Launch) (g : GP) (ad : Nat → Nat) (sz : Nat) (V : VT) (k0 : Nat) (k1 : Nat) (hk0 : kX k0 = 3) (hk1 : kX k1 = 3) (K : VT → Prop) (hw : wp_X3_be V k0 k1 K) : Met l yX3_be wsX3_be rm_X3_be (va_Pc [.ref (ad k0), .ref (ad k1)] (WPre 76 (cX g ad) ad g V sz)) (va_Qv K (WPost 76 (cX g ad) ad g) (AW ad 76 sz)) 0 0 (AW ad 76 sz) := by
  refine Met.ofW (cc := cX3_be) (maxL := 2) (ret := none) (by decide) rfl ?_
  intro p e s m args below meth c s₁ B hml hv
  obtain ⟨ha, hv⟩ := hv
  obtain rfl := hv.1
  have hI : WI g 76 (cX g ad) ad V s.heap s.heap [] := WI.start hv
  have hK := hv.2.2.1
  have hE := hv.2.2.2.2
  have hx := B.exec
  have hb := B.bytes
  have hr := B.returns
  have hts := atoms_spec (ws := wsX3_be) B.pre
  have hown : s.vm.findClass RX3 = some m.cls := findClass_of_methodNamed B.named
  have hlocks := B.notSynchronized
  have hw_0 := hts (.fieldLink RX3 9 "HoopLane$Lane" "grounds" "[I") (by decide +kernel)
  have hw_1 := hts (.methodLink RX3 44 arraycopyName) (by decide +kernel)
  have hw_2 := hts (.native arraycopyName) (by decide +kernel)
  have hw_3 := hts (.static arraycopyName) (by decide +kernel)
  have hw_4 := hts (.initialized "java/lang/System") (by decide +kernel)
  have hw_5 := hts (.fieldLink RX3 15 "HoopLane$Lane" "kinds" "[I") (by decide +kernel)
  have hw_6 := hts (.fieldLink RX3 18 "HoopLane$Lane" "forces" "[I") (by decide +kernel)
  have hw_7 := hts (.fieldLink RX3 24 "HoopLane$Lane" "hoop" "LHoopLane$Hoop;") (by decide +kernel)
  have hw_8 := hts (.fieldLink RX3 28 "HoopLane$Lane" "yards" "I") (by decide +kernel)
  have hw_9 := hts (.fieldLink RX3 32 "HoopLane$Lane" "taps" "I") (by decide +kernel)
  have hw_10 := hts (.fieldLink RX3 35 "HoopLane$Lane" "holds" "I") (by decide +kernel)
  have hw_11 := hts (.fieldLink RX3 38 "HoopLane$Lane" "drag" "I") (by decide +kernel)
  have hw_12 := hts (.fieldLink RX3 41 "HoopLane$Lane" "moment" "I") (by decide +kernel)
  have hin3 : ∀ w ∈ wsX30, w ∈ wsX3_be := by decide +kernel
  have hl := lv_entry ([.ref (ad k0), .ref (ad k1)]) (n := 2) (Nat.le_of_ble_eq_true rfl)
  have hent : entryFrame m args 2 = F0 m 0 ((lg_sl ([.ref (ad k0), .ref (ad k1)]) ++ List.replicate (2 - (lg_sl ([.ref (ad k0), .ref (ad k1)])).length) Slot.unset).toArray) [] := by rw [ha, lg_entry_eq]
  rw [hent]
  generalize (lg_sl ([.ref (ad k0), .ref (ad k1)]) ++ List.replicate (2 - (lg_sl ([.ref (ad k0), .ref (ad k1)])).length) Slot.unset).toArray = ls at hl ⊢
  have hl : lv_has ls 2 [(0, .ref (ad k0)), (1, .ref (ad k1))] := hl
  obtain ⟨H, hH⟩ : ∃ H : Heap, H = s.heap := ⟨_, rfl⟩
  have hgo : ∀ (H : Heap) (locs : List Loc), WI g 76 (cX g ad) ad V s.heap H locs → W p l e (headSpec wsX3_be rm_X3_be).room s m args below meth c H locs 0 0 (MQ below (va_Qv K (WPost 76 (cX g ad) ad g) (AW ad 76 s.heap.size)) args s 0 0 (AW ad 76 s.heap.size)) (F0 m 0 ls []) := by
    intro H locs hI
    refine lv_aload_n hx hb dX3_be_0 rfl (lv_at hl 1 rfl) ?_
    refine xg3_0 (k := k1) hx hb hts hin3 hown hK hI hk1 hw_0 dX3_be_1 ?_
    refine lv_iconst (v := (0 : Int32)) hx hb dX3_be_4 (by decide) ?_
    refine lv_aload_n hx hb dX3_be_5 rfl (lv_at hl 0 rfl) ?_
    refine xg3_0 (k := k0) hx hb hts hin3 hown hK hI hk0 hw_0 dX3_be_6 ?_
    refine lv_iconst (v := (0 : Int32)) hx hb dX3_be_9 (by decide) ?_
    refine lv_bipush (v := (24 : Int32)) hx hb dX3_be_10 (by decide) ?_
    obtain ⟨h2, h3, h4, h5, h6, hw⟩ := hw
    refine x_copy (k0 := k1 + 1) (k1 := k0 + 1) hx hb (hml.trans hl.1.symm) hown hw_1 hw_2 hw_3 hw_4 hK hI (cX_loc g ad) (kX_lt (kX_3s hk1).1 (by decide)) (fun _ => cX_9 (kX_3s hk1).1 (kX_3s hk1).2.1) (kX_lt (kX_3s hk0).1 (by decide)) (fun _ => cX_9 (kX_3s hk0).1 (kX_3s hk0).2.1) h2 h3 h4 h5 h6 (Nat.le_of_ble_eq_true rfl) (Nat.le_of_ble_eq_true rfl) dX3_be_12 (fun V1 H locs eV1 hI => ?_)
    replace hw := hw V1 eV1
    refine lv_aload_n hx hb dX3_be_15 rfl (lv_at hl 1 rfl) ?_
    refine xg3_1 (k := k1) hx hb hts hin3 hown hK hI hk1 hw_5 dX3_be_16 ?_
    refine lv_iconst (v := (0 : Int32)) hx hb dX3_be_19 (by decide) ?_
    refine lv_aload_n hx hb dX3_be_20 rfl (lv_at hl 0 rfl) ?_
    refine xg3_1 (k := k0) hx hb hts hin3 hown hK hI hk0 hw_5 dX3_be_21 ?_
    refine lv_iconst (v := (0 : Int32)) hx hb dX3_be_24 (by decide) ?_
    refine lv_iconst (v := (5 : Int32)) hx hb dX3_be_25 (by decide) ?_
    obtain ⟨h8, h9, h10, h11, h12, hw⟩ := hw
    refine x_copy (k0 := k1 + 2) (k1 := k0 + 2) hx hb (hml.trans hl.1.symm) hown hw_1 hw_2 hw_3 hw_4 hK hI (cX_loc g ad) (kX_lt (kX_3s hk1).2.2.1 (by decide)) (fun _ => cX_9 (kX_3s hk1).2.2.1 (kX_3s hk1).2.2.2.1) (kX_lt (kX_3s hk0).2.2.1 (by decide)) (fun _ => cX_9 (kX_3s hk0).2.2.1 (kX_3s hk0).2.2.2.1) h8 h9 h10 h11 h12 (Nat.le_of_ble_eq_true rfl) (Nat.le_of_ble_eq_true rfl) dX3_be_26 (fun V7 H locs eV7 hI => ?_)
    replace hw := hw V7 eV7
    refine lv_aload_n hx hb dX3_be_29 rfl (lv_at hl 1 rfl) ?_
    refine xg3_2 (k := k1) hx hb hts hin3 hown hK hI hk1 hw_6 dX3_be_30 ?_
    refine lv_iconst (v := (0 : Int32)) hx hb dX3_be_33 (by decide) ?_
    refine lv_aload_n hx hb dX3_be_34 rfl (lv_at hl 0 rfl) ?_
    refine xg3_2 (k := k0) hx hb hts hin3 hown hK hI hk0 hw_6 dX3_be_35 ?_
    refine lv_iconst (v := (0 : Int32)) hx hb dX3_be_38 (by decide) ?_
    refine lv_iconst (v := (5 : Int32)) hx hb dX3_be_39 (by decide) ?_
    obtain ⟨h14, h15, h16, h17, h18, hw⟩ := hw
    refine x_copy (k0 := k1 + 3) (k1 := k0 + 3) hx hb (hml.trans hl.1.symm) hown hw_1 hw_2 hw_3 hw_4 hK hI (cX_loc g ad) (kX_lt (kX_3s hk1).2.2.2.2.1 (by decide)) (fun _ => cX_9 (kX_3s hk1).2.2.2.2.1 (kX_3s hk1).2.2.2.2.2.1) (kX_lt (kX_3s hk0).2.2.2.2.1 (by decide)) (fun _ => cX_9 (kX_3s hk0).2.2.2.2.1 (kX_3s hk0).2.2.2.2.2.1) h14 h15 h16 h17 h18 (Nat.le_of_ble_eq_true rfl) (Nat.le_of_ble_eq_true rfl) dX3_be_40 (fun V13 H locs eV13 hI => ?_)
    replace hw := hw V13 eV13
    refine lv_aload_n hx hb dX3_be_43 rfl (lv_at hl 0 rfl) ?_
    refine xg3_3 (k := k0) hx hb hts hin3 hown hK hI hk0 hw_7 dX3_be_44 ?_
    refine lv_aload_n hx hb dX3_be_47 rfl (lv_at hl 1 rfl) ?_
    refine xg3_3 (k := k1) hx hb hts hin3 hown hK hI hk1 hw_7 dX3_be_48 ?_
    refine x_aftv (va_runV (As := [.ref (ad (k1 + 4))]) (rest := []) ⟨hx, hb, hml, hown, hts⟩ (c_X2_be l g ad H.size V13 (k0 + 4) (k1 + 4) (kX_3s hk0).2.2.2.2.2.2 (kX_3s hk1).2.2.2.2.2.2 _ hw) (cwV 1 hts gX3_be_X2_be rfl rfl rfl (by decide +kernel) ⟨Nat.le_of_ble_eq_true rfl, Nat.le_of_ble_eq_true rfl⟩) (x_preV (k := k0 + 4) hK hE hI (kX_lt (kX_3s hk0).2.2.2.2.2.2 (by decide)) (cX_2 (kX_3s hk0).2.2.2.2.2.2) rfl) rfl rfl hl.1 rfl (lv_room (Nat.le_of_ble_eq_true rfl)) dX3_be_51 ⟨Nat.zero_le _, Nat.zero_le _⟩) hI (fun V19 H locs hw hI => ?_)
    refine lv_aload_n hx hb dX3_be_54 rfl (lv_at hl 0 rfl) ?_
    refine lv_aload_n hx hb dX3_be_55 rfl (lv_at hl 1 rfl) ?_
    refine xg3_4 (k := k1) hx hb hts hin3 hown hK hI hk1 hw_8 dX3_be_56 ?_
    refine xp3_4 (k := k0) hx hb hts hin3 hown hK hI hk0 hw_8 dX3_be_59 (fun V20 H locs eV20 hI => ?_)
    replace hw := hw V20 eV20
    refine lv_aload_n hx hb dX3_be_62 rfl (lv_at hl 0 rfl) ?_
    refine lv_aload_n hx hb dX3_be_63 rfl (lv_at hl 1 rfl) ?_
    refine xg3_5 (k := k1) hx hb hts hin3 hown hK hI hk1 hw_9 dX3_be_64 ?_
    refine xp3_5 (k := k0) hx hb hts hin3 hown hK hI hk0 hw_9 dX3_be_67 (fun V21 H locs eV21 hI => ?_)
    replace hw := hw V21 eV21
    refine lv_aload_n hx hb dX3_be_70 rfl (lv_at hl 0 rfl) ?_
    refine lv_aload_n hx hb dX3_be_71 rfl (lv_at hl 1 rfl) ?_
    refine xg3_6 (k := k1) hx hb hts hin3 hown hK hI hk1 hw_10 dX3_be_72 ?_
    refine xp3_6 (k := k0) hx hb hts hin3 hown hK hI hk0 hw_10 dX3_be_75 (fun V22 H locs eV22 hI => ?_)
    replace hw := hw V22 eV22
    refine lv_aload_n hx hb dX3_be_78 rfl (lv_at hl 0 rfl) ?_
    refine lv_aload_n hx hb dX3_be_79 rfl (lv_at hl 1 rfl) ?_
    refine xg3_7 (k := k1) hx hb hts hin3 hown hK hI hk1 hw_11 dX3_be_80 ?_
    refine xp3_7 (k := k0) hx hb hts hin3 hown hK hI hk0 hw_11 dX3_be_83 (fun V23 H locs eV23 hI => ?_)
    replace hw := hw V23 eV23
    refine lv_aload_n hx hb dX3_be_86 rfl (lv_at hl 0 rfl) ?_
    refine lv_aload_n hx hb dX3_be_87 rfl (lv_at hl 1 rfl) ?_
    refine xg3_8 (k := k1) hx hb hts hin3 hown hK hI hk1 hw_12 dX3_be_88 ?_
    refine xp3_8 (k := k0) hx hb hts hin3 hown hK hI hk0 hw_12 dX3_be_91 (fun V24 H locs eV24 hI => ?_)
    replace hw := hw V24 eV24
    exact W.vret hx hb hr (x_retv hI hw) hI.2.2.2.2 dX3_be_94
  exact hgo s.heap [] hI
def rm_X4_cost : Room := { frames := 0, cells := 0, slots := 0, locals := 0 }
set_option maxHeartbeats 4000000 in
set_option maxRecDepth 100000 in
theorem c_X4_cost (l : Launch) (g : GP) (ad : Nat → Nat) (sz : Nat) (V : VT)   (K : Int32 → VT → Prop) (hw : wp_X4_cost V  K) : Met l yX4_cost wsX4_cost rm_X4_cost (va_Pc [.ref (ad 10)] (WPre 76 (cX g ad) ad g V sz)) (va_Qi K (WPost 76 (cX g ad) ad g) (AW ad 76 sz)) 0 0 (AW ad 76 sz) := by
  refine Met.ofW (cc := cX4_cost) (maxL := 1) (ret := (some .int)) (by decide) rfl ?_
  intro p e s m args below meth c s₁ B hml hv
  obtain ⟨ha, hv⟩ := hv
  obtain rfl := hv.1
  have hI : WI g 76 (cX g ad) ad V s.heap s.heap [] := WI.start hv
  have hK := hv.2.2.1
  have hE := hv.2.2.2.2
  have hx := B.exec
  have hb := B.bytes
  have hr := B.returns
  have hts := atoms_spec (ws := wsX4_cost) B.pre
  have hown : s.vm.findClass RX4 = some m.cls := findClass_of_methodNamed B.named
  have hlocks := B.notSynchronized
  have hw_0 := hts (.fieldLink RX4 27 "HoopLane$Paths" "home" "I") (by decide +kernel)
  have hin4 : ∀ w ∈ wsX40, w ∈ wsX4_cost := by decide +kernel
  have hl := lv_entry ([.ref (ad 10)]) (n := 1) (Nat.le_of_ble_eq_true rfl)
  have hent : entryFrame m args 1 = F0 m 0 ((lg_sl ([.ref (ad 10)]) ++ List.replicate (1 - (lg_sl ([.ref (ad 10)])).length) Slot.unset).toArray) [] := by rw [ha, lg_entry_eq]
  rw [hent]
  generalize (lg_sl ([.ref (ad 10)]) ++ List.replicate (1 - (lg_sl ([.ref (ad 10)])).length) Slot.unset).toArray = ls at hl ⊢
  have hl : lv_has ls 1 [(0, .ref (ad 10))] := hl
  obtain ⟨H, hH⟩ : ∃ H : Heap, H = s.heap := ⟨_, rfl⟩
  have hgo : ∀ (H : Heap) (locs : List Loc), WI g 76 (cX g ad) ad V s.heap H locs → W p l e (headSpec wsX4_cost rm_X4_cost).room s m args below meth c H locs 0 0 (MQ below (va_Qi K (WPost 76 (cX g ad) ad g) (AW ad 76 s.heap.size)) args s 0 0 (AW ad 76 s.heap.size)) (F0 m 0 ls []) := by
    intro H locs hI
    refine lv_aload_n hx hb dX4_cost_0 rfl (lv_at hl 0 rfl) ?_
    refine xg4_3 (k := 10) hx hb hts hin4 hown hK hI (by decide) hw_0 dX4_cost_1 ?_
    refine lv_bipush (v := (8 : Int32)) hx hb dX4_cost_4 (by decide) ?_
    refine lv_idiv hx hb dX4_cost_6 (by decide) ?_
    exact W.iret (v := ((V 10 3) / (8 : Int32))) hx hb hr (x_reti hI hw) hI.2.2.2.2 dX4_cost_7
  exact hgo s.heap [] hI
