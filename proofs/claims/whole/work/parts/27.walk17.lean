def rm_X8_isKind : Room := { frames := 0, cells := 0, slots := 0, locals := 0 }
set_option maxHeartbeats 4000000 in
set_option maxRecDepth 100000 in
theorem c_X8_isKind (l : Launch) (g : GP) (ad : Nat → Nat) (sz : Nat) (V : VT) (x0 : Int32) (x1 : Int32)  (K : Int32 → VT → Prop) (hw : wp_X8_isKind V x0 x1 K) : Met l yX8_isKind wsX8_isKind rm_X8_isKind (va_Pc [.int x0, .int x1] (WPre 13 (cM g ad) ad g V sz)) (va_Qi K (WPost 13 (cM g ad) ad g) (AW ad 13 sz)) 0 0 (AW ad 13 sz) := by
  refine Met.ofW (cc := cX8_isKind) (maxL := 2) (ret := (some .boolean)) (by decide) rfl ?_
  intro p e s m args below meth c s₁ B hml hv
  obtain ⟨ha, hv⟩ := hv
  obtain rfl := hv.1
  have hI : WI g 13 (cM g ad) ad V s.heap s.heap [] := WI.start hv
  have hK := hv.2.2.1
  have hE := hv.2.2.2.2
  have hx := B.exec
  have hb := B.bytes
  have hr := B.returns
  have hts := atoms_spec (ws := wsX8_isKind) B.pre
  have hown : s.vm.findClass RX8 = some m.cls := findClass_of_methodNamed B.named
  have hlocks := B.notSynchronized
  have hl := lv_entry ([.int x0, .int x1]) (n := 2) (Nat.le_of_ble_eq_true rfl)
  have hent : entryFrame m args 2 = F0 m 0 ((lg_sl ([.int x0, .int x1]) ++ List.replicate (2 - (lg_sl ([.int x0, .int x1])).length) Slot.unset).toArray) [] := by rw [ha, lg_entry_eq]
  rw [hent]
  generalize (lg_sl ([.int x0, .int x1]) ++ List.replicate (2 - (lg_sl ([.int x0, .int x1])).length) Slot.unset).toArray = ls at hl ⊢
  have hl : lv_has ls 2 [(0, .int x0), (1, .int x1)] := hl
  obtain ⟨H, hH⟩ : ∃ H : Heap, H = s.heap := ⟨_, rfl⟩
  have hb29 : ∀ (V : VT) (H : Heap) (locs : List Loc) (ls : Array Slot) , WI g 13 (cM g ad) ad V s.heap H locs → lv_has ls 2 [] → wp_X8_isKind_b29 K  V  → W p l e (headSpec wsX8_isKind rm_X8_isKind).room s m args below meth c H locs 0 0 (MQ below (va_Qi K (WPost 13 (cM g ad) ad g) (AW ad 13 s.heap.size)) args s 0 0 (AW ad 13 s.heap.size)) (F0 m 29 ls []) := by
    intro V H locs ls   hI hl hw
    refine lv_iconst (v := (1 : Int32)) hx hb dX8_isKind_29 (by decide) ?_
    refine lv_goto (tgt := 34) hx hb dX8_isKind_30 (by decide) ?_
    exact W.zret (v := (1 : Int32)) hx hb hr rfl (x_reti hI hw) hI.2.2.2.2 dX8_isKind_34
  have hb19 : ∀ (V : VT) (H : Heap) (locs : List Loc) (ls : Array Slot) (x0 : Int32) (x1 : Int32), WI g 13 (cM g ad) ad V s.heap H locs → lv_has ls 2 [(0, .int x0), (1, .int x1)] → wp_X8_isKind_b19 K  V x0 x1 → W p l e (headSpec wsX8_isKind rm_X8_isKind).room s m args below meth c H locs 0 0 (MQ below (va_Qi K (WPost 13 (cM g ad) ad g) (AW ad 13 s.heap.size)) args s 0 0 (AW ad 13 s.heap.size)) (F0 m 19 ls []) := by
    intro V H locs ls x0 x1  hI hl hw
    refine lv_iload_n hx hb dX8_isKind_19 rfl (lv_at hl 1 rfl) ?_
    refine lv_iconst (v := (4 : Int32)) hx hb dX8_isKind_20 (by decide) ?_
    refine lv_icmp_ne (tgt := 33) hx hb dX8_isKind_21 (by decide) (fun c5 => ?_) (fun c5 => ?_)
    · replace hw := hw.1 c5
      refine lv_iconst (v := (0 : Int32)) hx hb dX8_isKind_33 (by decide) ?_
      exact W.zret (v := (0 : Int32)) hx hb hr rfl (x_reti hI hw) hI.2.2.2.2 dX8_isKind_34
    · replace hw := hw.2 c5
      refine lv_iload_n hx hb dX8_isKind_24 rfl (lv_at hl 0 rfl) ?_
      refine lv_iconst (v := (5 : Int32)) hx hb dX8_isKind_25 (by decide) ?_
      refine lv_icmp_ne (tgt := 33) hx hb dX8_isKind_26 (by decide) (fun c6 => ?_) (fun c6 => ?_)
      · replace hw := hw.1 c6
        refine lv_iconst (v := (0 : Int32)) hx hb dX8_isKind_33 (by decide) ?_
        exact W.zret (v := (0 : Int32)) hx hb hr rfl (x_reti hI hw) hI.2.2.2.2 dX8_isKind_34
      · replace hw := hw.2 c6
        exact hb29 V H locs ls  hI (lv_sub hl [] rfl) hw
  have hgo : ∀ (H : Heap) (locs : List Loc), WI g 13 (cM g ad) ad V s.heap H locs → W p l e (headSpec wsX8_isKind rm_X8_isKind).room s m args below meth c H locs 0 0 (MQ below (va_Qi K (WPost 13 (cM g ad) ad g) (AW ad 13 s.heap.size)) args s 0 0 (AW ad 13 s.heap.size)) (F0 m 0 ls []) := by
    intro H locs hI
    refine lv_iload_n hx hb dX8_isKind_0 rfl (lv_at hl 1 rfl) ?_
    refine lv_if_eq (tgt := 29) hx hb dX8_isKind_1 (by decide) (fun c1 => ?_) (fun c1 => ?_)
    · replace hw := hw.1 c1
      exact hb29 V H locs ls  hI (lv_sub hl [] rfl) hw
    · replace hw := hw.2 c1
      refine lv_iload_n hx hb dX8_isKind_4 rfl (lv_at hl 0 rfl) ?_
      refine lv_iload_n hx hb dX8_isKind_5 rfl (lv_at hl 1 rfl) ?_
      refine lv_icmp_eq (tgt := 29) hx hb dX8_isKind_6 (by decide) (fun c2 => ?_) (fun c2 => ?_)
      · replace hw := hw.1 c2
        exact hb29 V H locs ls  hI (lv_sub hl [] rfl) hw
      · replace hw := hw.2 c2
        refine lv_iload_n hx hb dX8_isKind_9 rfl (lv_at hl 1 rfl) ?_
        refine lv_iconst (v := (1 : Int32)) hx hb dX8_isKind_10 (by decide) ?_
        refine lv_icmp_ne (tgt := 19) hx hb dX8_isKind_11 (by decide) (fun c3 => ?_) (fun c3 => ?_)
        · replace hw := hw.1 c3
          exact hb19 V H locs ls x0 x1 hI (lv_sub hl [0, 1] rfl) hw
        · replace hw := hw.2 c3
          refine lv_iload_n hx hb dX8_isKind_14 rfl (lv_at hl 0 rfl) ?_
          refine lv_iconst (v := (4 : Int32)) hx hb dX8_isKind_15 (by decide) ?_
          refine lv_icmp_lt (tgt := 29) hx hb dX8_isKind_16 (by decide) (fun c4 => ?_) (fun c4 => ?_)
          · replace hw := hw.1 c4
            exact hb29 V H locs ls  hI (lv_sub hl [] rfl) hw
          · replace hw := hw.2 c4
            exact hb19 V H locs ls x0 x1 hI (lv_sub hl [0, 1] rfl) hw
  exact hgo s.heap [] hI
def rm_X8_as : Room := { frames := 2, cells := 0, slots := 0, locals := 46 }
set_option maxHeartbeats 4000000 in
set_option maxRecDepth 100000 in
theorem c_X8_as (l : Launch) (g : GP) (ad : Nat → Nat) (sz : Nat) (V : VT) (x1 : Int32) (x2 : Int32)  (K : Int32 → VT → Prop) (hw : wp_X8_as V x1 x2 K) : Met l yX8_as wsX8_as rm_X8_as (va_Pc [.ref (ad 0), .int x1, .int x2] (WPre 13 (cM g ad) ad g V sz)) (va_Qi K (WPost 13 (cM g ad) ad g) (AW ad 13 sz)) 0 0 (AW ad 13 sz) := by
  refine Met.ofW (cc := cX8_as) (maxL := 3) (ret := (some .int)) (by decide) rfl ?_
  intro p e s m args below meth c s₁ B hml hv
  obtain ⟨ha, hv⟩ := hv
  obtain rfl := hv.1
  have hI : WI g 13 (cM g ad) ad V s.heap s.heap [] := WI.start hv
  have hK := hv.2.2.1
  have hE := hv.2.2.2.2
  have hx := B.exec
  have hb := B.bytes
  have hr := B.returns
  have hts := atoms_spec (ws := wsX8_as) B.pre
  have hown : s.vm.findClass RX8 = some m.cls := findClass_of_methodNamed B.named
  have hlocks := B.notSynchronized
  have hw_0 := hts (.constant RX8 64 (-1000001)) (by decide +kernel)
  have hw_1 := hts (.constantLong RX8 198 (5)) (by decide +kernel)
  have hl := lv_entry ([.ref (ad 0), .int x1, .int x2]) (n := 3) (Nat.le_of_ble_eq_true rfl)
  have hent : entryFrame m args 3 = F0 m 0 ((lg_sl ([.ref (ad 0), .int x1, .int x2]) ++ List.replicate (3 - (lg_sl ([.ref (ad 0), .int x1, .int x2])).length) Slot.unset).toArray) [] := by rw [ha, lg_entry_eq]
  rw [hent]
  generalize (lg_sl ([.ref (ad 0), .int x1, .int x2]) ++ List.replicate (3 - (lg_sl ([.ref (ad 0), .int x1, .int x2])).length) Slot.unset).toArray = ls at hl ⊢
  have hl : lv_has ls 3 [(0, .ref (ad 0)), (1, .int x1), (2, .int x2)] := hl
  obtain ⟨H, hH⟩ : ∃ H : Heap, H = s.heap := ⟨_, rfl⟩
  have hgo : ∀ (H : Heap) (locs : List Loc), WI g 13 (cM g ad) ad V s.heap H locs → W p l e (headSpec wsX8_as rm_X8_as).room s m args below meth c H locs 0 0 (MQ below (va_Qi K (WPost 13 (cM g ad) ad g) (AW ad 13 s.heap.size)) args s 0 0 (AW ad 13 s.heap.size)) (F0 m 0 ls []) := by
    intro H locs hI
    refine lv_aload_n hx hb dX8_as_0 rfl (lv_at hl 0 rfl) ?_
    refine lv_iload_n hx hb dX8_as_1 rfl (lv_at hl 1 rfl) ?_
    refine x_afti (va_runV (As := [.int x1]) (rest := []) ⟨hx, hb, hml, hown, hts⟩ (c_X8_isTap l g ad H.size V x1 _ hw) (cwV 1 hts gX8_as_X8_isTap rfl rfl rfl (by decide +kernel) ⟨Nat.le_of_ble_eq_true rfl, Nat.le_of_ble_eq_true rfl⟩) (x_preV (k := 0) hK hE hI (by decide) rfl rfl) rfl rfl hl.1 rfl (lv_room (Nat.le_of_ble_eq_true rfl)) dX8_as_2 ⟨Nat.zero_le _, Nat.zero_le _⟩) hI (fun r2 V1 H locs hw hI => ?_)
    refine lv_if_eq (tgt := 20) hx hb dX8_as_5 (by decide) (fun c3 => ?_) (fun c3 => ?_)
    · replace hw := hw.1 c3
      refine lv_ldc (v := (-1000001 : Int32)) hx hb hown hw_0 dX8_as_20 ?_
      exact W.iret (v := (-1000001 : Int32)) hx hb hr (x_reti hI hw) hI.2.2.2.2 dX8_as_22
    · replace hw := hw.2 c3
      refine lv_iload_n hx hb dX8_as_8 rfl (lv_at hl 2 rfl) ?_
      refine lv_i2l (v := (x2).toInt64) hx hb dX8_as_9 rfl ?_
      refine lv_lconst (v := (0 : Int64)) hx hb dX8_as_10 (by decide) ?_
      refine lv_ldc2 (v := (5 : Int64)) hx hb hown hw_1 dX8_as_11 ?_
      refine x_afti (va_runS (As := [.long ((x2).toInt64), .long (0 : Int64), .long (5 : Int64)]) (rest := []) ⟨hx, hb, hml, hown, hts⟩ (c_X8_in l g ad H.size V1 ((x2).toInt64) (0 : Int64) (5 : Int64) _ hw) (cwS 3 hts gX8_as_X8_in rfl rfl rfl (by decide +kernel) ⟨Nat.le_of_ble_eq_true rfl, Nat.le_of_ble_eq_true rfl⟩) (x_preS hK hE hI) rfl rfl hl.1 rfl (lv_room (Nat.le_of_ble_eq_true rfl)) dX8_as_14 ⟨Nat.zero_le _, Nat.zero_le _⟩) hI (fun r5 V4 H locs hw hI => ?_)
      refine lv_if_ne (tgt := 23) hx hb dX8_as_17 (by decide) (fun c6 => ?_) (fun c6 => ?_)
      · replace hw := hw.1 c6
        refine lv_aload_n hx hb dX8_as_23 rfl (lv_at hl 0 rfl) ?_
        refine lv_iload_n hx hb dX8_as_24 rfl (lv_at hl 1 rfl) ?_
        refine x_afti (va_runV (As := [.int x1]) (rest := []) ⟨hx, hb, hml, hown, hts⟩ (c_X8_kindAt l g ad H.size V4 x1 _ hw) (cwV 1 hts gX8_as_X8_kindAt rfl rfl rfl (by decide +kernel) ⟨Nat.le_of_ble_eq_true rfl, Nat.le_of_ble_eq_true rfl⟩) (x_preV (k := 0) hK hE hI (by decide) rfl rfl) rfl rfl hl.1 rfl (lv_room (Nat.le_of_ble_eq_true rfl)) dX8_as_25 ⟨Nat.zero_le _, Nat.zero_le _⟩) hI (fun r8 V7 H locs hw hI => ?_)
        refine lv_iload_n hx hb dX8_as_28 rfl (lv_at hl 2 rfl) ?_
        refine x_afti (va_runS (As := [.int r8, .int x2]) (rest := []) ⟨hx, hb, hml, hown, hts⟩ (c_X8_isKind l g ad H.size V7 r8 x2 _ hw) (cwS 2 hts gX8_as_X8_isKind rfl rfl rfl (by decide +kernel) ⟨Nat.le_of_ble_eq_true rfl, Nat.le_of_ble_eq_true rfl⟩) (x_preS hK hE hI) rfl rfl hl.1 rfl (lv_room (Nat.le_of_ble_eq_true rfl)) dX8_as_29 ⟨Nat.zero_le _, Nat.zero_le _⟩) hI (fun r10 V9 H locs hw hI => ?_)
        refine lv_if_eq (tgt := 43) hx hb dX8_as_32 (by decide) (fun c11 => ?_) (fun c11 => ?_)
        · replace hw := hw.1 c11
          refine lv_aload_n hx hb dX8_as_43 rfl (lv_at hl 0 rfl) ?_
          refine lv_iconst (v := (3 : Int32)) hx hb dX8_as_44 (by decide) ?_
          refine x_afti (va_runV (As := [.int (3 : Int32)]) (rest := []) ⟨hx, hb, hml, hown, hts⟩ (c_X8_finds l g ad H.size V9 (3 : Int32) _ hw) (cwV 1 hts gX8_as_X8_finds rfl rfl rfl (by decide +kernel) ⟨Nat.le_of_ble_eq_true rfl, Nat.le_of_ble_eq_true rfl⟩) (x_preV (k := 0) hK hE hI (by decide) rfl rfl) rfl rfl hl.1 rfl (lv_room (Nat.le_of_ble_eq_true rfl)) dX8_as_45 ⟨Nat.zero_le _, Nat.zero_le _⟩) hI (fun r13 V12 H locs hw hI => ?_)
          exact W.iret (v := r13) hx hb hr (x_reti hI hw) hI.2.2.2.2 dX8_as_48
        · replace hw := hw.2 c11
          refine lv_aload_n hx hb dX8_as_35 rfl (lv_at hl 0 rfl) ?_
          refine lv_iload_n hx hb dX8_as_36 rfl (lv_at hl 1 rfl) ?_
          refine x_afti (va_runV (As := [.int x1]) (rest := []) ⟨hx, hb, hml, hown, hts⟩ (c_X8_well l g ad H.size V9 x1 _ hw) (cwV 1 hts gX8_as_X8_well rfl rfl rfl (by decide +kernel) ⟨Nat.le_of_ble_eq_true rfl, Nat.le_of_ble_eq_true rfl⟩) (x_preV (k := 0) hK hE hI (by decide) rfl rfl) rfl rfl hl.1 rfl (lv_room (Nat.le_of_ble_eq_true rfl)) dX8_as_37 ⟨Nat.zero_le _, Nat.zero_le _⟩) hI (fun r15 V14 H locs hw hI => ?_)
          refine lv_goto (tgt := 48) hx hb dX8_as_40 (by decide) ?_
          exact W.iret (v := r15) hx hb hr (x_reti hI hw) hI.2.2.2.2 dX8_as_48
      · replace hw := hw.2 c6
        refine lv_ldc (v := (-1000001 : Int32)) hx hb hown hw_0 dX8_as_20 ?_
        exact W.iret (v := (-1000001 : Int32)) hx hb hr (x_reti hI hw) hI.2.2.2.2 dX8_as_22
  exact hgo s.heap [] hI
def rm_X8_lent : Room := { frames := 1, cells := 0, slots := 0, locals := 21 }
set_option maxHeartbeats 4000000 in
set_option maxRecDepth 100000 in
theorem c_X8_lent (l : Launch) (g : GP) (ad : Nat → Nat) (sz : Nat) (V : VT) (x1 : Int32)  (K : Int32 → VT → Prop) (hw : wp_X8_lent V x1 K) : Met l yX8_lent wsX8_lent rm_X8_lent (va_Pc [.ref (ad 0), .int x1] (WPre 13 (cM g ad) ad g V sz)) (va_Qi K (WPost 13 (cM g ad) ad g) (AW ad 13 sz)) 0 0 (AW ad 13 sz) := by
  refine Met.ofW (cc := cX8_lent) (maxL := 2) (ret := (some .int)) (by decide) rfl ?_
  intro p e s m args below meth c s₁ B hml hv
  obtain ⟨ha, hv⟩ := hv
  obtain rfl := hv.1
  have hI : WI g 13 (cM g ad) ad V s.heap s.heap [] := WI.start hv
  have hK := hv.2.2.1
  have hE := hv.2.2.2.2
  have hx := B.exec
  have hb := B.bytes
  have hr := B.returns
  have hts := atoms_spec (ws := wsX8_lent) B.pre
  have hown : s.vm.findClass RX8 = some m.cls := findClass_of_methodNamed B.named
  have hlocks := B.notSynchronized
  have hl := lv_entry ([.ref (ad 0), .int x1]) (n := 2) (Nat.le_of_ble_eq_true rfl)
  have hent : entryFrame m args 2 = F0 m 0 ((lg_sl ([.ref (ad 0), .int x1]) ++ List.replicate (2 - (lg_sl ([.ref (ad 0), .int x1])).length) Slot.unset).toArray) [] := by rw [ha, lg_entry_eq]
  rw [hent]
  generalize (lg_sl ([.ref (ad 0), .int x1]) ++ List.replicate (2 - (lg_sl ([.ref (ad 0), .int x1])).length) Slot.unset).toArray = ls at hl ⊢
  have hl : lv_has ls 2 [(0, .ref (ad 0)), (1, .int x1)] := hl
  obtain ⟨H, hH⟩ : ∃ H : Heap, H = s.heap := ⟨_, rfl⟩
  have hgo : ∀ (H : Heap) (locs : List Loc), WI g 13 (cM g ad) ad V s.heap H locs → W p l e (headSpec wsX8_lent rm_X8_lent).room s m args below meth c H locs 0 0 (MQ below (va_Qi K (WPost 13 (cM g ad) ad g) (AW ad 13 s.heap.size)) args s 0 0 (AW ad 13 s.heap.size)) (F0 m 0 ls []) := by
    intro H locs hI
    refine lv_aload_n hx hb dX8_lent_0 rfl (lv_at hl 0 rfl) ?_
    refine lv_bipush (v := (10 : Int32)) hx hb dX8_lent_1 (by decide) ?_
    refine x_aftv (va_runV (As := [.int (10 : Int32)]) (rest := []) ⟨hx, hb, hml, hown, hts⟩ (c_X8_begins l g ad H.size V (10 : Int32) _ hw) (cwV 1 hts gX8_lent_X8_begins rfl rfl rfl (by decide +kernel) ⟨Nat.le_of_ble_eq_true rfl, Nat.le_of_ble_eq_true rfl⟩) (x_preV (k := 0) hK hE hI (by decide) rfl rfl) rfl rfl hl.1 rfl (lv_room (Nat.le_of_ble_eq_true rfl)) dX8_lent_3 ⟨Nat.zero_le _, Nat.zero_le _⟩) hI (fun V1 H locs hw hI => ?_)
    refine lv_aload_n hx hb dX8_lent_6 rfl (lv_at hl 0 rfl) ?_
    refine lv_iload_n hx hb dX8_lent_7 rfl (lv_at hl 1 rfl) ?_
    refine x_afti (va_runV (As := [.int x1]) (rest := []) ⟨hx, hb, hml, hown, hts⟩ (c_X8_forceAt l g ad H.size V1 x1 _ hw) (cwV 1 hts gX8_lent_X8_forceAt rfl rfl rfl (by decide +kernel) ⟨Nat.le_of_ble_eq_true rfl, Nat.le_of_ble_eq_true rfl⟩) (x_preV (k := 0) hK hE hI (by decide) rfl rfl) rfl rfl hl.1 rfl (lv_room (Nat.le_of_ble_eq_true rfl)) dX8_lent_8 ⟨Nat.zero_le _, Nat.zero_le _⟩) hI (fun r3 V2 H locs hw hI => ?_)
    exact W.iret (v := r3) hx hb hr (x_reti hI hw) hI.2.2.2.2 dX8_lent_11
  exact hgo s.heap [] hI
def rm_X8_brakes : Room := { frames := 2, cells := 0, slots := 0, locals := 42 }
set_option maxHeartbeats 4000000 in
set_option maxRecDepth 100000 in
theorem c_X8_brakes (l : Launch) (g : GP) (ad : Nat → Nat) (sz : Nat) (V : VT) (x1 : Int32)  (K : Int32 → VT → Prop) (hw : wp_X8_brakes V x1 K) : Met l yX8_brakes wsX8_brakes rm_X8_brakes (va_Pc [.ref (ad 0), .int x1] (WPre 13 (cM g ad) ad g V sz)) (va_Qi K (WPost 13 (cM g ad) ad g) (AW ad 13 sz)) 0 0 (AW ad 13 sz) := by
  refine Met.ofW (cc := cX8_brakes) (maxL := 4) (ret := (some .int)) (by decide) rfl ?_
  intro p e s m args below meth c s₁ B hml hv
  obtain ⟨ha, hv⟩ := hv
  obtain rfl := hv.1
  have hI : WI g 13 (cM g ad) ad V s.heap s.heap [] := WI.start hv
  have hK := hv.2.2.1
  have hE := hv.2.2.2.2
  have hx := B.exec
  have hb := B.bytes
  have hr := B.returns
  have hts := atoms_spec (ws := wsX8_brakes) B.pre
  have hown : s.vm.findClass RX8 = some m.cls := findClass_of_methodNamed B.named
  have hlocks := B.notSynchronized
  have hl := lv_entry ([.ref (ad 0), .int x1]) (n := 4) (Nat.le_of_ble_eq_true rfl)
  have hent : entryFrame m args 4 = F0 m 0 ((lg_sl ([.ref (ad 0), .int x1]) ++ List.replicate (4 - (lg_sl ([.ref (ad 0), .int x1])).length) Slot.unset).toArray) [] := by rw [ha, lg_entry_eq]
  rw [hent]
  generalize (lg_sl ([.ref (ad 0), .int x1]) ++ List.replicate (4 - (lg_sl ([.ref (ad 0), .int x1])).length) Slot.unset).toArray = ls at hl ⊢
  have hl : lv_has ls 4 [(0, .ref (ad 0)), (1, .int x1)] := hl
  obtain ⟨H, hH⟩ : ∃ H : Heap, H = s.heap := ⟨_, rfl⟩
  have hb25 : ∀ (V : VT) (H : Heap) (locs : List Loc) (ls : Array Slot) (x1 : Int32) (x2 : Int32), WI g 13 (cM g ad) ad V s.heap H locs → lv_has ls 4 [(0, .ref (ad 0)), (1, .int x1), (2, .int x2)] → wp_X8_brakes_b25 K  V x1 x2 → W p l e (headSpec wsX8_brakes rm_X8_brakes).room s m args below meth c H locs 0 0 (MQ below (va_Qi K (WPost 13 (cM g ad) ad g) (AW ad 13 s.heap.size)) args s 0 0 (AW ad 13 s.heap.size)) (F0 m 25 ls []) := by
    intro V H locs ls x1 x2  hI hl hw
    refine lv_aload_n hx hb dX8_brakes_25 rfl (lv_at hl 0 rfl) ?_
    refine lv_bipush (v := (13 : Int32)) hx hb dX8_brakes_26 (by decide) ?_
    refine x_aftv (va_runV (As := [.int (13 : Int32)]) (rest := []) ⟨hx, hb, hml, hown, hts⟩ (c_X8_begins l g ad H.size V (13 : Int32) _ hw) (cwV 1 hts gX8_brakes_X8_begins rfl rfl rfl (by decide +kernel) ⟨Nat.le_of_ble_eq_true rfl, Nat.le_of_ble_eq_true rfl⟩) (x_preV (k := 0) hK hE hI (by decide) rfl rfl) rfl rfl hl.1 rfl (lv_room (Nat.le_of_ble_eq_true rfl)) dX8_brakes_28 ⟨Nat.zero_le _, Nat.zero_le _⟩) hI (fun V6 H locs hw hI => ?_)
    refine lv_aload_n hx hb dX8_brakes_31 rfl (lv_at hl 0 rfl) ?_
    refine lv_iload_n hx hb dX8_brakes_32 rfl (lv_at hl 1 rfl) ?_
    refine x_afti (va_runV (As := [.int x1]) (rest := []) ⟨hx, hb, hml, hown, hts⟩ (c_X8_lent l g ad H.size V6 x1 _ hw) (cwV 1 hts gX8_brakes_X8_lent rfl rfl rfl (by decide +kernel) ⟨Nat.le_of_ble_eq_true rfl, Nat.le_of_ble_eq_true rfl⟩) (x_preV (k := 0) hK hE hI (by decide) rfl rfl) rfl rfl hl.1 rfl (lv_room (Nat.le_of_ble_eq_true rfl)) dX8_brakes_33 ⟨Nat.zero_le _, Nat.zero_le _⟩) hI (fun r8 V7 H locs hw hI => ?_)
    refine lv_bipush (v := (100 : Int32)) hx hb dX8_brakes_36 (by decide) ?_
    refine lv_isub hx hb dX8_brakes_38 ?_
    refine lv_istore_n (lv' := [(3, .int (r8 - (100 : Int32))), (0, .ref (ad 0)), (1, .int x1), (2, .int x2)]) hx hb dX8_brakes_39 rfl hl (by decide) rfl (fun ls hl => ?_)
    refine lv_iload_n hx hb dX8_brakes_40 rfl (lv_at hl 3 rfl) ?_
    refine lv_if_eq (tgt := 50) hx hb dX8_brakes_41 (by decide) (fun c9 => ?_) (fun c9 => ?_)
    · replace hw := hw.1 c9
      refine lv_iload_n hx hb dX8_brakes_50 rfl (lv_at hl 0 rfl) ?_
      exact W.iret (v := (r8 - (100 : Int32))) hx hb hr (x_reti hI hw) hI.2.2.2.2 dX8_brakes_51
    · replace hw := hw.2 c9
      refine lv_iconst (v := (2 : Int32)) hx hb dX8_brakes_44 (by decide) ?_
      refine lv_iload_n hx hb dX8_brakes_45 rfl (lv_at hl 0 rfl) ?_
      refine lv_imul hx hb dX8_brakes_46 ?_
      refine lv_goto (tgt := 51) hx hb dX8_brakes_47 (by decide) ?_
      exact W.iret (v := ((2 : Int32) * (r8 - (100 : Int32)))) hx hb hr (x_reti hI hw) hI.2.2.2.2 dX8_brakes_51
  have hb14 : ∀ (V : VT) (H : Heap) (locs : List Loc) (ls : Array Slot) (x1 : Int32) (s0 : Int32), WI g 13 (cM g ad) ad V s.heap H locs → lv_has ls 4 [(0, .ref (ad 0)), (1, .int x1)] → wp_X8_brakes_b14 K  V x1 s0 → W p l e (headSpec wsX8_brakes rm_X8_brakes).room s m args below meth c H locs 0 0 (MQ below (va_Qi K (WPost 13 (cM g ad) ad g) (AW ad 13 s.heap.size)) args s 0 0 (AW ad 13 s.heap.size)) (F0 m 14 ls [.int s0]) := by
    intro V H locs ls x1 s0  hI hl hw
    refine lv_istore_n (lv' := [(2, .int s0), (0, .ref (ad 0)), (1, .int x1)]) hx hb dX8_brakes_14 rfl hl (by decide) rfl (fun ls hl => ?_)
    refine lv_iload_n hx hb dX8_brakes_15 rfl (lv_at hl 0 rfl) ?_
    refine lv_if_eq (tgt := 25) hx hb dX8_brakes_16 (by decide) (fun c4 => ?_) (fun c4 => ?_)
    · replace hw := hw.1 c4
      exact hb25 V H locs ls x1 s0 hI (lv_sub hl [1, 2, 0] rfl) hw
    · replace hw := hw.2 c4
      refine lv_aload_n hx hb dX8_brakes_19 rfl (lv_at hl 1 rfl) ?_
      refine lv_bipush (v := (14 : Int32)) hx hb dX8_brakes_20 (by decide) ?_
      refine x_aftv (va_runV (As := [.int (14 : Int32)]) (rest := []) ⟨hx, hb, hml, hown, hts⟩ (c_X8_begins l g ad H.size V (14 : Int32) _ hw) (cwV 1 hts gX8_brakes_X8_begins rfl rfl rfl (by decide +kernel) ⟨Nat.le_of_ble_eq_true rfl, Nat.le_of_ble_eq_true rfl⟩) (x_preV (k := 0) hK hE hI (by decide) rfl rfl) rfl rfl hl.1 rfl (lv_room (Nat.le_of_ble_eq_true rfl)) dX8_brakes_22 ⟨Nat.zero_le _, Nat.zero_le _⟩) hI (fun V5 H locs hw hI => ?_)
      exact hb25 V5 H locs ls x1 s0 hI (lv_sub hl [1, 2, 0] rfl) hw
  have hgo : ∀ (H : Heap) (locs : List Loc), WI g 13 (cM g ad) ad V s.heap H locs → W p l e (headSpec wsX8_brakes rm_X8_brakes).room s m args below meth c H locs 0 0 (MQ below (va_Qi K (WPost 13 (cM g ad) ad g) (AW ad 13 s.heap.size)) args s 0 0 (AW ad 13 s.heap.size)) (F0 m 0 ls []) := by
    intro H locs hI
    refine lv_aload_n hx hb dX8_brakes_0 rfl (lv_at hl 0 rfl) ?_
    refine lv_iload_n hx hb dX8_brakes_1 rfl (lv_at hl 1 rfl) ?_
    refine x_afti (va_runV (As := [.int x1]) (rest := []) ⟨hx, hb, hml, hown, hts⟩ (c_X8_kindAt l g ad H.size V x1 _ hw) (cwV 1 hts gX8_brakes_X8_kindAt rfl rfl rfl (by decide +kernel) ⟨Nat.le_of_ble_eq_true rfl, Nat.le_of_ble_eq_true rfl⟩) (x_preV (k := 0) hK hE hI (by decide) rfl rfl) rfl rfl hl.1 rfl (lv_room (Nat.le_of_ble_eq_true rfl)) dX8_brakes_2 ⟨Nat.zero_le _, Nat.zero_le _⟩) hI (fun r2 V1 H locs hw hI => ?_)
    refine lv_iconst (v := (5 : Int32)) hx hb dX8_brakes_5 (by decide) ?_
    refine lv_icmp_ne (tgt := 13) hx hb dX8_brakes_6 (by decide) (fun c3 => ?_) (fun c3 => ?_)
    · replace hw := hw.1 c3
      refine lv_iconst (v := (0 : Int32)) hx hb dX8_brakes_13 (by decide) ?_
      exact hb14 V1 H locs ls x1 (0 : Int32) hI (lv_sub hl [0, 1] rfl) hw
    · replace hw := hw.2 c3
      refine lv_iconst (v := (1 : Int32)) hx hb dX8_brakes_9 (by decide) ?_
      refine lv_goto (tgt := 14) hx hb dX8_brakes_10 (by decide) ?_
      exact hb14 V1 H locs ls x1 (1 : Int32) hI (lv_sub hl [0, 1] rfl) hw
  exact hgo s.heap [] hI
def rm_X8_marks : Room := { frames := 3, cells := 0, slots := 0, locals := 65 }
set_option maxHeartbeats 4000000 in
set_option maxRecDepth 100000 in
theorem c_X8_marks (l : Launch) (g : GP) (ad : Nat → Nat) (sz : Nat) (V : VT) (x1 : Int32)  (K : Int32 → VT → Prop) (hw : wp_X8_marks V x1 K) : Met l yX8_marks wsX8_marks rm_X8_marks (va_Pc [.ref (ad 0), .int x1] (WPre 13 (cM g ad) ad g V sz)) (va_Qi K (WPost 13 (cM g ad) ad g) (AW ad 13 sz)) 0 0 (AW ad 13 sz) := by
  refine Met.ofW (cc := cX8_marks) (maxL := 4) (ret := (some .int)) (by decide) rfl ?_
  intro p e s m args below meth c s₁ B hml hv
  obtain ⟨ha, hv⟩ := hv
  obtain rfl := hv.1
  have hI : WI g 13 (cM g ad) ad V s.heap s.heap [] := WI.start hv
  have hK := hv.2.2.1
  have hE := hv.2.2.2.2
  have hx := B.exec
  have hb := B.bytes
  have hr := B.returns
  have hts := atoms_spec (ws := wsX8_marks) B.pre
  have hown : s.vm.findClass RX8 = some m.cls := findClass_of_methodNamed B.named
  have hlocks := B.notSynchronized
  have hw_0 := hts (.fieldLink RX8 153 "HoopLaneModel" "pace" "I") (by decide +kernel)
  have hin8 : ∀ w ∈ wsX80, w ∈ wsX8_marks := by decide +kernel
  have hl := lv_entry ([.ref (ad 0), .int x1]) (n := 4) (Nat.le_of_ble_eq_true rfl)
  have hent : entryFrame m args 4 = F0 m 0 ((lg_sl ([.ref (ad 0), .int x1]) ++ List.replicate (4 - (lg_sl ([.ref (ad 0), .int x1])).length) Slot.unset).toArray) [] := by rw [ha, lg_entry_eq]
  rw [hent]
  generalize (lg_sl ([.ref (ad 0), .int x1]) ++ List.replicate (4 - (lg_sl ([.ref (ad 0), .int x1])).length) Slot.unset).toArray = ls at hl ⊢
  have hl : lv_has ls 4 [(0, .ref (ad 0)), (1, .int x1)] := hl
  obtain ⟨H, hH⟩ : ∃ H : Heap, H = s.heap := ⟨_, rfl⟩
  have hb52 : ∀ (V : VT) (H : Heap) (locs : List Loc) (ls : Array Slot) (x1 : Int32) (x2 : Int32), WI g 13 (cM g ad) ad V s.heap H locs → lv_has ls 4 [(0, .ref (ad 0)), (1, .int x1), (2, .int x2)] → wp_X8_marks_b52 K  V x1 x2 → W p l e (headSpec wsX8_marks rm_X8_marks).room s m args below meth c H locs 0 0 (MQ below (va_Qi K (WPost 13 (cM g ad) ad g) (AW ad 13 s.heap.size)) args s 0 0 (AW ad 13 s.heap.size)) (F0 m 52 ls []) := by
    intro V H locs ls x1 x2  hI hl hw
    refine lv_aload_n hx hb dX8_marks_52 rfl (lv_at hl 0 rfl) ?_
    refine lv_bipush (v := (21 : Int32)) hx hb dX8_marks_53 (by decide) ?_
    refine x_aftv (va_runV (As := [.int (21 : Int32)]) (rest := []) ⟨hx, hb, hml, hown, hts⟩ (c_X8_begins l g ad H.size V (21 : Int32) _ hw) (cwV 1 hts gX8_marks_X8_begins rfl rfl rfl (by decide +kernel) ⟨Nat.le_of_ble_eq_true rfl, Nat.le_of_ble_eq_true rfl⟩) (x_preV (k := 0) hK hE hI (by decide) rfl rfl) rfl rfl hl.1 rfl (lv_room (Nat.le_of_ble_eq_true rfl)) dX8_marks_55 ⟨Nat.zero_le _, Nat.zero_le _⟩) hI (fun V10 H locs hw hI => ?_)
    refine lv_aload_n hx hb dX8_marks_58 rfl (lv_at hl 0 rfl) ?_
    refine lv_bipush (v := (20 : Int32)) hx hb dX8_marks_59 (by decide) ?_
    refine x_aftv (va_runV (As := [.int (20 : Int32)]) (rest := []) ⟨hx, hb, hml, hown, hts⟩ (c_X8_begins l g ad H.size V10 (20 : Int32) _ hw) (cwV 1 hts gX8_marks_X8_begins rfl rfl rfl (by decide +kernel) ⟨Nat.le_of_ble_eq_true rfl, Nat.le_of_ble_eq_true rfl⟩) (x_preV (k := 0) hK hE hI (by decide) rfl rfl) rfl rfl hl.1 rfl (lv_room (Nat.le_of_ble_eq_true rfl)) dX8_marks_61 ⟨Nat.zero_le _, Nat.zero_le _⟩) hI (fun V11 H locs hw hI => ?_)
    refine lv_iload_n hx hb dX8_marks_64 rfl (lv_at hl 1 rfl) ?_
    refine lv_aload_n hx hb dX8_marks_65 rfl (lv_at hl 0 rfl) ?_
    refine mg_17 hx hb hts hin8 hown hK hI hw_0 dX8_marks_66 ?_
    refine lv_iadd hx hb dX8_marks_69 ?_
    refine lv_istore_n (lv' := [(3, .int (x1 + (V11 0 17))), (0, .ref (ad 0)), (1, .int x1), (2, .int x2)]) hx hb dX8_marks_70 rfl hl (by decide) rfl (fun ls hl => ?_)
    refine lv_iload_n hx hb dX8_marks_71 rfl (lv_at hl 3 rfl) ?_
    refine lv_iconst (v := (2 : Int32)) hx hb dX8_marks_72 (by decide) ?_
    refine lv_icmp_ne (tgt := 82) hx hb dX8_marks_73 (by decide) (fun c12 => ?_) (fun c12 => ?_)
    · replace hw := hw.1 c12
      refine lv_iload_n hx hb dX8_marks_82 rfl (lv_at hl 3 rfl) ?_
      refine lv_iconst (v := (3 : Int32)) hx hb dX8_marks_83 (by decide) ?_
      refine lv_icmp_ne (tgt := 95) hx hb dX8_marks_84 (by decide) (fun c13 => ?_) (fun c13 => ?_)
      · replace hw := hw.1 c13
        refine lv_iload_n hx hb dX8_marks_95 rfl (lv_at hl 0 rfl) ?_
        exact W.iret (v := (x1 + (V11 0 17))) hx hb hr (x_reti hI hw) hI.2.2.2.2 dX8_marks_96
      · replace hw := hw.2 c13
        refine lv_iload_n hx hb dX8_marks_87 rfl (lv_at hl 0 rfl) ?_
        refine lv_sipush (v := (1000 : Int32)) hx hb dX8_marks_88 (by decide) ?_
        refine lv_isub hx hb dX8_marks_91 ?_
        refine lv_goto (tgt := 96) hx hb dX8_marks_92 (by decide) ?_
        exact W.iret (v := ((x1 + (V11 0 17)) - (1000 : Int32))) hx hb hr (x_reti hI hw) hI.2.2.2.2 dX8_marks_96
    · replace hw := hw.2 c12
      refine lv_iconst (v := (2 : Int32)) hx hb dX8_marks_76 (by decide) ?_
      refine lv_iload_n hx hb dX8_marks_77 rfl (lv_at hl 0 rfl) ?_
      refine lv_imul hx hb dX8_marks_78 ?_
      refine lv_goto (tgt := 96) hx hb dX8_marks_79 (by decide) ?_
      exact W.iret (v := ((2 : Int32) * (x1 + (V11 0 17)))) hx hb hr (x_reti hI hw) hI.2.2.2.2 dX8_marks_96
  have hb49 : ∀ (V : VT) (H : Heap) (locs : List Loc) (ls : Array Slot) (x1 : Int32) (x2 : Int32) (s1 : Int32), WI g 13 (cM g ad) ad V s.heap H locs → lv_has ls 4 [(0, .ref (ad 0)), (1, .int x1), (2, .int x2)] → wp_X8_marks_b49 K  V x1 x2 s1 → W p l e (headSpec wsX8_marks rm_X8_marks).room s m args below meth c H locs 0 0 (MQ below (va_Qi K (WPost 13 (cM g ad) ad g) (AW ad 13 s.heap.size)) args s 0 0 (AW ad 13 s.heap.size)) (F0 m 49 ls [.int s1, .ref (ad 0)]) := by
    intro V H locs ls x1 x2 s1  hI hl hw
    refine x_aftv (va_runV (As := [.int s1]) (rest := []) ⟨hx, hb, hml, hown, hts⟩ (c_X8_begins l g ad H.size V s1 _ hw) (cwV 1 hts gX8_marks_X8_begins rfl rfl rfl (by decide +kernel) ⟨Nat.le_of_ble_eq_true rfl, Nat.le_of_ble_eq_true rfl⟩) (x_preV (k := 0) hK hE hI (by decide) rfl rfl) rfl rfl hl.1 rfl (lv_room (Nat.le_of_ble_eq_true rfl)) dX8_marks_49 ⟨Nat.zero_le _, Nat.zero_le _⟩) hI (fun V14 H locs hw hI => ?_)
    exact hb52 V14 H locs ls x1 x2 hI (lv_sub hl [0, 1, 2] rfl) hw
  have hgo : ∀ (H : Heap) (locs : List Loc), WI g 13 (cM g ad) ad V s.heap H locs → W p l e (headSpec wsX8_marks rm_X8_marks).room s m args below meth c H locs 0 0 (MQ below (va_Qi K (WPost 13 (cM g ad) ad g) (AW ad 13 s.heap.size)) args s 0 0 (AW ad 13 s.heap.size)) (F0 m 0 ls []) := by
    intro H locs hI
    refine lv_aload_n hx hb dX8_marks_0 rfl (lv_at hl 0 rfl) ?_
    refine lv_iload_n hx hb dX8_marks_1 rfl (lv_at hl 1 rfl) ?_
    refine x_afti (va_runV (As := [.int x1]) (rest := []) ⟨hx, hb, hml, hown, hts⟩ (c_X8_kindAt l g ad H.size V x1 _ hw) (cwV 1 hts gX8_marks_X8_kindAt rfl rfl rfl (by decide +kernel) ⟨Nat.le_of_ble_eq_true rfl, Nat.le_of_ble_eq_true rfl⟩) (x_preV (k := 0) hK hE hI (by decide) rfl rfl) rfl rfl hl.1 rfl (lv_room (Nat.le_of_ble_eq_true rfl)) dX8_marks_2 ⟨Nat.zero_le _, Nat.zero_le _⟩) hI (fun r2 V1 H locs hw hI => ?_)
    refine lv_istore_n (lv' := [(2, .int r2), (0, .ref (ad 0)), (1, .int x1)]) hx hb dX8_marks_5 rfl hl (by decide) rfl (fun ls hl => ?_)
    refine lv_iload_n hx hb dX8_marks_6 rfl (lv_at hl 0 rfl) ?_
    refine lv_iconst (v := (3 : Int32)) hx hb dX8_marks_7 (by decide) ?_
    refine lv_icmp_le (tgt := 31) hx hb dX8_marks_8 (by decide) (fun c3 => ?_) (fun c3 => ?_)
    · replace hw := hw.1 c3
      refine lv_iload_n hx hb dX8_marks_31 rfl (lv_at hl 0 rfl) ?_
      refine lv_iconst (v := (1 : Int32)) hx hb dX8_marks_32 (by decide) ?_
      refine lv_icmp_le (tgt := 52) hx hb dX8_marks_33 (by decide) (fun c4 => ?_) (fun c4 => ?_)
      · replace hw := hw.1 c4
        exact hb52 V1 H locs ls x1 r2 hI (lv_sub hl [1, 2, 0] rfl) hw
      · replace hw := hw.2 c4
        refine lv_aload_n hx hb dX8_marks_36 rfl (lv_at hl 1 rfl) ?_
        refine lv_iload_n hx hb dX8_marks_37 rfl (lv_at hl 0 rfl) ?_
        refine lv_iconst (v := (2 : Int32)) hx hb dX8_marks_38 (by decide) ?_
        refine lv_icmp_ne (tgt := 47) hx hb dX8_marks_39 (by decide) (fun c5 => ?_) (fun c5 => ?_)
        · replace hw := hw.1 c5
          refine lv_bipush (v := (22 : Int32)) hx hb dX8_marks_47 (by decide) ?_
          exact hb49 V1 H locs ls x1 r2 (22 : Int32) hI (lv_sub hl [1, 2, 0] rfl) hw
        · replace hw := hw.2 c5
          refine lv_bipush (v := (24 : Int32)) hx hb dX8_marks_42 (by decide) ?_
          refine lv_goto (tgt := 49) hx hb dX8_marks_44 (by decide) ?_
          exact hb49 V1 H locs ls x1 r2 (24 : Int32) hI (lv_sub hl [1, 2, 0] rfl) hw
    · replace hw := hw.2 c3
      refine lv_aload_n hx hb dX8_marks_11 rfl (lv_at hl 1 rfl) ?_
      refine lv_bipush (v := (23 : Int32)) hx hb dX8_marks_12 (by decide) ?_
      refine x_aftv (va_runV (As := [.int (23 : Int32)]) (rest := []) ⟨hx, hb, hml, hown, hts⟩ (c_X8_begins l g ad H.size V1 (23 : Int32) _ hw) (cwV 1 hts gX8_marks_X8_begins rfl rfl rfl (by decide +kernel) ⟨Nat.le_of_ble_eq_true rfl, Nat.le_of_ble_eq_true rfl⟩) (x_preV (k := 0) hK hE hI (by decide) rfl rfl) rfl rfl hl.1 rfl (lv_room (Nat.le_of_ble_eq_true rfl)) dX8_marks_14 ⟨Nat.zero_le _, Nat.zero_le _⟩) hI (fun V6 H locs hw hI => ?_)
      refine lv_aload_n hx hb dX8_marks_17 rfl (lv_at hl 1 rfl) ?_
      refine lv_bipush (v := (20 : Int32)) hx hb dX8_marks_18 (by decide) ?_
      refine x_aftv (va_runV (As := [.int (20 : Int32)]) (rest := []) ⟨hx, hb, hml, hown, hts⟩ (c_X8_begins l g ad H.size V6 (20 : Int32) _ hw) (cwV 1 hts gX8_marks_X8_begins rfl rfl rfl (by decide +kernel) ⟨Nat.le_of_ble_eq_true rfl, Nat.le_of_ble_eq_true rfl⟩) (x_preV (k := 0) hK hE hI (by decide) rfl rfl) rfl rfl hl.1 rfl (lv_room (Nat.le_of_ble_eq_true rfl)) dX8_marks_20 ⟨Nat.zero_le _, Nat.zero_le _⟩) hI (fun V7 H locs hw hI => ?_)
      refine lv_iload_n hx hb dX8_marks_23 rfl (lv_at hl 2 rfl) ?_
      refine lv_aload_n hx hb dX8_marks_24 rfl (lv_at hl 1 rfl) ?_
      refine lv_iload_n hx hb dX8_marks_25 rfl (lv_at hl 2 rfl) ?_
      refine x_afti (va_runV (As := [.int x1]) (rest := [.int x1]) ⟨hx, hb, hml, hown, hts⟩ (c_X8_brakes l g ad H.size V7 x1 _ hw) (cwV 1 hts gX8_marks_X8_brakes rfl rfl rfl (by decide +kernel) ⟨Nat.le_of_ble_eq_true rfl, Nat.le_of_ble_eq_true rfl⟩) (x_preV (k := 0) hK hE hI (by decide) rfl rfl) rfl rfl hl.1 rfl (lv_room (Nat.le_of_ble_eq_true rfl)) dX8_marks_26 ⟨Nat.zero_le _, Nat.zero_le _⟩) hI (fun r9 V8 H locs hw hI => ?_)
      refine lv_isub hx hb dX8_marks_29 ?_
      exact W.iret (v := (x1 - r9)) hx hb hr (x_reti hI hw) hI.2.2.2.2 dX8_marks_30
  exact hgo s.heap [] hI
def rm_X8_sizeOf : Room := { frames := 4, cells := 0, slots := 0, locals := 88 }
set_option maxHeartbeats 4000000 in
set_option maxRecDepth 100000 in
theorem c_X8_sizeOf (l : Launch) (g : GP) (ad : Nat → Nat) (sz : Nat) (V : VT) (x1 : Int32)  (K : Int32 → VT → Prop) (hw : wp_X8_sizeOf V x1 K) : Met l yX8_sizeOf wsX8_sizeOf rm_X8_sizeOf (va_Pc [.ref (ad 0), .int x1] (WPre 13 (cM g ad) ad g V sz)) (va_Qi K (WPost 13 (cM g ad) ad g) (AW ad 13 sz)) 0 0 (AW ad 13 sz) := by
  refine Met.ofW (cc := cX8_sizeOf) (maxL := 4) (ret := (some .int)) (by decide) rfl ?_
  intro p e s m args below meth c s₁ B hml hv
  obtain ⟨ha, hv⟩ := hv
  obtain rfl := hv.1
  have hI : WI g 13 (cM g ad) ad V s.heap s.heap [] := WI.start hv
  have hK := hv.2.2.1
  have hE := hv.2.2.2.2
  have hx := B.exec
  have hb := B.bytes
  have hr := B.returns
  have hts := atoms_spec (ws := wsX8_sizeOf) B.pre
  have hown : s.vm.findClass RX8 = some m.cls := findClass_of_methodNamed B.named
  have hlocks := B.notSynchronized
  have hl := lv_entry ([.ref (ad 0), .int x1]) (n := 4) (Nat.le_of_ble_eq_true rfl)
  have hent : entryFrame m args 4 = F0 m 0 ((lg_sl ([.ref (ad 0), .int x1]) ++ List.replicate (4 - (lg_sl ([.ref (ad 0), .int x1])).length) Slot.unset).toArray) [] := by rw [ha, lg_entry_eq]
  rw [hent]
  generalize (lg_sl ([.ref (ad 0), .int x1]) ++ List.replicate (4 - (lg_sl ([.ref (ad 0), .int x1])).length) Slot.unset).toArray = ls at hl ⊢
  have hl : lv_has ls 4 [(0, .ref (ad 0)), (1, .int x1)] := hl
  obtain ⟨H, hH⟩ : ∃ H : Heap, H = s.heap := ⟨_, rfl⟩
  have hb28 : ∀ (V : VT) (H : Heap) (locs : List Loc) (ls : Array Slot) (x1 : Int32) (x2 : Int32), WI g 13 (cM g ad) ad V s.heap H locs → lv_has ls 4 [(0, .ref (ad 0)), (1, .int x1), (2, .int x2)] → wp_X8_sizeOf_b28 K  V x1 x2 → W p l e (headSpec wsX8_sizeOf rm_X8_sizeOf).room s m args below meth c H locs 0 0 (MQ below (va_Qi K (WPost 13 (cM g ad) ad g) (AW ad 13 s.heap.size)) args s 0 0 (AW ad 13 s.heap.size)) (F0 m 28 ls []) := by
    intro V H locs ls x1 x2  hI hl hw
    refine lv_aload_n hx hb dX8_sizeOf_28 rfl (lv_at hl 0 rfl) ?_
    refine lv_bipush (v := (11 : Int32)) hx hb dX8_sizeOf_29 (by decide) ?_
    refine x_aftv (va_runV (As := [.int (11 : Int32)]) (rest := []) ⟨hx, hb, hml, hown, hts⟩ (c_X8_begins l g ad H.size V (11 : Int32) _ hw) (cwV 1 hts gX8_sizeOf_X8_begins rfl rfl rfl (by decide +kernel) ⟨Nat.le_of_ble_eq_true rfl, Nat.le_of_ble_eq_true rfl⟩) (x_preV (k := 0) hK hE hI (by decide) rfl rfl) rfl rfl hl.1 rfl (lv_room (Nat.le_of_ble_eq_true rfl)) dX8_sizeOf_31 ⟨Nat.zero_le _, Nat.zero_le _⟩) hI (fun V8 H locs hw hI => ?_)
    refine lv_aload_n hx hb dX8_sizeOf_34 rfl (lv_at hl 0 rfl) ?_
    refine lv_iload_n hx hb dX8_sizeOf_35 rfl (lv_at hl 1 rfl) ?_
    refine x_afti (va_runV (As := [.int x1]) (rest := []) ⟨hx, hb, hml, hown, hts⟩ (c_X8_lent l g ad H.size V8 x1 _ hw) (cwV 1 hts gX8_sizeOf_X8_lent rfl rfl rfl (by decide +kernel) ⟨Nat.le_of_ble_eq_true rfl, Nat.le_of_ble_eq_true rfl⟩) (x_preV (k := 0) hK hE hI (by decide) rfl rfl) rfl rfl hl.1 rfl (lv_room (Nat.le_of_ble_eq_true rfl)) dX8_sizeOf_36 ⟨Nat.zero_le _, Nat.zero_le _⟩) hI (fun r10 V9 H locs hw hI => ?_)
    refine lv_istore_n (lv' := [(3, .int r10), (0, .ref (ad 0)), (1, .int x1), (2, .int x2)]) hx hb dX8_sizeOf_39 rfl hl (by decide) rfl (fun ls hl => ?_)
    refine lv_iload_n hx hb dX8_sizeOf_40 rfl (lv_at hl 0 rfl) ?_
    refine lv_aload_n hx hb dX8_sizeOf_41 rfl (lv_at hl 1 rfl) ?_
    refine lv_iload_n hx hb dX8_sizeOf_42 rfl (lv_at hl 2 rfl) ?_
    refine x_afti (va_runV (As := [.int x1]) (rest := [.int r10]) ⟨hx, hb, hml, hown, hts⟩ (c_X8_marks l g ad H.size V9 x1 _ hw) (cwV 1 hts gX8_sizeOf_X8_marks rfl rfl rfl (by decide +kernel) ⟨Nat.le_of_ble_eq_true rfl, Nat.le_of_ble_eq_true rfl⟩) (x_preV (k := 0) hK hE hI (by decide) rfl rfl) rfl rfl hl.1 rfl (lv_room (Nat.le_of_ble_eq_true rfl)) dX8_sizeOf_43 ⟨Nat.zero_le _, Nat.zero_le _⟩) hI (fun r12 V11 H locs hw hI => ?_)
    refine lv_iadd hx hb dX8_sizeOf_46 ?_
    refine lv_istore_n (lv' := [(3, .int (r10 + r12)), (0, .ref (ad 0)), (1, .int x1), (2, .int x2)]) hx hb dX8_sizeOf_47 rfl hl (by decide) rfl (fun ls hl => ?_)
    refine lv_iload_n hx hb dX8_sizeOf_48 rfl (lv_at hl 3 rfl) ?_
    refine lv_iconst (v := (2 : Int32)) hx hb dX8_sizeOf_49 (by decide) ?_
    refine lv_icmp_ne (tgt := 58) hx hb dX8_sizeOf_50 (by decide) (fun c13 => ?_) (fun c13 => ?_)
    · replace hw := hw.1 c13
      refine lv_iload_n hx hb dX8_sizeOf_58 rfl (lv_at hl 0 rfl) ?_
      exact W.iret (v := (r10 + r12)) hx hb hr (x_reti hI hw) hI.2.2.2.2 dX8_sizeOf_59
    · replace hw := hw.2 c13
      refine lv_iload_n hx hb dX8_sizeOf_53 rfl (lv_at hl 0 rfl) ?_
      refine lv_ineg hx hb dX8_sizeOf_54 ?_
      refine lv_goto (tgt := 59) hx hb dX8_sizeOf_55 (by decide) ?_
      exact W.iret (v := (-(r10 + r12))) hx hb hr (x_reti hI hw) hI.2.2.2.2 dX8_sizeOf_59
  have hgo : ∀ (H : Heap) (locs : List Loc), WI g 13 (cM g ad) ad V s.heap H locs → W p l e (headSpec wsX8_sizeOf rm_X8_sizeOf).room s m args below meth c H locs 0 0 (MQ below (va_Qi K (WPost 13 (cM g ad) ad g) (AW ad 13 s.heap.size)) args s 0 0 (AW ad 13 s.heap.size)) (F0 m 0 ls []) := by
    intro H locs hI
    refine lv_aload_n hx hb dX8_sizeOf_0 rfl (lv_at hl 0 rfl) ?_
    refine lv_iload_n hx hb dX8_sizeOf_1 rfl (lv_at hl 1 rfl) ?_
    refine x_afti (va_runV (As := [.int x1]) (rest := []) ⟨hx, hb, hml, hown, hts⟩ (c_X8_kindAt l g ad H.size V x1 _ hw) (cwV 1 hts gX8_sizeOf_X8_kindAt rfl rfl rfl (by decide +kernel) ⟨Nat.le_of_ble_eq_true rfl, Nat.le_of_ble_eq_true rfl⟩) (x_preV (k := 0) hK hE hI (by decide) rfl rfl) rfl rfl hl.1 rfl (lv_room (Nat.le_of_ble_eq_true rfl)) dX8_sizeOf_2 ⟨Nat.zero_le _, Nat.zero_le _⟩) hI (fun r2 V1 H locs hw hI => ?_)
    refine lv_istore_n (lv' := [(2, .int r2), (0, .ref (ad 0)), (1, .int x1)]) hx hb dX8_sizeOf_5 rfl hl (by decide) rfl (fun ls hl => ?_)
    refine lv_iload_n hx hb dX8_sizeOf_6 rfl (lv_at hl 0 rfl) ?_
    refine lv_iconst (v := (3 : Int32)) hx hb dX8_sizeOf_7 (by decide) ?_
    refine lv_icmp_le (tgt := 17) hx hb dX8_sizeOf_8 (by decide) (fun c3 => ?_) (fun c3 => ?_)
    · replace hw := hw.1 c3
      refine lv_iload_n hx hb dX8_sizeOf_17 rfl (lv_at hl 0 rfl) ?_
      refine lv_iconst (v := (2 : Int32)) hx hb dX8_sizeOf_18 (by decide) ?_
      refine lv_icmp_ne (tgt := 28) hx hb dX8_sizeOf_19 (by decide) (fun c4 => ?_) (fun c4 => ?_)
      · replace hw := hw.1 c4
        exact hb28 V1 H locs ls x1 r2 hI (lv_sub hl [1, 2, 0] rfl) hw
      · replace hw := hw.2 c4
        refine lv_aload_n hx hb dX8_sizeOf_22 rfl (lv_at hl 1 rfl) ?_
        refine lv_bipush (v := (12 : Int32)) hx hb dX8_sizeOf_23 (by decide) ?_
        refine x_aftv (va_runV (As := [.int (12 : Int32)]) (rest := []) ⟨hx, hb, hml, hown, hts⟩ (c_X8_begins l g ad H.size V1 (12 : Int32) _ hw) (cwV 1 hts gX8_sizeOf_X8_begins rfl rfl rfl (by decide +kernel) ⟨Nat.le_of_ble_eq_true rfl, Nat.le_of_ble_eq_true rfl⟩) (x_preV (k := 0) hK hE hI (by decide) rfl rfl) rfl rfl hl.1 rfl (lv_room (Nat.le_of_ble_eq_true rfl)) dX8_sizeOf_25 ⟨Nat.zero_le _, Nat.zero_le _⟩) hI (fun V5 H locs hw hI => ?_)
        exact hb28 V5 H locs ls x1 r2 hI (lv_sub hl [1, 2, 0] rfl) hw
    · replace hw := hw.2 c3
      refine lv_aload_n hx hb dX8_sizeOf_11 rfl (lv_at hl 1 rfl) ?_
      refine lv_iload_n hx hb dX8_sizeOf_12 rfl (lv_at hl 2 rfl) ?_
      refine x_afti (va_runV (As := [.int x1]) (rest := []) ⟨hx, hb, hml, hown, hts⟩ (c_X8_brakes l g ad H.size V1 x1 _ hw) (cwV 1 hts gX8_sizeOf_X8_brakes rfl rfl rfl (by decide +kernel) ⟨Nat.le_of_ble_eq_true rfl, Nat.le_of_ble_eq_true rfl⟩) (x_preV (k := 0) hK hE hI (by decide) rfl rfl) rfl rfl hl.1 rfl (lv_room (Nat.le_of_ble_eq_true rfl)) dX8_sizeOf_13 ⟨Nat.zero_le _, Nat.zero_le _⟩) hI (fun r7 V6 H locs hw hI => ?_)
      exact W.iret (v := r7) hx hb hr (x_reti hI hw) hI.2.2.2.2 dX8_sizeOf_16
  exact hgo s.heap [] hI
def rm_X8_ask : Room := { frames := 5, cells := 0, slots := 0, locals := 111 }
set_option maxHeartbeats 4000000 in
set_option maxRecDepth 100000 in
theorem c_X8_ask (l : Launch) (g : GP) (ad : Nat → Nat) (sz : Nat) (V : VT) (x1 : Int32) (x2 : Int32)  (K : Int32 → VT → Prop) (hw : wp_X8_ask V x1 x2 K) : Met l yX8_ask wsX8_ask rm_X8_ask (va_Pc [.ref (ad 0), .int x1, .int x2] (WPre 13 (cM g ad) ad g V sz)) (va_Qi K (WPost 13 (cM g ad) ad g) (AW ad 13 sz)) 0 0 (AW ad 13 sz) := by
  refine Met.ofW (cc := cX8_ask) (maxL := 3) (ret := (some .int)) (by decide) rfl ?_
  intro p e s m args below meth c s₁ B hml hv
  obtain ⟨ha, hv⟩ := hv
  obtain rfl := hv.1
  have hI : WI g 13 (cM g ad) ad V s.heap s.heap [] := WI.start hv
  have hK := hv.2.2.1
  have hE := hv.2.2.2.2
  have hx := B.exec
  have hb := B.bytes
  have hr := B.returns
  have hts := atoms_spec (ws := wsX8_ask) B.pre
  have hown : s.vm.findClass RX8 = some m.cls := findClass_of_methodNamed B.named
  have hlocks := B.notSynchronized
  have hw_0 := hts (.constant RX8 64 (-1000001)) (by decide +kernel)
  have hw_1 := hts (.fieldLink RX8 276 "HoopLaneModel" "traced" "I") (by decide +kernel)
  have hin8 : ∀ w ∈ wsX80, w ∈ wsX8_ask := by decide +kernel
  have hl := lv_entry ([.ref (ad 0), .int x1, .int x2]) (n := 3) (Nat.le_of_ble_eq_true rfl)
  have hent : entryFrame m args 3 = F0 m 0 ((lg_sl ([.ref (ad 0), .int x1, .int x2]) ++ List.replicate (3 - (lg_sl ([.ref (ad 0), .int x1, .int x2])).length) Slot.unset).toArray) [] := by rw [ha, lg_entry_eq]
  rw [hent]
  generalize (lg_sl ([.ref (ad 0), .int x1, .int x2]) ++ List.replicate (3 - (lg_sl ([.ref (ad 0), .int x1, .int x2])).length) Slot.unset).toArray = ls at hl ⊢
  have hl : lv_has ls 3 [(0, .ref (ad 0)), (1, .int x1), (2, .int x2)] := hl
  obtain ⟨H, hH⟩ : ∃ H : Heap, H = s.heap := ⟨_, rfl⟩
  have hgo : ∀ (H : Heap) (locs : List Loc), WI g 13 (cM g ad) ad V s.heap H locs → W p l e (headSpec wsX8_ask rm_X8_ask).room s m args below meth c H locs 0 0 (MQ below (va_Qi K (WPost 13 (cM g ad) ad g) (AW ad 13 s.heap.size)) args s 0 0 (AW ad 13 s.heap.size)) (F0 m 0 ls []) := by
    intro H locs hI
    refine lv_aload_n hx hb dX8_ask_0 rfl (lv_at hl 0 rfl) ?_
    refine lv_iload_n hx hb dX8_ask_1 rfl (lv_at hl 1 rfl) ?_
    refine x_afti (va_runV (As := [.int x1]) (rest := []) ⟨hx, hb, hml, hown, hts⟩ (c_X8_isTap l g ad H.size V x1 _ hw) (cwV 1 hts gX8_ask_X8_isTap rfl rfl rfl (by decide +kernel) ⟨Nat.le_of_ble_eq_true rfl, Nat.le_of_ble_eq_true rfl⟩) (x_preV (k := 0) hK hE hI (by decide) rfl rfl) rfl rfl hl.1 rfl (lv_room (Nat.le_of_ble_eq_true rfl)) dX8_ask_2 ⟨Nat.zero_le _, Nat.zero_le _⟩) hI (fun r2 V1 H locs hw hI => ?_)
    refine lv_if_eq (tgt := 18) hx hb dX8_ask_5 (by decide) (fun c3 => ?_) (fun c3 => ?_)
    · replace hw := hw.1 c3
      refine lv_ldc (v := (-1000001 : Int32)) hx hb hown hw_0 dX8_ask_18 ?_
      exact W.iret (v := (-1000001 : Int32)) hx hb hr (x_reti hI hw) hI.2.2.2.2 dX8_ask_20
    · replace hw := hw.2 c3
      refine lv_iload_n hx hb dX8_ask_8 rfl (lv_at hl 2 rfl) ?_
      refine lv_i2l (v := (x2).toInt64) hx hb dX8_ask_9 rfl ?_
      refine lv_lconst (v := (0 : Int64)) hx hb dX8_ask_10 (by decide) ?_
      refine lv_lconst (v := (1 : Int64)) hx hb dX8_ask_11 (by decide) ?_
      refine x_afti (va_runS (As := [.long ((x2).toInt64), .long (0 : Int64), .long (1 : Int64)]) (rest := []) ⟨hx, hb, hml, hown, hts⟩ (c_X8_in l g ad H.size V1 ((x2).toInt64) (0 : Int64) (1 : Int64) _ hw) (cwS 3 hts gX8_ask_X8_in rfl rfl rfl (by decide +kernel) ⟨Nat.le_of_ble_eq_true rfl, Nat.le_of_ble_eq_true rfl⟩) (x_preS hK hE hI) rfl rfl hl.1 rfl (lv_room (Nat.le_of_ble_eq_true rfl)) dX8_ask_12 ⟨Nat.zero_le _, Nat.zero_le _⟩) hI (fun r5 V4 H locs hw hI => ?_)
      refine lv_if_ne (tgt := 21) hx hb dX8_ask_15 (by decide) (fun c6 => ?_) (fun c6 => ?_)
      · replace hw := hw.1 c6
        refine lv_aload_n hx hb dX8_ask_21 rfl (lv_at hl 0 rfl) ?_
        refine lv_iconst (v := (0 : Int32)) hx hb dX8_ask_22 (by decide) ?_
        refine mp_32 hx hb hts hin8 hown hK hI hw_1 dX8_ask_23 (fun V7 H locs eV7 hI => ?_)
        replace hw := hw V7 eV7
        refine lv_iload_n hx hb dX8_ask_26 rfl (lv_at hl 2 rfl) ?_
        refine lv_if_ne (tgt := 38) hx hb dX8_ask_27 (by decide) (fun c8 => ?_) (fun c8 => ?_)
        · replace hw := hw.1 c8
          refine lv_aload_n hx hb dX8_ask_38 rfl (lv_at hl 0 rfl) ?_
          refine lv_iload_n hx hb dX8_ask_39 rfl (lv_at hl 1 rfl) ?_
          refine x_afti (va_runV (As := [.int x1]) (rest := []) ⟨hx, hb, hml, hown, hts⟩ (c_X8_marks l g ad H.size V7 x1 _ hw) (cwV 1 hts gX8_ask_X8_marks rfl rfl rfl (by decide +kernel) ⟨Nat.le_of_ble_eq_true rfl, Nat.le_of_ble_eq_true rfl⟩) (x_preV (k := 0) hK hE hI (by decide) rfl rfl) rfl rfl hl.1 rfl (lv_room (Nat.le_of_ble_eq_true rfl)) dX8_ask_40 ⟨Nat.zero_le _, Nat.zero_le _⟩) hI (fun r10 V9 H locs hw hI => ?_)
          exact W.iret (v := r10) hx hb hr (x_reti hI hw) hI.2.2.2.2 dX8_ask_43
        · replace hw := hw.2 c8
          refine lv_aload_n hx hb dX8_ask_30 rfl (lv_at hl 0 rfl) ?_
          refine lv_iload_n hx hb dX8_ask_31 rfl (lv_at hl 1 rfl) ?_
          refine x_afti (va_runV (As := [.int x1]) (rest := []) ⟨hx, hb, hml, hown, hts⟩ (c_X8_sizeOf l g ad H.size V7 x1 _ hw) (cwV 1 hts gX8_ask_X8_sizeOf rfl rfl rfl (by decide +kernel) ⟨Nat.le_of_ble_eq_true rfl, Nat.le_of_ble_eq_true rfl⟩) (x_preV (k := 0) hK hE hI (by decide) rfl rfl) rfl rfl hl.1 rfl (lv_room (Nat.le_of_ble_eq_true rfl)) dX8_ask_32 ⟨Nat.zero_le _, Nat.zero_le _⟩) hI (fun r12 V11 H locs hw hI => ?_)
          refine lv_goto (tgt := 43) hx hb dX8_ask_35 (by decide) ?_
          exact W.iret (v := r12) hx hb hr (x_reti hI hw) hI.2.2.2.2 dX8_ask_43
      · replace hw := hw.2 c6
        refine lv_ldc (v := (-1000001 : Int32)) hx hb hown hw_0 dX8_ask_18 ?_
        exact W.iret (v := (-1000001 : Int32)) hx hb hr (x_reti hI hw) hI.2.2.2.2 dX8_ask_20
  exact hgo s.heap [] hI
def rm_X8_trace : Room := { frames := 1, cells := 0, slots := 0, locals := 25 }
set_option maxHeartbeats 4000000 in
set_option maxRecDepth 100000 in
theorem c_X8_trace (l : Launch) (g : GP) (ad : Nat → Nat) (sz : Nat) (V : VT) (x1 : Int32)  (K : Int32 → VT → Prop) (hw : wp_X8_trace V x1 K) : Met l yX8_trace wsX8_trace rm_X8_trace (va_Pc [.ref (ad 0), .int x1] (WPre 13 (cM g ad) ad g V sz)) (va_Qi K (WPost 13 (cM g ad) ad g) (AW ad 13 sz)) 0 0 (AW ad 13 sz) := by
  refine Met.ofW (cc := cX8_trace) (maxL := 2) (ret := (some .int)) (by decide) rfl ?_
  intro p e s m args below meth c s₁ B hml hv
  obtain ⟨ha, hv⟩ := hv
  obtain rfl := hv.1
  have hI : WI g 13 (cM g ad) ad V s.heap s.heap [] := WI.start hv
  have hK := hv.2.2.1
  have hE := hv.2.2.2.2
  have hx := B.exec
  have hb := B.bytes
  have hr := B.returns
  have hts := atoms_spec (ws := wsX8_trace) B.pre
  have hown : s.vm.findClass RX8 = some m.cls := findClass_of_methodNamed B.named
  have hlocks := B.notSynchronized
  have hw_0 := hts (.fieldLink RX8 276 "HoopLaneModel" "traced" "I") (by decide +kernel)
  have hw_1 := hts (.constant RX8 237 (-1000000)) (by decide +kernel)
  have hw_2 := hts (.fieldLink RX8 44 "HoopLaneModel" "trace" "[I") (by decide +kernel)
  have hin8 : ∀ w ∈ wsX80, w ∈ wsX8_trace := by decide +kernel
  have hl := lv_entry ([.ref (ad 0), .int x1]) (n := 2) (Nat.le_of_ble_eq_true rfl)
  have hent : entryFrame m args 2 = F0 m 0 ((lg_sl ([.ref (ad 0), .int x1]) ++ List.replicate (2 - (lg_sl ([.ref (ad 0), .int x1])).length) Slot.unset).toArray) [] := by rw [ha, lg_entry_eq]
  rw [hent]
  generalize (lg_sl ([.ref (ad 0), .int x1]) ++ List.replicate (2 - (lg_sl ([.ref (ad 0), .int x1])).length) Slot.unset).toArray = ls at hl ⊢
  have hl : lv_has ls 2 [(0, .ref (ad 0)), (1, .int x1)] := hl
  obtain ⟨H, hH⟩ : ∃ H : Heap, H = s.heap := ⟨_, rfl⟩
  have hgo : ∀ (H : Heap) (locs : List Loc), WI g 13 (cM g ad) ad V s.heap H locs → W p l e (headSpec wsX8_trace rm_X8_trace).room s m args below meth c H locs 0 0 (MQ below (va_Qi K (WPost 13 (cM g ad) ad g) (AW ad 13 s.heap.size)) args s 0 0 (AW ad 13 s.heap.size)) (F0 m 0 ls []) := by
    intro H locs hI
    refine lv_iload_n hx hb dX8_trace_0 rfl (lv_at hl 1 rfl) ?_
    refine lv_i2l (v := (x1).toInt64) hx hb dX8_trace_1 rfl ?_
    refine lv_lconst (v := (0 : Int64)) hx hb dX8_trace_2 (by decide) ?_
    refine lv_aload_n hx hb dX8_trace_3 rfl (lv_at hl 0 rfl) ?_
    refine mg_32 hx hb hts hin8 hown hK hI hw_0 dX8_trace_4 ?_
    refine lv_iconst (v := (1 : Int32)) hx hb dX8_trace_7 (by decide) ?_
    refine lv_isub hx hb dX8_trace_8 ?_
    refine lv_i2l (v := (((V 0 32) - (1 : Int32))).toInt64) hx hb dX8_trace_9 rfl ?_
    refine x_afti (va_runS (As := [.long ((x1).toInt64), .long (0 : Int64), .long ((((V 0 32) - (1 : Int32))).toInt64)]) (rest := []) ⟨hx, hb, hml, hown, hts⟩ (c_X8_in l g ad H.size V ((x1).toInt64) (0 : Int64) ((((V 0 32) - (1 : Int32))).toInt64) _ hw) (cwS 3 hts gX8_trace_X8_in rfl rfl rfl (by decide +kernel) ⟨Nat.le_of_ble_eq_true rfl, Nat.le_of_ble_eq_true rfl⟩) (x_preS hK hE hI) rfl rfl hl.1 rfl (lv_room (Nat.le_of_ble_eq_true rfl)) dX8_trace_10 ⟨Nat.zero_le _, Nat.zero_le _⟩) hI (fun r2 V1 H locs hw hI => ?_)
    refine lv_if_eq (tgt := 25) hx hb dX8_trace_13 (by decide) (fun c3 => ?_) (fun c3 => ?_)
    · replace hw := hw.1 c3
      refine lv_ldc (v := (-1000000 : Int32)) hx hb hown hw_1 dX8_trace_25 ?_
      exact W.iret (v := (-1000000 : Int32)) hx hb hr (x_reti hI hw) hI.2.2.2.2 dX8_trace_27
    · replace hw := hw.2 c3
      refine lv_aload_n hx hb dX8_trace_16 rfl (lv_at hl 0 rfl) ?_
      refine mg_31 hx hb hts hin8 hown hK hI hw_2 dX8_trace_17 ?_
      refine lv_iload_n hx hb dX8_trace_20 rfl (lv_at hl 1 rfl) ?_
      obtain ⟨h4, hw⟩ := hw
      refine x_iald (k := 12) hx hb hK hI (by decide) rfl h4 dX8_trace_21 ?_
      refine lv_goto (tgt := 27) hx hb dX8_trace_22 (by decide) ?_
      exact W.iret (v := (V1 12 (x1).toNatClampNeg)) hx hb hr (x_reti hI hw) hI.2.2.2.2 dX8_trace_27
  exact hgo s.heap [] hI
def rm_X8_count : Room := { frames := 0, cells := 0, slots := 0, locals := 0 }
set_option maxHeartbeats 4000000 in
set_option maxRecDepth 100000 in
theorem c_X8_count (l : Launch) (g : GP) (ad : Nat → Nat) (sz : Nat) (V : VT) (x1 : Int32)  (K : Int32 → VT → Prop) (hw : wp_X8_count V x1 K) : Met l yX8_count wsX8_count rm_X8_count (va_Pc [.ref (ad 0), .int x1] (WPre 13 (cM g ad) ad g V sz)) (va_Qi K (WPost 13 (cM g ad) ad g) (AW ad 13 sz)) 0 0 (AW ad 13 sz) := by
  refine Met.ofW (cc := cX8_count) (maxL := 4) (ret := (some .int)) (by decide) rfl ?_
  intro p e s m args below meth c s₁ B hml hv
  obtain ⟨ha, hv⟩ := hv
  obtain rfl := hv.1
  have hI : WI g 13 (cM g ad) ad V s.heap s.heap [] := WI.start hv
  have hK := hv.2.2.1
  have hE := hv.2.2.2.2
  have hx := B.exec
  have hb := B.bytes
  have hr := B.returns
  have hts := atoms_spec (ws := wsX8_count) B.pre
  have hown : s.vm.findClass RX8 = some m.cls := findClass_of_methodNamed B.named
  have hlocks := B.notSynchronized
  have hw_0 := hts (.fieldLink RX8 144 "HoopLaneModel" "moment" "I") (by decide +kernel)
  have hw_1 := hts (.fieldLink RX8 147 "HoopLaneModel" "undos" "I") (by decide +kernel)
  have hw_2 := hts (.fieldLink RX8 78 "HoopLaneModel" "taped" "I") (by decide +kernel)
  have hw_3 := hts (.constant RX8 64 (-1000001)) (by decide +kernel)
  have hw_4 := hts (.fieldLink RX8 7 "HoopLaneModel" "lanes" "[I") (by decide +kernel)
  have hw_5 := hts (.fieldLink RX8 22 "HoopLaneModel" "lane" "[I") (by decide +kernel)
  have hin8 : ∀ w ∈ wsX80, w ∈ wsX8_count := by decide +kernel
  have hl := lv_entry ([.ref (ad 0), .int x1]) (n := 4) (Nat.le_of_ble_eq_true rfl)
  have hent : entryFrame m args 4 = F0 m 0 ((lg_sl ([.ref (ad 0), .int x1]) ++ List.replicate (4 - (lg_sl ([.ref (ad 0), .int x1])).length) Slot.unset).toArray) [] := by rw [ha, lg_entry_eq]
  rw [hent]
  generalize (lg_sl ([.ref (ad 0), .int x1]) ++ List.replicate (4 - (lg_sl ([.ref (ad 0), .int x1])).length) Slot.unset).toArray = ls at hl ⊢
  have hl : lv_has ls 4 [(0, .ref (ad 0)), (1, .int x1)] := hl
  obtain ⟨H, hH⟩ : ∃ H : Heap, H = s.heap := ⟨_, rfl⟩
  have hb82 : ∀ (V : VT) (H : Heap) (locs : List Loc) (ls : Array Slot) (x1 : Int32), WI g 13 (cM g ad) ad V s.heap H locs → lv_has ls 4 [(0, .ref (ad 0)), (1, .int x1)] → wp_X8_count_b82 K  V x1 → W p l e (headSpec wsX8_count rm_X8_count).room s m args below meth c H locs 0 0 (MQ below (va_Qi K (WPost 13 (cM g ad) ad g) (AW ad 13 s.heap.size)) args s 0 0 (AW ad 13 s.heap.size)) (F0 m 82 ls []) := by
    intro V H locs ls x1  hI hl hw
    refine lv_aload_n hx hb dX8_count_82 rfl (lv_at hl 0 rfl) ?_
    refine mg_5 hx hb hts hin8 hown hK hI hw_5 dX8_count_83 ?_
    refine lv_iload_n hx hb dX8_count_86 rfl (lv_at hl 1 rfl) ?_
    refine lv_iconst (v := (1 : Int32)) hx hb dX8_count_87 (by decide) ?_
    refine lv_isub hx hb dX8_count_88 ?_
    obtain ⟨h12, hw⟩ := hw
    refine x_iald (k := 5) hx hb hK hI (by decide) rfl h12 dX8_count_89 ?_
    exact W.iret (v := (V 5 ((x1 - (1 : Int32))).toNatClampNeg)) hx hb hr (x_reti hI hw) hI.2.2.2.2 dX8_count_90
  have hL4 : ∀ (n4 : Nat) (V : VT) (H : Heap) (locs : List Loc) (ls : Array Slot) (x1 : Int32) (x2 : Int32) (x3 : Int32), WI g 13 (cM g ad) ad V s.heap H locs → lv_has ls 4 [(0, .ref (ad 0)), (1, .int x1), (2, .int x2), (3, .int x3)] → wp_X8_count_L4 K  n4 V x1 x2 x3 → W p l e (headSpec wsX8_count rm_X8_count).room s m args below meth c H locs 0 0 (MQ below (va_Qi K (WPost 13 (cM g ad) ad g) (AW ad 13 s.heap.size)) args s 0 0 (AW ad 13 s.heap.size)) (F0 m 4 ls []) := by
    intro n4
    induction n4 with
    | zero => intro V H locs ls x1 x2 x3  hI hl hw; exact False.elim hw
    | succ n4 ihL4 =>
      have hb25 : ∀ (V : VT) (H : Heap) (locs : List Loc) (ls : Array Slot) (x1 : Int32) (x3 : Int32) (s0 : Int32) (s1 : Int32), WI g 13 (cM g ad) ad V s.heap H locs → lv_has ls 4 [(0, .ref (ad 0)), (1, .int x1), (3, .int x3)] → wp_X8_count_b25 K (wp_X8_count_L4 K  n4) V x1 x3 s0 s1 → W p l e (headSpec wsX8_count rm_X8_count).room s m args below meth c H locs 0 0 (MQ below (va_Qi K (WPost 13 (cM g ad) ad g) (AW ad 13 s.heap.size)) args s 0 0 (AW ad 13 s.heap.size)) (F0 m 25 ls [.int s1, .int s0]) := by
        intro V H locs ls x1 x3 s0 s1  hI hl hw
        refine lv_iadd hx hb dX8_count_25 ?_
        refine lv_istore_n (lv' := [(2, .int (s0 + s1)), (0, .ref (ad 0)), (1, .int x1), (3, .int x3)]) hx hb dX8_count_26 rfl hl (by decide) rfl (fun ls hl => ?_)
        refine lv_iinc (v := (x3 + (1 : Int32))) (lv' := [(3, .int (x3 + (1 : Int32))), (2, .int (s0 + s1)), (0, .ref (ad 0)), (1, .int x1)]) hx hb dX8_count_27 hl (k := 3) rfl rfl (by decide) rfl (fun ls hl => ?_)
        refine lv_goto (tgt := 4) hx hb dX8_count_30 (by decide) ?_
        exact ihL4 V H locs ls x1 (s0 + s1) (x3 + (1 : Int32)) hI (lv_sub hl [2, 3, 1, 0] rfl) hw
      intro V H locs ls x1 x2 x3  hI hl hw
      refine lv_iload_n hx hb dX8_count_4 rfl (lv_at hl 3 rfl) ?_
      refine lv_bipush (v := (8 : Int32)) hx hb dX8_count_5 (by decide) ?_
      refine lv_icmp_ge (tgt := 33) hx hb dX8_count_7 (by decide) (fun c1 => ?_) (fun c1 => ?_)
      · replace hw := hw.1 c1
        refine lv_iload_n hx hb dX8_count_33 rfl (lv_at hl 1 rfl) ?_
        by_cases c2 : x1 = (0 : Int32)
        · replace hw := hw.1 c2
          refine lv_tableIn (off := 46) (tgt := 80) hx hb dX8_count_34 (by rw [c2]; decide) (by rw [c2]; decide) (by rw [c2]; rfl) (by decide) ?_
          refine lv_iload_n hx hb dX8_count_80 rfl (lv_at hl 2 rfl) ?_
          exact W.iret (v := x2) hx hb hr (x_reti hI hw) hI.2.2.2.2 dX8_count_81
        · skip
          by_cases c3 : x1 = (1 : Int32)
          · replace hw := hw.2.1 c3
            refine lv_tableIn (off := 48) (tgt := 82) hx hb dX8_count_34 (by rw [c3]; decide) (by rw [c3]; decide) (by rw [c3]; rfl) (by decide) ?_
            exact hb82 V H locs ls x1 hI (lv_sub hl [0, 1] rfl) hw
          · skip
            by_cases c4 : x1 = (2 : Int32)
            · replace hw := hw.2.2.1 c4
              refine lv_tableIn (off := 48) (tgt := 82) hx hb dX8_count_34 (by rw [c4]; decide) (by rw [c4]; decide) (by rw [c4]; rfl) (by decide) ?_
              exact hb82 V H locs ls x1 hI (lv_sub hl [0, 1] rfl) hw
            · skip
              by_cases c5 : x1 = (3 : Int32)
              · replace hw := hw.2.2.2.1 c5
                refine lv_tableIn (off := 48) (tgt := 82) hx hb dX8_count_34 (by rw [c5]; decide) (by rw [c5]; decide) (by rw [c5]; rfl) (by decide) ?_
                exact hb82 V H locs ls x1 hI (lv_sub hl [0, 1] rfl) hw
              · skip
                by_cases c6 : x1 = (4 : Int32)
                · replace hw := hw.2.2.2.2.1 c6
                  refine lv_tableIn (off := 48) (tgt := 82) hx hb dX8_count_34 (by rw [c6]; decide) (by rw [c6]; decide) (by rw [c6]; rfl) (by decide) ?_
                  exact hb82 V H locs ls x1 hI (lv_sub hl [0, 1] rfl) hw
                · skip
                  by_cases c7 : x1 = (5 : Int32)
                  · replace hw := hw.2.2.2.2.2.1 c7
                    refine lv_tableIn (off := 57) (tgt := 91) hx hb dX8_count_34 (by rw [c7]; decide) (by rw [c7]; decide) (by rw [c7]; rfl) (by decide) ?_
                    refine lv_aload_n hx hb dX8_count_91 rfl (lv_at hl 0 rfl) ?_
                    refine mg_20 hx hb hts hin8 hown hK hI hw_0 dX8_count_92 ?_
                    exact W.iret (v := (V 0 20)) hx hb hr (x_reti hI hw) hI.2.2.2.2 dX8_count_95
                  · skip
                    by_cases c8 : x1 = (6 : Int32)
                    · replace hw := hw.2.2.2.2.2.2.1 c8
                      refine lv_tableIn (off := 62) (tgt := 96) hx hb dX8_count_34 (by rw [c8]; decide) (by rw [c8]; decide) (by rw [c8]; rfl) (by decide) ?_
                      refine lv_aload_n hx hb dX8_count_96 rfl (lv_at hl 0 rfl) ?_
                      refine mg_22 hx hb hts hin8 hown hK hI hw_1 dX8_count_97 ?_
                      exact W.iret (v := (V 0 22)) hx hb hr (x_reti hI hw) hI.2.2.2.2 dX8_count_100
                    · skip
                      by_cases c9 : x1 = (7 : Int32)
                      · replace hw := hw.2.2.2.2.2.2.2.1 c9
                        refine lv_tableIn (off := 67) (tgt := 101) hx hb dX8_count_34 (by rw [c9]; decide) (by rw [c9]; decide) (by rw [c9]; rfl) (by decide) ?_
                        refine lv_aload_n hx hb dX8_count_101 rfl (lv_at hl 0 rfl) ?_
                        refine mg_8 hx hb hts hin8 hown hK hI hw_2 dX8_count_102 ?_
                        exact W.iret (v := (V 0 8)) hx hb hr (x_reti hI hw) hI.2.2.2.2 dX8_count_105
                      · skip
                        replace hw := hw.2.2.2.2.2.2.2.2 c2 c3 c4 c5 c6 c7 c8 c9
                        refine lv_tableOut (tgt := 106) hx hb dX8_count_34 (by have ec2 : ¬ Int32.toInt x1 = 0 := fun h => c2 (Int32.toInt_inj.mp (h.trans (by decide))); have ec3 : ¬ Int32.toInt x1 = 1 := fun h => c3 (Int32.toInt_inj.mp (h.trans (by decide))); have ec4 : ¬ Int32.toInt x1 = 2 := fun h => c4 (Int32.toInt_inj.mp (h.trans (by decide))); have ec5 : ¬ Int32.toInt x1 = 3 := fun h => c5 (Int32.toInt_inj.mp (h.trans (by decide))); have ec6 : ¬ Int32.toInt x1 = 4 := fun h => c6 (Int32.toInt_inj.mp (h.trans (by decide))); have ec7 : ¬ Int32.toInt x1 = 5 := fun h => c7 (Int32.toInt_inj.mp (h.trans (by decide))); have ec8 : ¬ Int32.toInt x1 = 6 := fun h => c8 (Int32.toInt_inj.mp (h.trans (by decide))); have ec9 : ¬ Int32.toInt x1 = 7 := fun h => c9 (Int32.toInt_inj.mp (h.trans (by decide))); omega) (by decide) ?_
                        refine lv_ldc (v := (-1000001 : Int32)) hx hb hown hw_3 dX8_count_106 ?_
                        exact W.iret (v := (-1000001 : Int32)) hx hb hr (x_reti hI hw) hI.2.2.2.2 dX8_count_108
      · replace hw := hw.2 c1
        refine lv_iload_n hx hb dX8_count_10 rfl (lv_at hl 2 rfl) ?_
        refine lv_aload_n hx hb dX8_count_11 rfl (lv_at hl 0 rfl) ?_
        refine mg_0 hx hb hts hin8 hown hK hI hw_4 dX8_count_12 ?_
        refine lv_iload_n hx hb dX8_count_15 rfl (lv_at hl 3 rfl) ?_
        obtain ⟨h10, hw⟩ := hw
        refine x_iald (k := 1) hx hb hK hI (by decide) rfl h10 dX8_count_16 ?_
        refine lv_if_ge (tgt := 24) hx hb dX8_count_17 (by decide) (fun c11 => ?_) (fun c11 => ?_)
        · replace hw := hw.1 c11
          refine lv_iconst (v := (1 : Int32)) hx hb dX8_count_24 (by decide) ?_
          exact hb25 V H locs ls x1 x3 x2 (1 : Int32) hI (lv_sub hl [0, 1, 3] rfl) hw
        · replace hw := hw.2 c11
          refine lv_iconst (v := (0 : Int32)) hx hb dX8_count_20 (by decide) ?_
          refine lv_goto (tgt := 25) hx hb dX8_count_21 (by decide) ?_
          exact hb25 V H locs ls x1 x3 x2 (0 : Int32) hI (lv_sub hl [0, 1, 3] rfl) hw
  have hgo : ∀ (H : Heap) (locs : List Loc), WI g 13 (cM g ad) ad V s.heap H locs → W p l e (headSpec wsX8_count rm_X8_count).room s m args below meth c H locs 0 0 (MQ below (va_Qi K (WPost 13 (cM g ad) ad g) (AW ad 13 s.heap.size)) args s 0 0 (AW ad 13 s.heap.size)) (F0 m 0 ls []) := by
    intro H locs hI
    refine lv_iconst (v := (0 : Int32)) hx hb dX8_count_0 (by decide) ?_
    refine lv_istore_n (lv' := [(2, .int (0 : Int32)), (0, .ref (ad 0)), (1, .int x1)]) hx hb dX8_count_1 rfl hl (by decide) rfl (fun ls hl => ?_)
    refine lv_iconst (v := (0 : Int32)) hx hb dX8_count_2 (by decide) ?_
    refine lv_istore_n (lv' := [(3, .int (0 : Int32)), (2, .int (0 : Int32)), (0, .ref (ad 0)), (1, .int x1)]) hx hb dX8_count_3 rfl hl (by decide) rfl (fun ls hl => ?_)
    obtain ⟨n4, hw⟩ := hw
    exact hL4 n4 V H locs ls x1 (0 : Int32) (0 : Int32) hI (lv_sub hl [2, 3, 1, 0] rfl) hw
  exact hgo s.heap [] hI
def rm_X8_status : Room := { frames := 0, cells := 0, slots := 0, locals := 0 }
set_option maxHeartbeats 4000000 in
set_option maxRecDepth 100000 in
theorem c_X8_status (l : Launch) (g : GP) (ad : Nat → Nat) (sz : Nat) (V : VT)   (K : Int32 → VT → Prop) (hw : wp_X8_status V  K) : Met l yX8_status wsX8_status rm_X8_status (va_Pc [.ref (ad 0)] (WPre 13 (cM g ad) ad g V sz)) (va_Qi K (WPost 13 (cM g ad) ad g) (AW ad 13 sz)) 0 0 (AW ad 13 sz) := by
  refine Met.ofW (cc := cX8_status) (maxL := 1) (ret := (some .int)) (by decide) rfl ?_
  intro p e s m args below meth c s₁ B hml hv
  obtain ⟨ha, hv⟩ := hv
  obtain rfl := hv.1
  have hI : WI g 13 (cM g ad) ad V s.heap s.heap [] := WI.start hv
  have hK := hv.2.2.1
  have hE := hv.2.2.2.2
  have hx := B.exec
  have hb := B.bytes
  have hr := B.returns
  have hts := atoms_spec (ws := wsX8_status) B.pre
  have hown : s.vm.findClass RX8 = some m.cls := findClass_of_methodNamed B.named
  have hlocks := B.notSynchronized
  have hw_0 := hts (.fieldLink RX8 47 "HoopLaneModel" "found" "I") (by decide +kernel)
  have hin8 : ∀ w ∈ wsX80, w ∈ wsX8_status := by decide +kernel
  have hl := lv_entry ([.ref (ad 0)]) (n := 1) (Nat.le_of_ble_eq_true rfl)
  have hent : entryFrame m args 1 = F0 m 0 ((lg_sl ([.ref (ad 0)]) ++ List.replicate (1 - (lg_sl ([.ref (ad 0)])).length) Slot.unset).toArray) [] := by rw [ha, lg_entry_eq]
  rw [hent]
  generalize (lg_sl ([.ref (ad 0)]) ++ List.replicate (1 - (lg_sl ([.ref (ad 0)])).length) Slot.unset).toArray = ls at hl ⊢
  have hl : lv_has ls 1 [(0, .ref (ad 0))] := hl
  obtain ⟨H, hH⟩ : ∃ H : Heap, H = s.heap := ⟨_, rfl⟩
  have hgo : ∀ (H : Heap) (locs : List Loc), WI g 13 (cM g ad) ad V s.heap H locs → W p l e (headSpec wsX8_status rm_X8_status).room s m args below meth c H locs 0 0 (MQ below (va_Qi K (WPost 13 (cM g ad) ad g) (AW ad 13 s.heap.size)) args s 0 0 (AW ad 13 s.heap.size)) (F0 m 0 ls []) := by
    intro H locs hI
    refine lv_aload_n hx hb dX8_status_0 rfl (lv_at hl 0 rfl) ?_
    refine mg_4 hx hb hts hin8 hown hK hI hw_0 dX8_status_1 ?_
    exact W.iret (v := (V 0 4)) hx hb hr (x_reti hI hw) hI.2.2.2.2 dX8_status_4
  exact hgo s.heap [] hI
