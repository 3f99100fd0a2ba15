def rm_X7_trace : Room := { frames := 1, cells := 0, slots := 0, locals := 22 }
set_option maxHeartbeats 4000000 in
set_option maxRecDepth 100000 in
theorem c_X7_trace (l : Launch) (g : GP) (ad : Nat → Nat) (sz : Nat) (V : VT) (x1 : Int32)  (K : Int32 → VT → Prop) (hw : wp_X7_trace V x1 K) : Met l yX7_trace wsX7_trace rm_X7_trace (va_Pc [.ref (ad 0), .int x1] (WPre 76 (cX g ad) ad g V sz)) (va_Qi K (WPost 76 (cX g ad) ad g) (AW ad 76 sz)) 0 0 (AW ad 76 sz) := by
  refine Met.ofW (cc := cX7_trace) (maxL := 2) (ret := (some .int)) (by decide) rfl ?_
  intro p e s m args below meth c s₁ B hml hv
  obtain ⟨ha, hv⟩ := hv
  obtain rfl := hv.1
  have hI : WI g 76 (cX g ad) ad V s.heap s.heap [] := WI.start hv
  have hK := hv.2.2.1
  have hE := hv.2.2.2.2
  have hx := B.exec
  have hb := B.bytes
  have hr := B.returns
  have hts := atoms_spec (ws := wsX7_trace) B.pre
  have hown : s.vm.findClass RX7 = some m.cls := findClass_of_methodNamed B.named
  have hlocks := B.notSynchronized
  have hw_0 := hts (.fieldLink RX7 53 "HoopLane" "asks" "LHoopLane$Asks;") (by decide +kernel)
  have hw_1 := hts (.fieldLink RX7 278 "HoopLane$Asks" "bodies" "I") (by decide +kernel)
  have hw_2 := hts (.fieldLink RX7 281 "HoopLane$Asks" "trace" "[I") (by decide +kernel)
  have hw_3 := hts (.constant RX7 196 (-1000000)) (by decide +kernel)
  have hin7 : ∀ w ∈ wsX70, w ∈ wsX7_trace := by decide +kernel
  have hin1 : ∀ w ∈ wsX10, w ∈ wsX7_trace := by decide +kernel
  have hl := lv_entry ([.ref (ad 0), .int x1]) (n := 2) (Nat.le_of_ble_eq_true rfl)
  have hent : entryFrame m args 2 = F0 m 0 ((lg_sl ([.ref (ad 0), .int x1]) ++ List.replicate (2 - (lg_sl ([.ref (ad 0), .int x1])).length) Slot.unset).toArray) [] := by rw [ha, lg_entry_eq]
  rw [hent]
  generalize (lg_sl ([.ref (ad 0), .int x1]) ++ List.replicate (2 - (lg_sl ([.ref (ad 0), .int x1])).length) Slot.unset).toArray = ls at hl ⊢
  have hl : lv_has ls 2 [(0, .ref (ad 0)), (1, .int x1)] := hl
  obtain ⟨H, hH⟩ : ∃ H : Heap, H = s.heap := ⟨_, rfl⟩
  have hgo : ∀ (H : Heap) (locs : List Loc), WI g 76 (cX g ad) ad V s.heap H locs → W p l e (headSpec wsX7_trace rm_X7_trace).room s m args below meth c H locs 0 0 (MQ below (va_Qi K (WPost 76 (cX g ad) ad g) (AW ad 76 s.heap.size)) args s 0 0 (AW ad 76 s.heap.size)) (F0 m 0 ls []) := by
    intro H locs hI
    refine lv_iload_n hx hb dX7_trace_0 rfl (lv_at hl 1 rfl) ?_
    refine lv_iconst (v := (0 : Int32)) hx hb dX7_trace_1 (by decide) ?_
    refine lv_aload_n hx hb dX7_trace_2 rfl (lv_at hl 0 rfl) ?_
    refine xg7_7 (k := 0) hx hb hts hin7 hown hK hI (by decide) hw_0 dX7_trace_3 ?_
    refine xg1_1 (k := 13) hx hb hts hin1 hown hK hI (by decide) hw_1 dX7_trace_6 ?_
    refine lv_iconst (v := (1 : Int32)) hx hb dX7_trace_9 (by decide) ?_
    refine lv_isub hx hb dX7_trace_10 ?_
    refine x_afti (va_runS (As := [.int x1, .int (0 : Int32), .int ((V 13 1) - (1 : Int32))]) (rest := []) ⟨hx, hb, hml, hown, hts⟩ (c_X7_isOut l g ad H.size V x1 (0 : Int32) ((V 13 1) - (1 : Int32)) _ hw) (cwS 3 hts gX7_trace_X7_isOut rfl rfl rfl (by decide +kernel) ⟨Nat.le_of_ble_eq_true rfl, Nat.le_of_ble_eq_true rfl⟩) (x_preS hK hE hI) rfl rfl hl.1 rfl (lv_room (Nat.le_of_ble_eq_true rfl)) dX7_trace_11 ⟨Nat.zero_le _, Nat.zero_le _⟩) hI (fun r2 V1 H locs hw hI => ?_)
    refine lv_if_eq (tgt := 22) hx hb dX7_trace_14 (by decide) (fun c3 => ?_) (fun c3 => ?_)
    · replace hw := hw.1 c3
      refine lv_aload_n hx hb dX7_trace_22 rfl (lv_at hl 0 rfl) ?_
      refine xg7_7 (k := 0) hx hb hts hin7 hown hK hI (by decide) hw_0 dX7_trace_23 ?_
      refine xg1_0 (k := 13) hx hb hts hin1 hown hK hI (by decide) hw_2 dX7_trace_26 ?_
      refine lv_iload_n hx hb dX7_trace_29 rfl (lv_at hl 1 rfl) ?_
      obtain ⟨h4, hw⟩ := hw
      refine x_iald (k := 14) hx hb hK hI (by decide) (cX_9 (by decide) (by decide)) h4 dX7_trace_30 ?_
      exact W.iret (v := (V1 14 (x1).toNatClampNeg)) hx hb hr (x_reti hI hw) hI.2.2.2.2 dX7_trace_31
    · replace hw := hw.2 c3
      refine lv_ldc (v := (-1000000 : Int32)) hx hb hown hw_3 dX7_trace_17 ?_
      refine lv_goto (tgt := 31) hx hb dX7_trace_19 (by decide) ?_
      exact W.iret (v := (-1000000 : Int32)) hx hb hr (x_reti hI hw) hI.2.2.2.2 dX7_trace_31
  exact hgo s.heap [] hI
def rm_X7_rowsThere : Room := { frames := 1, cells := 0, slots := 0, locals := 20 }
set_option maxHeartbeats 4000000 in
set_option maxRecDepth 100000 in
theorem c_X7_rowsThere (l : Launch) (g : GP) (ad : Nat → Nat) (sz : Nat) (V : VT)   (K : Int32 → VT → Prop) (hw : wp_X7_rowsThere V  K) : Met l yX7_rowsThere wsX7_rowsThere rm_X7_rowsThere (va_Pc [.ref (ad 0)] (WPre 76 (cX g ad) ad g V sz)) (va_Qi K (WPost 76 (cX g ad) ad g) (AW ad 76 sz)) 0 0 (AW ad 76 sz) := by
  refine Met.ofW (cc := cX7_rowsThere) (maxL := 3) (ret := (some .int)) (by decide) rfl ?_
  intro p e s m args below meth c s₁ B hml hv
  obtain ⟨ha, hv⟩ := hv
  obtain rfl := hv.1
  have hI : WI g 76 (cX g ad) ad V s.heap s.heap [] := WI.start hv
  have hK := hv.2.2.1
  have hE := hv.2.2.2.2
  have hx := B.exec
  have hb := B.bytes
  have hr := B.returns
  have hts := atoms_spec (ws := wsX7_rowsThere) B.pre
  have hown : s.vm.findClass RX7 = some m.cls := findClass_of_methodNamed B.named
  have hlocks := B.notSynchronized
  have hw_0 := hts (.fieldLink RX7 11 "HoopLane" "rows" "[LHoopLane$Row;") (by decide +kernel)
  have hin7 : ∀ w ∈ wsX70, w ∈ wsX7_rowsThere := by decide +kernel
  have hl := lv_entry ([.ref (ad 0)]) (n := 3) (Nat.le_of_ble_eq_true rfl)
  have hent : entryFrame m args 3 = F0 m 0 ((lg_sl ([.ref (ad 0)]) ++ List.replicate (3 - (lg_sl ([.ref (ad 0)])).length) Slot.unset).toArray) [] := by rw [ha, lg_entry_eq]
  rw [hent]
  generalize (lg_sl ([.ref (ad 0)]) ++ List.replicate (3 - (lg_sl ([.ref (ad 0)])).length) Slot.unset).toArray = ls at hl ⊢
  have hl : lv_has ls 3 [(0, .ref (ad 0))] := hl
  obtain ⟨H, hH⟩ : ∃ H : Heap, H = s.heap := ⟨_, rfl⟩
  have hL4 : ∀ (n4 : Nat) (V : VT) (H : Heap) (locs : List Loc) (ls : Array Slot) (x1 : Int32) (x2 : Int32), WI g 76 (cX g ad) ad V s.heap H locs → lv_has ls 3 [(0, .ref (ad 0)), (1, .int x1), (2, .int x2)] → wp_X7_rowsThere_L4 K  n4 V x1 x2 → W p l e (headSpec wsX7_rowsThere rm_X7_rowsThere).room s m args below meth c H locs 0 0 (MQ below (va_Qi K (WPost 76 (cX g ad) ad g) (AW ad 76 s.heap.size)) args s 0 0 (AW ad 76 s.heap.size)) (F0 m 4 ls []) := by
    intro n4
    induction n4 with
    | zero => intro V H locs ls x1 x2  hI hl hw; exact False.elim hw
    | succ n4 ihL4 =>
      have hb25 : ∀ (V : VT) (H : Heap) (locs : List Loc) (ls : Array Slot) (x1 : Int32) (x2 : Int32), WI g 76 (cX g ad) ad V s.heap H locs → lv_has ls 3 [(0, .ref (ad 0)), (1, .int x1), (2, .int x2)] → wp_X7_rowsThere_b25 K (wp_X7_rowsThere_L4 K  n4) V x1 x2 → W p l e (headSpec wsX7_rowsThere rm_X7_rowsThere).room s m args below meth c H locs 0 0 (MQ below (va_Qi K (WPost 76 (cX g ad) ad g) (AW ad 76 s.heap.size)) args s 0 0 (AW ad 76 s.heap.size)) (F0 m 25 ls []) := by
        intro V H locs ls x1 x2  hI hl hw
        refine lv_iinc (v := (x2 + (1 : Int32))) (lv' := [(2, .int (x2 + (1 : Int32))), (0, .ref (ad 0)), (1, .int x1)]) hx hb dX7_rowsThere_25 hl (k := 2) rfl rfl (by decide) rfl (fun ls hl => ?_)
        refine lv_goto (tgt := 4) hx hb dX7_rowsThere_28 (by decide) ?_
        exact ihL4 V H locs ls x1 (x2 + (1 : Int32)) hI (lv_sub hl [1, 2, 0] rfl) hw
      intro V H locs ls x1 x2  hI hl hw
      refine lv_iload_n hx hb dX7_rowsThere_4 rfl (lv_at hl 2 rfl) ?_
      refine lv_bipush (v := (8 : Int32)) hx hb dX7_rowsThere_5 (by decide) ?_
      refine lv_icmp_ge (tgt := 31) hx hb dX7_rowsThere_7 (by decide) (fun c1 => ?_) (fun c1 => ?_)
      · replace hw := hw.1 c1
        refine lv_iload_n hx hb dX7_rowsThere_31 rfl (lv_at hl 1 rfl) ?_
        exact W.iret (v := x1) hx hb hr (x_reti hI hw) hI.2.2.2.2 dX7_rowsThere_32
      · replace hw := hw.2 c1
        refine lv_aload_n hx hb dX7_rowsThere_10 rfl (lv_at hl 0 rfl) ?_
        refine xg7_0 (k := 0) hx hb hts hin7 hown hK hI (by decide) hw_0 dX7_rowsThere_11 ?_
        refine lv_iload_n hx hb dX7_rowsThere_14 rfl (lv_at hl 2 rfl) ?_
        obtain ⟨h2, hw⟩ := hw
        refine x_aald (k := 1) (n := 8) (q := ad (36 + 2 * (x2).toNatClampNeg)) hx hb hK hI (by decide) 4 rfl rfl h2 rfl dX7_rowsThere_15 ?_
        refine x_afti (va_runV (As := []) (rest := []) ⟨hx, hb, hml, hown, hts⟩ (c_X5_isMissing l g ad H.size V (36 + 2 * (x2).toNatClampNeg) (kX_at13 h2) _ hw) (cwV 0 hts gX7_rowsThere_X5_isMissing rfl rfl rfl (by decide +kernel) ⟨Nat.le_of_ble_eq_true rfl, Nat.le_of_ble_eq_true rfl⟩) (x_preV (k := (36 + 2 * (x2).toNatClampNeg)) hK hE hI (kX_lt (kX_at13 h2) (by decide)) (cX_5 (kX_at13 h2)) rfl) rfl rfl hl.1 rfl (lv_room (Nat.le_of_ble_eq_true rfl)) dX7_rowsThere_16 ⟨Nat.zero_le _, Nat.zero_le _⟩) hI (fun r4 V3 H locs hw hI => ?_)
        refine lv_if_ne (tgt := 25) hx hb dX7_rowsThere_19 (by decide) (fun c5 => ?_) (fun c5 => ?_)
        · replace hw := hw.1 c5
          exact hb25 V3 H locs ls x1 x2 hI (lv_sub hl [0, 1, 2] rfl) hw
        · replace hw := hw.2 c5
          refine lv_iinc (v := (x1 + (1 : Int32))) (lv' := [(1, .int (x1 + (1 : Int32))), (0, .ref (ad 0)), (2, .int x2)]) hx hb dX7_rowsThere_22 hl (k := 1) rfl rfl (by decide) rfl (fun ls hl => ?_)
          exact hb25 V3 H locs ls (x1 + (1 : Int32)) x2 hI (lv_sub hl [1, 0, 2] rfl) hw
  have hgo : ∀ (H : Heap) (locs : List Loc), WI g 76 (cX g ad) ad V s.heap H locs → W p l e (headSpec wsX7_rowsThere rm_X7_rowsThere).room s m args below meth c H locs 0 0 (MQ below (va_Qi K (WPost 76 (cX g ad) ad g) (AW ad 76 s.heap.size)) args s 0 0 (AW ad 76 s.heap.size)) (F0 m 0 ls []) := by
    intro H locs hI
    refine lv_iconst (v := (0 : Int32)) hx hb dX7_rowsThere_0 (by decide) ?_
    refine lv_istore_n (lv' := [(1, .int (0 : Int32)), (0, .ref (ad 0))]) hx hb dX7_rowsThere_1 rfl hl (by decide) rfl (fun ls hl => ?_)
    refine lv_iconst (v := (0 : Int32)) hx hb dX7_rowsThere_2 (by decide) ?_
    refine lv_istore_n (lv' := [(2, .int (0 : Int32)), (1, .int (0 : Int32)), (0, .ref (ad 0))]) hx hb dX7_rowsThere_3 rfl hl (by decide) rfl (fun ls hl => ?_)
    obtain ⟨n4, hw⟩ := hw
    exact hL4 n4 V H locs ls (0 : Int32) (0 : Int32) hI (lv_sub hl [2, 1, 0] rfl) hw
  exact hgo s.heap [] hI
def rm_X7_count : Room := { frames := 2, cells := 0, slots := 0, locals := 42 }
set_option maxHeartbeats 4000000 in
set_option maxRecDepth 100000 in
theorem c_X7_count (l : Launch) (g : GP) (ad : Nat → Nat) (sz : Nat) (V : VT) (x1 : Int32)  (K : Int32 → VT → Prop) (hw : wp_X7_count V x1 K) : Met l yX7_count wsX7_count rm_X7_count (va_Pc [.ref (ad 0), .int x1] (WPre 76 (cX g ad) ad g V sz)) (va_Qi K (WPost 76 (cX g ad) ad g) (AW ad 76 sz)) 0 0 (AW ad 76 sz) := by
  refine Met.ofW (cc := cX7_count) (maxL := 2) (ret := (some .int)) (by decide) rfl ?_
  intro p e s m args below meth c s₁ B hml hv
  obtain ⟨ha, hv⟩ := hv
  obtain rfl := hv.1
  have hI : WI g 76 (cX g ad) ad V s.heap s.heap [] := WI.start hv
  have hK := hv.2.2.1
  have hE := hv.2.2.2.2
  have hx := B.exec
  have hb := B.bytes
  have hr := B.returns
  have hts := atoms_spec (ws := wsX7_count) B.pre
  have hown : s.vm.findClass RX7 = some m.cls := findClass_of_methodNamed B.named
  have hlocks := B.notSynchronized
  have hw_0 := hts (.fieldLink RX7 22 "HoopLane" "lane" "LHoopLane$Lane;") (by decide +kernel)
  have hw_1 := hts (.fieldLink RX7 173 "HoopLane$Lane" "yards" "I") (by decide +kernel)
  have hw_2 := hts (.fieldLink RX7 134 "HoopLane$Lane" "taps" "I") (by decide +kernel)
  have hw_3 := hts (.fieldLink RX7 176 "HoopLane$Lane" "holds" "I") (by decide +kernel)
  have hw_4 := hts (.fieldLink RX7 287 "HoopLane$Lane" "drag" "I") (by decide +kernel)
  have hw_5 := hts (.fieldLink RX7 153 "HoopLane$Lane" "moment" "I") (by decide +kernel)
  have hw_6 := hts (.fieldLink RX7 39 "HoopLane" "acts" "LHoopLane$Acts;") (by decide +kernel)
  have hw_7 := hts (.fieldLink RX7 137 "HoopLane$Acts" "count" "I") (by decide +kernel)
  have hw_8 := hts (.fieldLink RX7 32 "HoopLane" "tape" "LHoopLane$Tape;") (by decide +kernel)
  have hw_9 := hts (.fieldLink RX7 116 "HoopLane$Tape" "size" "I") (by decide +kernel)
  have hw_10 := hts (.constant RX7 76 (-1000001)) (by decide +kernel)
  have hin7 : ∀ w ∈ wsX70, w ∈ wsX7_count := by decide +kernel
  have hin3 : ∀ w ∈ wsX30, w ∈ wsX7_count := by decide +kernel
  have hin0 : ∀ w ∈ wsX00, w ∈ wsX7_count := by decide +kernel
  have hin6 : ∀ w ∈ wsX60, w ∈ wsX7_count := by decide +kernel
  have hl := lv_entry ([.ref (ad 0), .int x1]) (n := 2) (Nat.le_of_ble_eq_true rfl)
  have hent : entryFrame m args 2 = F0 m 0 ((lg_sl ([.ref (ad 0), .int x1]) ++ List.replicate (2 - (lg_sl ([.ref (ad 0), .int x1])).length) Slot.unset).toArray) [] := by rw [ha, lg_entry_eq]
  rw [hent]
  generalize (lg_sl ([.ref (ad 0), .int x1]) ++ List.replicate (2 - (lg_sl ([.ref (ad 0), .int x1])).length) Slot.unset).toArray = ls at hl ⊢
  have hl : lv_has ls 2 [(0, .ref (ad 0)), (1, .int x1)] := hl
  obtain ⟨H, hH⟩ : ∃ H : Heap, H = s.heap := ⟨_, rfl⟩
  have hgo : ∀ (H : Heap) (locs : List Loc), WI g 76 (cX g ad) ad V s.heap H locs → W p l e (headSpec wsX7_count rm_X7_count).room s m args below meth c H locs 0 0 (MQ below (va_Qi K (WPost 76 (cX g ad) ad g) (AW ad 76 s.heap.size)) args s 0 0 (AW ad 76 s.heap.size)) (F0 m 0 ls []) := by
    intro H locs hI
    refine lv_iload_n hx hb dX7_count_0 rfl (lv_at hl 1 rfl) ?_
    by_cases c1 : x1 = (0 : Int32)
    · replace hw := hw.1 c1
      refine lv_tableIn (off := 47) (tgt := 48) hx hb dX7_count_1 (by rw [c1]; decide) (by rw [c1]; decide) (by rw [c1]; rfl) (by decide) ?_
      refine lv_aload_n hx hb dX7_count_48 rfl (lv_at hl 0 rfl) ?_
      refine x_afti (va_runV (As := []) (rest := []) ⟨hx, hb, hml, hown, hts⟩ (c_X7_rowsThere l g ad H.size V  _ hw) (cwV 0 hts gX7_count_X7_rowsThere rfl rfl rfl (by decide +kernel) ⟨Nat.le_of_ble_eq_true rfl, Nat.le_of_ble_eq_true rfl⟩) (x_preV (k := 0) hK hE hI (by decide) (cX_7 (by decide)) rfl) rfl rfl hl.1 rfl (lv_room (Nat.le_of_ble_eq_true rfl)) dX7_count_49 ⟨Nat.zero_le _, Nat.zero_le _⟩) hI (fun r3 V2 H locs hw hI => ?_)
      exact W.iret (v := r3) hx hb hr (x_reti hI hw) hI.2.2.2.2 dX7_count_52
    · skip
      by_cases c4 : x1 = (1 : Int32)
      · replace hw := hw.2.1 c4
        refine lv_tableIn (off := 52) (tgt := 53) hx hb dX7_count_1 (by rw [c4]; decide) (by rw [c4]; decide) (by rw [c4]; rfl) (by decide) ?_
        refine lv_aload_n hx hb dX7_count_53 rfl (lv_at hl 0 rfl) ?_
        refine xg7_2 (k := 0) hx hb hts hin7 hown hK hI (by decide) hw_0 dX7_count_54 ?_
        refine xg3_4 (k := 16) hx hb hts hin3 hown hK hI (by decide) hw_1 dX7_count_57 ?_
        exact W.iret (v := (V 16 4)) hx hb hr (x_reti hI hw) hI.2.2.2.2 dX7_count_60
      · skip
        by_cases c5 : x1 = (2 : Int32)
        · replace hw := hw.2.2.1 c5
          refine lv_tableIn (off := 60) (tgt := 61) hx hb dX7_count_1 (by rw [c5]; decide) (by rw [c5]; decide) (by rw [c5]; rfl) (by decide) ?_
          refine lv_aload_n hx hb dX7_count_61 rfl (lv_at hl 0 rfl) ?_
          refine xg7_2 (k := 0) hx hb hts hin7 hown hK hI (by decide) hw_0 dX7_count_62 ?_
          refine xg3_5 (k := 16) hx hb hts hin3 hown hK hI (by decide) hw_2 dX7_count_65 ?_
          exact W.iret (v := (V 16 5)) hx hb hr (x_reti hI hw) hI.2.2.2.2 dX7_count_68
        · skip
          by_cases c6 : x1 = (3 : Int32)
          · replace hw := hw.2.2.2.1 c6
            refine lv_tableIn (off := 68) (tgt := 69) hx hb dX7_count_1 (by rw [c6]; decide) (by rw [c6]; decide) (by rw [c6]; rfl) (by decide) ?_
            refine lv_aload_n hx hb dX7_count_69 rfl (lv_at hl 0 rfl) ?_
            refine xg7_2 (k := 0) hx hb hts hin7 hown hK hI (by decide) hw_0 dX7_count_70 ?_
            refine xg3_6 (k := 16) hx hb hts hin3 hown hK hI (by decide) hw_3 dX7_count_73 ?_
            exact W.iret (v := (V 16 6)) hx hb hr (x_reti hI hw) hI.2.2.2.2 dX7_count_76
          · skip
            by_cases c7 : x1 = (4 : Int32)
            · replace hw := hw.2.2.2.2.1 c7
              refine lv_tableIn (off := 76) (tgt := 77) hx hb dX7_count_1 (by rw [c7]; decide) (by rw [c7]; decide) (by rw [c7]; rfl) (by decide) ?_
              refine lv_aload_n hx hb dX7_count_77 rfl (lv_at hl 0 rfl) ?_
              refine xg7_2 (k := 0) hx hb hts hin7 hown hK hI (by decide) hw_0 dX7_count_78 ?_
              refine xg3_7 (k := 16) hx hb hts hin3 hown hK hI (by decide) hw_4 dX7_count_81 ?_
              exact W.iret (v := (V 16 7)) hx hb hr (x_reti hI hw) hI.2.2.2.2 dX7_count_84
            · skip
              by_cases c8 : x1 = (5 : Int32)
              · replace hw := hw.2.2.2.2.2.1 c8
                refine lv_tableIn (off := 84) (tgt := 85) hx hb dX7_count_1 (by rw [c8]; decide) (by rw [c8]; decide) (by rw [c8]; rfl) (by decide) ?_
                refine lv_aload_n hx hb dX7_count_85 rfl (lv_at hl 0 rfl) ?_
                refine xg7_2 (k := 0) hx hb hts hin7 hown hK hI (by decide) hw_0 dX7_count_86 ?_
                refine xg3_8 (k := 16) hx hb hts hin3 hown hK hI (by decide) hw_5 dX7_count_89 ?_
                exact W.iret (v := (V 16 8)) hx hb hr (x_reti hI hw) hI.2.2.2.2 dX7_count_92
              · skip
                by_cases c9 : x1 = (6 : Int32)
                · replace hw := hw.2.2.2.2.2.2.1 c9
                  refine lv_tableIn (off := 92) (tgt := 93) hx hb dX7_count_1 (by rw [c9]; decide) (by rw [c9]; decide) (by rw [c9]; rfl) (by decide) ?_
                  refine lv_aload_n hx hb dX7_count_93 rfl (lv_at hl 0 rfl) ?_
                  refine xg7_5 (k := 0) hx hb hts hin7 hown hK hI (by decide) hw_6 dX7_count_94 ?_
                  refine xg0_5 (k := 5) hx hb hts hin0 hown hK hI (by decide) hw_7 dX7_count_97 ?_
                  exact W.iret (v := (V 5 5)) hx hb hr (x_reti hI hw) hI.2.2.2.2 dX7_count_100
                · skip
                  by_cases c10 : x1 = (7 : Int32)
                  · replace hw := hw.2.2.2.2.2.2.2.1 c10
                    refine lv_tableIn (off := 100) (tgt := 101) hx hb dX7_count_1 (by rw [c10]; decide) (by rw [c10]; decide) (by rw [c10]; rfl) (by decide) ?_
                    refine lv_aload_n hx hb dX7_count_101 rfl (lv_at hl 0 rfl) ?_
                    refine xg7_4 (k := 0) hx hb hts hin7 hown hK hI (by decide) hw_8 dX7_count_102 ?_
                    refine xg6_1 (k := 3) hx hb hts hin6 hown hK hI (by decide) hw_9 dX7_count_105 ?_
                    exact W.iret (v := (V 3 1)) hx hb hr (x_reti hI hw) hI.2.2.2.2 dX7_count_108
                  · skip
                    replace hw := hw.2.2.2.2.2.2.2.2 c1 c4 c5 c6 c7 c8 c9 c10
                    refine lv_tableOut (tgt := 109) hx hb dX7_count_1 (by have ec1 : ¬ Int32.toInt x1 = 0 := fun h => c1 (Int32.toInt_inj.mp (h.trans (by decide))); have ec4 : ¬ Int32.toInt x1 = 1 := fun h => c4 (Int32.toInt_inj.mp (h.trans (by decide))); have ec5 : ¬ Int32.toInt x1 = 2 := fun h => c5 (Int32.toInt_inj.mp (h.trans (by decide))); have ec6 : ¬ Int32.toInt x1 = 3 := fun h => c6 (Int32.toInt_inj.mp (h.trans (by decide))); have ec7 : ¬ Int32.toInt x1 = 4 := fun h => c7 (Int32.toInt_inj.mp (h.trans (by decide))); have ec8 : ¬ Int32.toInt x1 = 5 := fun h => c8 (Int32.toInt_inj.mp (h.trans (by decide))); have ec9 : ¬ Int32.toInt x1 = 6 := fun h => c9 (Int32.toInt_inj.mp (h.trans (by decide))); have ec10 : ¬ Int32.toInt x1 = 7 := fun h => c10 (Int32.toInt_inj.mp (h.trans (by decide))); omega) (by decide) ?_
                    refine lv_ldc (v := (-1000001 : Int32)) hx hb hown hw_10 dX7_count_109 ?_
                    exact W.iret (v := (-1000001 : Int32)) hx hb hr (x_reti hI hw) hI.2.2.2.2 dX7_count_111
  exact hgo s.heap [] hI
def rm_X7_status : Room := { frames := 0, cells := 0, slots := 0, locals := 0 }
set_option maxHeartbeats 4000000 in
set_option maxRecDepth 100000 in
theorem c_X7_status (l : Launch) (g : GP) (ad : Nat → Nat) (sz : Nat) (V : VT)   (K : Int32 → VT → Prop) (hw : wp_X7_status V  K) : Met l yX7_status wsX7_status rm_X7_status (va_Pc [.ref (ad 0)] (WPre 76 (cX g ad) ad g V sz)) (va_Qi K (WPost 76 (cX g ad) ad g) (AW ad 76 sz)) 0 0 (AW ad 76 sz) := by
  refine Met.ofW (cc := cX7_status) (maxL := 1) (ret := (some .int)) (by decide) rfl ?_
  intro p e s m args below meth c s₁ B hml hv
  obtain ⟨ha, hv⟩ := hv
  obtain rfl := hv.1
  have hI : WI g 76 (cX g ad) ad V s.heap s.heap [] := WI.start hv
  have hK := hv.2.2.1
  have hE := hv.2.2.2.2
  have hx := B.exec
  have hb := B.bytes
  have hr := B.returns
  have hts := atoms_spec (ws := wsX7_status) B.pre
  have hown : s.vm.findClass RX7 = some m.cls := findClass_of_methodNamed B.named
  have hlocks := B.notSynchronized
  have hw_0 := hts (.fieldLink RX7 68 "HoopLane" "status" "I") (by decide +kernel)
  have hin7 : ∀ w ∈ wsX70, w ∈ wsX7_status := by decide +kernel
  have hl := lv_entry ([.ref (ad 0)]) (n := 1) (Nat.le_of_ble_eq_true rfl)
  have hent : entryFrame m args 1 = F0 m 0 ((lg_sl ([.ref (ad 0)]) ++ List.replicate (1 - (lg_sl ([.ref (ad 0)])).length) Slot.unset).toArray) [] := by rw [ha, lg_entry_eq]
  rw [hent]
  generalize (lg_sl ([.ref (ad 0)]) ++ List.replicate (1 - (lg_sl ([.ref (ad 0)])).length) Slot.unset).toArray = ls at hl ⊢
  have hl : lv_has ls 1 [(0, .ref (ad 0))] := hl
  obtain ⟨H, hH⟩ : ∃ H : Heap, H = s.heap := ⟨_, rfl⟩
  have hgo : ∀ (H : Heap) (locs : List Loc), WI g 76 (cX g ad) ad V s.heap H locs → W p l e (headSpec wsX7_status rm_X7_status).room s m args below meth c H locs 0 0 (MQ below (va_Qi K (WPost 76 (cX g ad) ad g) (AW ad 76 s.heap.size)) args s 0 0 (AW ad 76 s.heap.size)) (F0 m 0 ls []) := by
    intro H locs hI
    refine lv_aload_n hx hb dX7_status_0 rfl (lv_at hl 0 rfl) ?_
    refine xg7_10 (k := 0) hx hb hts hin7 hown hK hI (by decide) hw_0 dX7_status_1 ?_
    exact W.iret (v := (V 0 10)) hx hb hr (x_reti hI hw) hI.2.2.2.2 dX7_status_4
  exact hgo s.heap [] hI
def rm_X8_in : Room := { frames := 0, cells := 0, slots := 0, locals := 0 }
set_option maxHeartbeats 4000000 in
set_option maxRecDepth 100000 in
theorem c_X8_in (l : Launch) (g : GP) (ad : Nat → Nat) (sz : Nat) (V : VT) (y0 : Int64) (y2 : Int64) (y4 : Int64)  (K : Int32 → VT → Prop) (hw : wp_X8_in V y0 y2 y4 K) : Met l yX8_in wsX8_in rm_X8_in (va_Pc [.long y0, .long y2, .long y4] (WPre 13 (cM g ad) ad g V sz)) (va_Qi K (WPost 13 (cM g ad) ad g) (AW ad 13 sz)) 0 0 (AW ad 13 sz) := by
  refine Met.ofW (cc := cX8_in) (maxL := 6) (ret := (some .boolean)) (by decide) rfl ?_
  intro p e s m args below meth c s₁ B hml hv
  obtain ⟨ha, hv⟩ := hv
  obtain rfl := hv.1
  have hI : WI g 13 (cM g ad) ad V s.heap s.heap [] := WI.start hv
  have hK := hv.2.2.1
  have hE := hv.2.2.2.2
  have hx := B.exec
  have hb := B.bytes
  have hr := B.returns
  have hts := atoms_spec (ws := wsX8_in) B.pre
  have hown : s.vm.findClass RX8 = some m.cls := findClass_of_methodNamed B.named
  have hlocks := B.notSynchronized
  have hl := lv_entry ([.long y0, .long y2, .long y4]) (n := 6) (Nat.le_of_ble_eq_true rfl)
  have hent : entryFrame m args 6 = F0 m 0 ((lg_sl ([.long y0, .long y2, .long y4]) ++ List.replicate (6 - (lg_sl ([.long y0, .long y2, .long y4])).length) Slot.unset).toArray) [] := by rw [ha, lg_entry_eq]
  rw [hent]
  generalize (lg_sl ([.long y0, .long y2, .long y4]) ++ List.replicate (6 - (lg_sl ([.long y0, .long y2, .long y4])).length) Slot.unset).toArray = ls at hl ⊢
  have hl : lv_has ls 6 [(0, .long y0), (2, .long y2), (4, .long y4)] := hl
  obtain ⟨H, hH⟩ : ∃ H : Heap, H = s.heap := ⟨_, rfl⟩
  have hgo : ∀ (H : Heap) (locs : List Loc), WI g 13 (cM g ad) ad V s.heap H locs → W p l e (headSpec wsX8_in rm_X8_in).room s m args below meth c H locs 0 0 (MQ below (va_Qi K (WPost 13 (cM g ad) ad g) (AW ad 13 s.heap.size)) args s 0 0 (AW ad 13 s.heap.size)) (F0 m 0 ls []) := by
    intro H locs hI
    refine lv_lload_n hx hb dX8_in_0 rfl (lv_at hl 0 rfl) ?_
    refine lv_lload_n hx hb dX8_in_1 rfl (lv_at hl 1 rfl) ?_
    refine W.lcmp hx hb dX8_in_2 ?_
    refine lv_if_lt (tgt := 17) hx hb dX8_in_3 (by decide) (fun c1 => ?_) (fun c1 => ?_)
    · replace hw := hw.1 c1
      refine lv_iconst (v := (0 : Int32)) hx hb dX8_in_17 (by decide) ?_
      exact W.zret (v := (0 : Int32)) hx hb hr rfl (x_reti hI hw) hI.2.2.2.2 dX8_in_18
    · replace hw := hw.2 c1
      refine lv_lload_n hx hb dX8_in_6 rfl (lv_at hl 0 rfl) ?_
      refine lv_lload hx hb dX8_in_7 (lv_at hl 2 rfl) ?_
      refine W.lcmp hx hb dX8_in_9 ?_
      refine lv_if_gt (tgt := 17) hx hb dX8_in_10 (by decide) (fun c2 => ?_) (fun c2 => ?_)
      · replace hw := hw.1 c2
        refine lv_iconst (v := (0 : Int32)) hx hb dX8_in_17 (by decide) ?_
        exact W.zret (v := (0 : Int32)) hx hb hr rfl (x_reti hI hw) hI.2.2.2.2 dX8_in_18
      · replace hw := hw.2 c2
        refine lv_iconst (v := (1 : Int32)) hx hb dX8_in_13 (by decide) ?_
        refine lv_goto (tgt := 18) hx hb dX8_in_14 (by decide) ?_
        exact W.zret (v := (1 : Int32)) hx hb hr rfl (x_reti hI hw) hI.2.2.2.2 dX8_in_18
  exact hgo s.heap [] hI
def rm_X8_finds : Room := { frames := 0, cells := 0, slots := 0, locals := 0 }
set_option maxHeartbeats 4000000 in
set_option maxRecDepth 100000 in
theorem c_X8_finds (l : Launch) (g : GP) (ad : Nat → Nat) (sz : Nat) (V : VT) (x1 : Int32)  (K : Int32 → VT → Prop) (hw : wp_X8_finds V x1 K) : Met l yX8_finds wsX8_finds rm_X8_finds (va_Pc [.ref (ad 0), .int x1] (WPre 13 (cM g ad) ad g V sz)) (va_Qi K (WPost 13 (cM g ad) ad g) (AW ad 13 sz)) 0 0 (AW ad 13 sz) := by
  refine Met.ofW (cc := cX8_finds) (maxL := 2) (ret := (some .int)) (by decide) rfl ?_
  intro p e s m args below meth c s₁ B hml hv
  obtain ⟨ha, hv⟩ := hv
  obtain rfl := hv.1
  have hI : WI g 13 (cM g ad) ad V s.heap s.heap [] := WI.start hv
  have hK := hv.2.2.1
  have hE := hv.2.2.2.2
  have hx := B.exec
  have hb := B.bytes
  have hr := B.returns
  have hts := atoms_spec (ws := wsX8_finds) B.pre
  have hown : s.vm.findClass RX8 = some m.cls := findClass_of_methodNamed B.named
  have hlocks := B.notSynchronized
  have hw_0 := hts (.fieldLink RX8 47 "HoopLaneModel" "found" "I") (by decide +kernel)
  have hw_1 := hts (.constant RX8 51 (-1000010)) (by decide +kernel)
  have hin8 : ∀ w ∈ wsX80, w ∈ wsX8_finds := by decide +kernel
  have hl := lv_entry ([.ref (ad 0), .int x1]) (n := 2) (Nat.le_of_ble_eq_true rfl)
  have hent : entryFrame m args 2 = F0 m 0 ((lg_sl ([.ref (ad 0), .int x1]) ++ List.replicate (2 - (lg_sl ([.ref (ad 0), .int x1])).length) Slot.unset).toArray) [] := by rw [ha, lg_entry_eq]
  rw [hent]
  generalize (lg_sl ([.ref (ad 0), .int x1]) ++ List.replicate (2 - (lg_sl ([.ref (ad 0), .int x1])).length) Slot.unset).toArray = ls at hl ⊢
  have hl : lv_has ls 2 [(0, .ref (ad 0)), (1, .int x1)] := hl
  obtain ⟨H, hH⟩ : ∃ H : Heap, H = s.heap := ⟨_, rfl⟩
  have hgo : ∀ (H : Heap) (locs : List Loc), WI g 13 (cM g ad) ad V s.heap H locs → W p l e (headSpec wsX8_finds rm_X8_finds).room s m args below meth c H locs 0 0 (MQ below (va_Qi K (WPost 13 (cM g ad) ad g) (AW ad 13 s.heap.size)) args s 0 0 (AW ad 13 s.heap.size)) (F0 m 0 ls []) := by
    intro H locs hI
    refine lv_aload_n hx hb dX8_finds_0 rfl (lv_at hl 0 rfl) ?_
    refine lv_iload_n hx hb dX8_finds_1 rfl (lv_at hl 1 rfl) ?_
    refine mp_4 hx hb hts hin8 hown hK hI hw_0 dX8_finds_2 (fun V1 H locs eV1 hI => ?_)
    replace hw := hw V1 eV1
    refine lv_ldc (v := (-1000010 : Int32)) hx hb hown hw_1 dX8_finds_5 ?_
    refine lv_iload_n hx hb dX8_finds_7 rfl (lv_at hl 1 rfl) ?_
    refine lv_isub hx hb dX8_finds_8 ?_
    exact W.iret (v := ((-1000010 : Int32) - x1)) hx hb hr (x_reti hI hw) hI.2.2.2.2 dX8_finds_9
  exact hgo s.heap [] hI
def rm_X8_well : Room := { frames := 0, cells := 0, slots := 0, locals := 0 }
set_option maxHeartbeats 4000000 in
set_option maxRecDepth 100000 in
theorem c_X8_well (l : Launch) (g : GP) (ad : Nat → Nat) (sz : Nat) (V : VT) (x1 : Int32)  (K : Int32 → VT → Prop) (hw : wp_X8_well V x1 K) : Met l yX8_well wsX8_well rm_X8_well (va_Pc [.ref (ad 0), .int x1] (WPre 13 (cM g ad) ad g V sz)) (va_Qi K (WPost 13 (cM g ad) ad g) (AW ad 13 sz)) 0 0 (AW ad 13 sz) := by
  refine Met.ofW (cc := cX8_well) (maxL := 2) (ret := (some .int)) (by decide) rfl ?_
  intro p e s m args below meth c s₁ B hml hv
  obtain ⟨ha, hv⟩ := hv
  obtain rfl := hv.1
  have hI : WI g 13 (cM g ad) ad V s.heap s.heap [] := WI.start hv
  have hK := hv.2.2.1
  have hE := hv.2.2.2.2
  have hx := B.exec
  have hb := B.bytes
  have hr := B.returns
  have hts := atoms_spec (ws := wsX8_well) B.pre
  have hown : s.vm.findClass RX8 = some m.cls := findClass_of_methodNamed B.named
  have hlocks := B.notSynchronized
  have hw_0 := hts (.fieldLink RX8 47 "HoopLaneModel" "found" "I") (by decide +kernel)
  have hin8 : ∀ w ∈ wsX80, w ∈ wsX8_well := by decide +kernel
  have hl := lv_entry ([.ref (ad 0), .int x1]) (n := 2) (Nat.le_of_ble_eq_true rfl)
  have hent : entryFrame m args 2 = F0 m 0 ((lg_sl ([.ref (ad 0), .int x1]) ++ List.replicate (2 - (lg_sl ([.ref (ad 0), .int x1])).length) Slot.unset).toArray) [] := by rw [ha, lg_entry_eq]
  rw [hent]
  generalize (lg_sl ([.ref (ad 0), .int x1]) ++ List.replicate (2 - (lg_sl ([.ref (ad 0), .int x1])).length) Slot.unset).toArray = ls at hl ⊢
  have hl : lv_has ls 2 [(0, .ref (ad 0)), (1, .int x1)] := hl
  obtain ⟨H, hH⟩ : ∃ H : Heap, H = s.heap := ⟨_, rfl⟩
  have hgo : ∀ (H : Heap) (locs : List Loc), WI g 13 (cM g ad) ad V s.heap H locs → W p l e (headSpec wsX8_well rm_X8_well).room s m args below meth c H locs 0 0 (MQ below (va_Qi K (WPost 13 (cM g ad) ad g) (AW ad 13 s.heap.size)) args s 0 0 (AW ad 13 s.heap.size)) (F0 m 0 ls []) := by
    intro H locs hI
    refine lv_aload_n hx hb dX8_well_0 rfl (lv_at hl 0 rfl) ?_
    refine lv_iconst (v := (0 : Int32)) hx hb dX8_well_1 (by decide) ?_
    refine mp_4 hx hb hts hin8 hown hK hI hw_0 dX8_well_2 (fun V1 H locs eV1 hI => ?_)
    replace hw := hw V1 eV1
    refine lv_iload_n hx hb dX8_well_5 rfl (lv_at hl 1 rfl) ?_
    exact W.iret (v := x1) hx hb hr (x_reti hI hw) hI.2.2.2.2 dX8_well_6
  exact hgo s.heap [] hI
def rm_X8_isRow : Room := { frames := 1, cells := 0, slots := 0, locals := 25 }
set_option maxHeartbeats 4000000 in
set_option maxRecDepth 100000 in
theorem c_X8_isRow (l : Launch) (g : GP) (ad : Nat → Nat) (sz : Nat) (V : VT) (x0 : Int32)  (K : Int32 → VT → Prop) (hw : wp_X8_isRow V x0 K) : Met l yX8_isRow wsX8_isRow rm_X8_isRow (va_Pc [.int x0] (WPre 13 (cM g ad) ad g V sz)) (va_Qi K (WPost 13 (cM g ad) ad g) (AW ad 13 sz)) 0 0 (AW ad 13 sz) := by
  refine Met.ofW (cc := cX8_isRow) (maxL := 1) (ret := (some .boolean)) (by decide) rfl ?_
  intro p e s m args below meth c s₁ B hml hv
  obtain ⟨ha, hv⟩ := hv
  obtain rfl := hv.1
  have hI : WI g 13 (cM g ad) ad V s.heap s.heap [] := WI.start hv
  have hK := hv.2.2.1
  have hE := hv.2.2.2.2
  have hx := B.exec
  have hb := B.bytes
  have hr := B.returns
  have hts := atoms_spec (ws := wsX8_isRow) B.pre
  have hown : s.vm.findClass RX8 = some m.cls := findClass_of_methodNamed B.named
  have hlocks := B.notSynchronized
  have hw_0 := hts (.constantLong RX8 52 (7)) (by decide +kernel)
  have hl := lv_entry ([.int x0]) (n := 1) (Nat.le_of_ble_eq_true rfl)
  have hent : entryFrame m args 1 = F0 m 0 ((lg_sl ([.int x0]) ++ List.replicate (1 - (lg_sl ([.int x0])).length) Slot.unset).toArray) [] := by rw [ha, lg_entry_eq]
  rw [hent]
  generalize (lg_sl ([.int x0]) ++ List.replicate (1 - (lg_sl ([.int x0])).length) Slot.unset).toArray = ls at hl ⊢
  have hl : lv_has ls 1 [(0, .int x0)] := hl
  obtain ⟨H, hH⟩ : ∃ H : Heap, H = s.heap := ⟨_, rfl⟩
  have hgo : ∀ (H : Heap) (locs : List Loc), WI g 13 (cM g ad) ad V s.heap H locs → W p l e (headSpec wsX8_isRow rm_X8_isRow).room s m args below meth c H locs 0 0 (MQ below (va_Qi K (WPost 13 (cM g ad) ad g) (AW ad 13 s.heap.size)) args s 0 0 (AW ad 13 s.heap.size)) (F0 m 0 ls []) := by
    intro H locs hI
    refine lv_iload_n hx hb dX8_isRow_0 rfl (lv_at hl 0 rfl) ?_
    refine lv_i2l (v := (x0).toInt64) hx hb dX8_isRow_1 rfl ?_
    refine lv_lconst (v := (0 : Int64)) hx hb dX8_isRow_2 (by decide) ?_
    refine lv_ldc2 (v := (7 : Int64)) hx hb hown hw_0 dX8_isRow_3 ?_
    refine x_afti (va_runS (As := [.long ((x0).toInt64), .long (0 : Int64), .long (7 : Int64)]) (rest := []) ⟨hx, hb, hml, hown, hts⟩ (c_X8_in l g ad H.size V ((x0).toInt64) (0 : Int64) (7 : Int64) _ hw) (cwS 3 hts gX8_isRow_X8_in rfl rfl rfl (by decide +kernel) ⟨Nat.le_of_ble_eq_true rfl, Nat.le_of_ble_eq_true rfl⟩) (x_preS hK hE hI) rfl rfl hl.1 rfl (lv_room (Nat.le_of_ble_eq_true rfl)) dX8_isRow_6 ⟨Nat.zero_le _, Nat.zero_le _⟩) hI (fun r2 V1 H locs hw hI => ?_)
    obtain ⟨h3, hw⟩ := hw
    exact W.zret (v := r2) hx hb hr (nar_z h3) (x_reti hI hw) hI.2.2.2.2 dX8_isRow_9
  exact hgo s.heap [] hI
def rm_X8_row : Room := { frames := 2, cells := 0, slots := 0, locals := 45 }
set_option maxHeartbeats 4000000 in
set_option maxRecDepth 100000 in
theorem c_X8_row (l : Launch) (g : GP) (ad : Nat → Nat) (sz : Nat) (V : VT) (x1 : Int32) (x2 : Int32) (x3 : Int32)  (K : Int32 → VT → Prop) (hw : wp_X8_row V x1 x2 x3 K) : Met l yX8_row wsX8_row rm_X8_row (va_Pc [.ref (ad 0), .int x1, .int x2, .int x3] (WPre 13 (cM g ad) ad g V sz)) (va_Qi K (WPost 13 (cM g ad) ad g) (AW ad 13 sz)) 0 0 (AW ad 13 sz) := by
  refine Met.ofW (cc := cX8_row) (maxL := 5) (ret := (some .int)) (by decide) rfl ?_
  intro p e s m args below meth c s₁ B hml hv
  obtain ⟨ha, hv⟩ := hv
  obtain rfl := hv.1
  have hI : WI g 13 (cM g ad) ad V s.heap s.heap [] := WI.start hv
  have hK := hv.2.2.1
  have hE := hv.2.2.2.2
  have hx := B.exec
  have hb := B.bytes
  have hr := B.returns
  have hts := atoms_spec (ws := wsX8_row) B.pre
  have hown : s.vm.findClass RX8 = some m.cls := findClass_of_methodNamed B.named
  have hlocks := B.notSynchronized
  have hw_0 := hts (.constant RX8 64 (-1000001)) (by decide +kernel)
  have hw_1 := hts (.constantLong RX8 62 (2)) (by decide +kernel)
  have hw_2 := hts (.fieldLink RX8 7 "HoopLaneModel" "lanes" "[I") (by decide +kernel)
  have hw_3 := hts (.fieldLink RX8 13 "HoopLaneModel" "sizes" "[I") (by decide +kernel)
  have hw_4 := hts (.fieldLink RX8 16 "HoopLaneModel" "items" "[I") (by decide +kernel)
  have hin8 : ∀ w ∈ wsX80, w ∈ wsX8_row := by decide +kernel
  have hl := lv_entry ([.ref (ad 0), .int x1, .int x2, .int x3]) (n := 5) (Nat.le_of_ble_eq_true rfl)
  have hent : entryFrame m args 5 = F0 m 0 ((lg_sl ([.ref (ad 0), .int x1, .int x2, .int x3]) ++ List.replicate (5 - (lg_sl ([.ref (ad 0), .int x1, .int x2, .int x3])).length) Slot.unset).toArray) [] := by rw [ha, lg_entry_eq]
  rw [hent]
  generalize (lg_sl ([.ref (ad 0), .int x1, .int x2, .int x3]) ++ List.replicate (5 - (lg_sl ([.ref (ad 0), .int x1, .int x2, .int x3])).length) Slot.unset).toArray = ls at hl ⊢
  have hl : lv_has ls 5 [(0, .ref (ad 0)), (1, .int x1), (2, .int x2), (3, .int x3)] := hl
  obtain ⟨H, hH⟩ : ∃ H : Heap, H = s.heap := ⟨_, rfl⟩
  have hL55 : ∀ (n55 : Nat) (V : VT) (H : Heap) (locs : List Loc) (ls : Array Slot) (x1 : Int32) (x3 : Int32) (x4 : Int32), WI g 13 (cM g ad) ad V s.heap H locs → lv_has ls 5 [(0, .ref (ad 0)), (1, .int x1), (3, .int x3), (4, .int x4)] → wp_X8_row_L55 K  n55 V x1 x3 x4 → W p l e (headSpec wsX8_row rm_X8_row).room s m args below meth c H locs 0 0 (MQ below (va_Qi K (WPost 13 (cM g ad) ad g) (AW ad 13 s.heap.size)) args s 0 0 (AW ad 13 s.heap.size)) (F0 m 55 ls []) := by
    intro n55
    induction n55 with
    | zero => intro V H locs ls x1 x3 x4  hI hl hw; exact False.elim hw
    | succ n55 ihL55 =>
      intro V H locs ls x1 x3 x4  hI hl hw
      refine lv_iload hx hb dX8_row_55 (lv_at hl 3 rfl) ?_
      refine lv_bipush (v := (40 : Int32)) hx hb dX8_row_57 (by decide) ?_
      refine lv_icmp_ge (tgt := 81) hx hb dX8_row_59 (by decide) (fun c15 => ?_) (fun c15 => ?_)
      · replace hw := hw.1 c15
        refine lv_aload_n hx hb dX8_row_81 rfl (lv_at hl 0 rfl) ?_
        refine lv_iload_n hx hb dX8_row_82 rfl (lv_at hl 2 rfl) ?_
        refine x_afti (va_runV (As := [.int x3]) (rest := []) ⟨hx, hb, hml, hown, hts⟩ (c_X8_well l g ad H.size V x3 _ hw) (cwV 1 hts gX8_row_X8_well rfl rfl rfl (by decide +kernel) ⟨Nat.le_of_ble_eq_true rfl, Nat.le_of_ble_eq_true rfl⟩) (x_preV (k := 0) hK hE hI (by decide) rfl rfl) rfl rfl hl.1 rfl (lv_room (Nat.le_of_ble_eq_true rfl)) dX8_row_83 ⟨Nat.zero_le _, Nat.zero_le _⟩) hI (fun r17 V16 H locs hw hI => ?_)
        exact W.iret (v := r17) hx hb hr (x_reti hI hw) hI.2.2.2.2 dX8_row_86
      · replace hw := hw.2 c15
        refine lv_aload_n hx hb dX8_row_62 rfl (lv_at hl 0 rfl) ?_
        refine mg_2 hx hb hts hin8 hown hK hI hw_4 dX8_row_63 ?_
        refine lv_bipush (v := (40 : Int32)) hx hb dX8_row_66 (by decide) ?_
        refine lv_iload_n hx hb dX8_row_68 rfl (lv_at hl 1 rfl) ?_
        refine lv_imul hx hb dX8_row_69 ?_
        refine lv_iload hx hb dX8_row_70 (lv_at hl 3 rfl) ?_
        refine lv_iadd hx hb dX8_row_72 ?_
        refine lv_iconst (v := (0 : Int32)) hx hb dX8_row_73 (by decide) ?_
        obtain ⟨h18, hw⟩ := hw
        refine x_iastV (k := 3) hx hb hK hI (cM_loc g ad) (by decide) (fun _ => rfl) h18 dX8_row_74 (fun V19 H locs eV19 hI => ?_)
        replace hw := hw V19 eV19
        refine lv_iinc (v := (x4 + (1 : Int32))) (lv' := [(4, .int (x4 + (1 : Int32))), (0, .ref (ad 0)), (1, .int x1), (3, .int x3)]) hx hb dX8_row_75 hl (k := 3) rfl rfl (by decide) rfl (fun ls hl => ?_)
        refine lv_goto (tgt := 55) hx hb dX8_row_78 (by decide) ?_
        exact ihL55 V19 H locs ls x1 x3 (x4 + (1 : Int32)) hI (lv_sub hl [1, 2, 3, 0] rfl) hw
  have hgo : ∀ (H : Heap) (locs : List Loc), WI g 13 (cM g ad) ad V s.heap H locs → W p l e (headSpec wsX8_row rm_X8_row).room s m args below meth c H locs 0 0 (MQ below (va_Qi K (WPost 13 (cM g ad) ad g) (AW ad 13 s.heap.size)) args s 0 0 (AW ad 13 s.heap.size)) (F0 m 0 ls []) := by
    intro H locs hI
    refine lv_iload_n hx hb dX8_row_0 rfl (lv_at hl 1 rfl) ?_
    refine x_afti (va_runS (As := [.int x1]) (rest := []) ⟨hx, hb, hml, hown, hts⟩ (c_X8_isRow l g ad H.size V x1 _ hw) (cwS 1 hts gX8_row_X8_isRow rfl rfl rfl (by decide +kernel) ⟨Nat.le_of_ble_eq_true rfl, Nat.le_of_ble_eq_true rfl⟩) (x_preS hK hE hI) rfl rfl hl.1 rfl (lv_room (Nat.le_of_ble_eq_true rfl)) dX8_row_1 ⟨Nat.zero_le _, Nat.zero_le _⟩) hI (fun r2 V1 H locs hw hI => ?_)
    refine lv_if_eq (tgt := 25) hx hb dX8_row_4 (by decide) (fun c3 => ?_) (fun c3 => ?_)
    · replace hw := hw.1 c3
      refine lv_ldc (v := (-1000001 : Int32)) hx hb hown hw_0 dX8_row_25 ?_
      exact W.iret (v := (-1000001 : Int32)) hx hb hr (x_reti hI hw) hI.2.2.2.2 dX8_row_27
    · replace hw := hw.2 c3
      refine lv_iload_n hx hb dX8_row_7 rfl (lv_at hl 2 rfl) ?_
      refine lv_i2l (v := (x2).toInt64) hx hb dX8_row_8 rfl ?_
      refine lv_lconst (v := (0 : Int64)) hx hb dX8_row_9 (by decide) ?_
      refine lv_ldc2 (v := (2 : Int64)) hx hb hown hw_1 dX8_row_10 ?_
      refine x_afti (va_runS (As := [.long ((x2).toInt64), .long (0 : Int64), .long (2 : Int64)]) (rest := []) ⟨hx, hb, hml, hown, hts⟩ (c_X8_in l g ad H.size V1 ((x2).toInt64) (0 : Int64) (2 : Int64) _ hw) (cwS 3 hts gX8_row_X8_in rfl rfl rfl (by decide +kernel) ⟨Nat.le_of_ble_eq_true rfl, Nat.le_of_ble_eq_true rfl⟩) (x_preS hK hE hI) rfl rfl hl.1 rfl (lv_room (Nat.le_of_ble_eq_true rfl)) dX8_row_13 ⟨Nat.zero_le _, Nat.zero_le _⟩) hI (fun r5 V4 H locs hw hI => ?_)
      refine lv_if_eq (tgt := 25) hx hb dX8_row_16 (by decide) (fun c6 => ?_) (fun c6 => ?_)
      · replace hw := hw.1 c6
        refine lv_ldc (v := (-1000001 : Int32)) hx hb hown hw_0 dX8_row_25 ?_
        exact W.iret (v := (-1000001 : Int32)) hx hb hr (x_reti hI hw) hI.2.2.2.2 dX8_row_27
      · replace hw := hw.2 c6
        refine lv_iload_n hx hb dX8_row_19 rfl (lv_at hl 3 rfl) ?_
        refine lv_bipush (v := (40 : Int32)) hx hb dX8_row_20 (by decide) ?_
        refine lv_icmp_le (tgt := 28) hx hb dX8_row_22 (by decide) (fun c7 => ?_) (fun c7 => ?_)
        · replace hw := hw.1 c7
          refine lv_iload_n hx hb dX8_row_28 rfl (lv_at hl 3 rfl) ?_
          refine lv_if_ge (tgt := 38) hx hb dX8_row_29 (by decide) (fun c8 => ?_) (fun c8 => ?_)
          · replace hw := hw.1 c8
            refine lv_aload_n hx hb dX8_row_38 rfl (lv_at hl 0 rfl) ?_
            refine mg_0 hx hb hts hin8 hown hK hI hw_2 dX8_row_39 ?_
            refine lv_iload_n hx hb dX8_row_42 rfl (lv_at hl 1 rfl) ?_
            refine lv_iload_n hx hb dX8_row_43 rfl (lv_at hl 2 rfl) ?_
            obtain ⟨h9, hw⟩ := hw
            refine x_iastV (k := 1) hx hb hK hI (cM_loc g ad) (by decide) (fun _ => rfl) h9 dX8_row_44 (fun V10 H locs eV10 hI => ?_)
            replace hw := hw V10 eV10
            refine lv_aload_n hx hb dX8_row_45 rfl (lv_at hl 0 rfl) ?_
            refine mg_1 hx hb hts hin8 hown hK hI hw_3 dX8_row_46 ?_
            refine lv_iload_n hx hb dX8_row_49 rfl (lv_at hl 1 rfl) ?_
            refine lv_iload_n hx hb dX8_row_50 rfl (lv_at hl 3 rfl) ?_
            obtain ⟨h11, hw⟩ := hw
            refine x_iastV (k := 2) hx hb hK hI (cM_loc g ad) (by decide) (fun _ => rfl) h11 dX8_row_51 (fun V12 H locs eV12 hI => ?_)
            replace hw := hw V12 eV12
            refine lv_iconst (v := (0 : Int32)) hx hb dX8_row_52 (by decide) ?_
            refine lv_istore (lv' := [(4, .int (0 : Int32)), (0, .ref (ad 0)), (1, .int x1), (2, .int x2), (3, .int x3)]) hx hb dX8_row_53 hl (by decide) rfl (fun ls hl => ?_)
            obtain ⟨n55, hw⟩ := hw
            exact hL55 n55 V12 H locs ls x1 x3 (0 : Int32) hI (lv_sub hl [1, 2, 4, 0] rfl) hw
          · replace hw := hw.2 c8
            refine lv_aload_n hx hb dX8_row_32 rfl (lv_at hl 0 rfl) ?_
            refine lv_iconst (v := (4 : Int32)) hx hb dX8_row_33 (by decide) ?_
            refine x_afti (va_runV (As := [.int (4 : Int32)]) (rest := []) ⟨hx, hb, hml, hown, hts⟩ (c_X8_finds l g ad H.size V4 (4 : Int32) _ hw) (cwV 1 hts gX8_row_X8_finds rfl rfl rfl (by decide +kernel) ⟨Nat.le_of_ble_eq_true rfl, Nat.le_of_ble_eq_true rfl⟩) (x_preV (k := 0) hK hE hI (by decide) rfl rfl) rfl rfl hl.1 rfl (lv_room (Nat.le_of_ble_eq_true rfl)) dX8_row_34 ⟨Nat.zero_le _, Nat.zero_le _⟩) hI (fun r14 V13 H locs hw hI => ?_)
            exact W.iret (v := r14) hx hb hr (x_reti hI hw) hI.2.2.2.2 dX8_row_37
        · replace hw := hw.2 c7
          refine lv_ldc (v := (-1000001 : Int32)) hx hb hown hw_0 dX8_row_25 ?_
          exact W.iret (v := (-1000001 : Int32)) hx hb hr (x_reti hI hw) hI.2.2.2.2 dX8_row_27
  exact hgo s.heap [] hI
def rm_X8_set : Room := { frames := 2, cells := 0, slots := 0, locals := 45 }
set_option maxHeartbeats 4000000 in
set_option maxRecDepth 100000 in
theorem c_X8_set (l : Launch) (g : GP) (ad : Nat → Nat) (sz : Nat) (V : VT) (x1 : Int32) (x2 : Int32) (x3 : Int32)  (K : Int32 → VT → Prop) (hw : wp_X8_set V x1 x2 x3 K) : Met l yX8_set wsX8_set rm_X8_set (va_Pc [.ref (ad 0), .int x1, .int x2, .int x3] (WPre 13 (cM g ad) ad g V sz)) (va_Qi K (WPost 13 (cM g ad) ad g) (AW ad 13 sz)) 0 0 (AW ad 13 sz) := by
  refine Met.ofW (cc := cX8_set) (maxL := 5) (ret := (some .int)) (by decide) rfl ?_
  intro p e s m args below meth c s₁ B hml hv
  obtain ⟨ha, hv⟩ := hv
  obtain rfl := hv.1
  have hI : WI g 13 (cM g ad) ad V s.heap s.heap [] := WI.start hv
  have hK := hv.2.2.1
  have hE := hv.2.2.2.2
  have hx := B.exec
  have hb := B.bytes
  have hr := B.returns
  have hts := atoms_spec (ws := wsX8_set) B.pre
  have hown : s.vm.findClass RX8 = some m.cls := findClass_of_methodNamed B.named
  have hlocks := B.notSynchronized
  have hw_0 := hts (.fieldLink RX8 7 "HoopLaneModel" "lanes" "[I") (by decide +kernel)
  have hw_1 := hts (.fieldLink RX8 13 "HoopLaneModel" "sizes" "[I") (by decide +kernel)
  have hw_2 := hts (.fieldLink RX8 16 "HoopLaneModel" "items" "[I") (by decide +kernel)
  have hw_3 := hts (.constant RX8 64 (-1000001)) (by decide +kernel)
  have hin8 : ∀ w ∈ wsX80, w ∈ wsX8_set := by decide +kernel
  have hl := lv_entry ([.ref (ad 0), .int x1, .int x2, .int x3]) (n := 5) (Nat.le_of_ble_eq_true rfl)
  have hent : entryFrame m args 5 = F0 m 0 ((lg_sl ([.ref (ad 0), .int x1, .int x2, .int x3]) ++ List.replicate (5 - (lg_sl ([.ref (ad 0), .int x1, .int x2, .int x3])).length) Slot.unset).toArray) [] := by rw [ha, lg_entry_eq]
  rw [hent]
  generalize (lg_sl ([.ref (ad 0), .int x1, .int x2, .int x3]) ++ List.replicate (5 - (lg_sl ([.ref (ad 0), .int x1, .int x2, .int x3])).length) Slot.unset).toArray = ls at hl ⊢
  have hl : lv_has ls 5 [(0, .ref (ad 0)), (1, .int x1), (2, .int x2), (3, .int x3)] := hl
  obtain ⟨H, hH⟩ : ∃ H : Heap, H = s.heap := ⟨_, rfl⟩
  have hb89 : ∀ (V : VT) (H : Heap) (locs : List Loc) (ls : Array Slot) (x1 : Int32) (x2 : Int32) (s1 : Int32) (s2 : Int32), WI g 13 (cM g ad) ad V s.heap H locs → lv_has ls 5 [(0, .ref (ad 0)), (1, .int x1), (2, .int x2)] → wp_X8_set_b89 K  V x1 x2 s1 s2 → W p l e (headSpec wsX8_set rm_X8_set).room s m args below meth c H locs 0 0 (MQ below (va_Qi K (WPost 13 (cM g ad) ad g) (AW ad 13 s.heap.size)) args s 0 0 (AW ad 13 s.heap.size)) (F0 m 89 ls [.int s2, .int s1, .ref (ad 3)]) := by
    intro V H locs ls x1 x2 s1 s2  hI hl hw
    obtain ⟨h17, hw⟩ := hw
    refine x_iastV (k := 3) hx hb hK hI (cM_loc g ad) (by decide) (fun _ => rfl) h17 dX8_set_89 (fun V18 H locs eV18 hI => ?_)
    replace hw := hw V18 eV18
    refine lv_aload_n hx hb dX8_set_90 rfl (lv_at hl 0 rfl) ?_
    refine lv_aload_n hx hb dX8_set_91 rfl (lv_at hl 0 rfl) ?_
    refine mg_2 hx hb hts hin8 hown hK hI hw_2 dX8_set_92 ?_
    refine lv_bipush (v := (40 : Int32)) hx hb dX8_set_95 (by decide) ?_
    refine lv_iload_n hx hb dX8_set_97 rfl (lv_at hl 1 rfl) ?_
    refine lv_imul hx hb dX8_set_98 ?_
    refine lv_iload_n hx hb dX8_set_99 rfl (lv_at hl 2 rfl) ?_
    refine lv_iadd hx hb dX8_set_100 ?_
    obtain ⟨h19, hw⟩ := hw
    refine x_iald (k := 3) hx hb hK hI (by decide) rfl h19 dX8_set_101 ?_
    refine x_afti (va_runV (As := [.int (V18 3 ((((40 : Int32) * x1) + x2)).toNatClampNeg)]) (rest := []) ⟨hx, hb, hml, hown, hts⟩ (c_X8_well l g ad H.size V18 (V18 3 ((((40 : Int32) * x1) + x2)).toNatClampNeg) _ hw) (cwV 1 hts gX8_set_X8_well rfl rfl rfl (by decide +kernel) ⟨Nat.le_of_ble_eq_true rfl, Nat.le_of_ble_eq_true rfl⟩) (x_preV (k := 0) hK hE hI (by decide) rfl rfl) rfl rfl hl.1 rfl (lv_room (Nat.le_of_ble_eq_true rfl)) dX8_set_102 ⟨Nat.zero_le _, Nat.zero_le _⟩) hI (fun r21 V20 H locs hw hI => ?_)
    exact W.iret (v := r21) hx hb hr (x_reti hI hw) hI.2.2.2.2 dX8_set_105
  have hgo : ∀ (H : Heap) (locs : List Loc), WI g 13 (cM g ad) ad V s.heap H locs → W p l e (headSpec wsX8_set rm_X8_set).room s m args below meth c H locs 0 0 (MQ below (va_Qi K (WPost 13 (cM g ad) ad g) (AW ad 13 s.heap.size)) args s 0 0 (AW ad 13 s.heap.size)) (F0 m 0 ls []) := by
    intro H locs hI
    refine lv_iload_n hx hb dX8_set_0 rfl (lv_at hl 1 rfl) ?_
    refine x_afti (va_runS (As := [.int x1]) (rest := []) ⟨hx, hb, hml, hown, hts⟩ (c_X8_isRow l g ad H.size V x1 _ hw) (cwS 1 hts gX8_set_X8_isRow rfl rfl rfl (by decide +kernel) ⟨Nat.le_of_ble_eq_true rfl, Nat.le_of_ble_eq_true rfl⟩) (x_preS hK hE hI) rfl rfl hl.1 rfl (lv_room (Nat.le_of_ble_eq_true rfl)) dX8_set_1 ⟨Nat.zero_le _, Nat.zero_le _⟩) hI (fun r2 V1 H locs hw hI => ?_)
    refine lv_if_ne (tgt := 10) hx hb dX8_set_4 (by decide) (fun c3 => ?_) (fun c3 => ?_)
    · replace hw := hw.1 c3
      refine lv_aload_n hx hb dX8_set_10 rfl (lv_at hl 0 rfl) ?_
      refine mg_0 hx hb hts hin8 hown hK hI hw_0 dX8_set_11 ?_
      refine lv_iload_n hx hb dX8_set_14 rfl (lv_at hl 1 rfl) ?_
      obtain ⟨h4, hw⟩ := hw
      refine x_iald (k := 1) hx hb hK hI (by decide) rfl h4 dX8_set_15 ?_
      refine lv_if_ge (tgt := 25) hx hb dX8_set_16 (by decide) (fun c5 => ?_) (fun c5 => ?_)
      · replace hw := hw.1 c5
        refine lv_iload_n hx hb dX8_set_25 rfl (lv_at hl 2 rfl) ?_
        refine lv_i2l (v := (x2).toInt64) hx hb dX8_set_26 rfl ?_
        refine lv_lconst (v := (0 : Int64)) hx hb dX8_set_27 (by decide) ?_
        refine lv_aload_n hx hb dX8_set_28 rfl (lv_at hl 0 rfl) ?_
        refine mg_1 hx hb hts hin8 hown hK hI hw_1 dX8_set_29 ?_
        refine lv_iload_n hx hb dX8_set_32 rfl (lv_at hl 1 rfl) ?_
        obtain ⟨h6, hw⟩ := hw
        refine x_iald (k := 2) hx hb hK hI (by decide) rfl h6 dX8_set_33 ?_
        refine lv_iconst (v := (1 : Int32)) hx hb dX8_set_34 (by decide) ?_
        refine lv_isub hx hb dX8_set_35 ?_
        refine lv_i2l (v := (((V1 2 (x1).toNatClampNeg) - (1 : Int32))).toInt64) hx hb dX8_set_36 rfl ?_
        refine x_afti (va_runS (As := [.long ((x2).toInt64), .long (0 : Int64), .long ((((V1 2 (x1).toNatClampNeg) - (1 : Int32))).toInt64)]) (rest := []) ⟨hx, hb, hml, hown, hts⟩ (c_X8_in l g ad H.size V1 ((x2).toInt64) (0 : Int64) ((((V1 2 (x1).toNatClampNeg) - (1 : Int32))).toInt64) _ hw) (cwS 3 hts gX8_set_X8_in rfl rfl rfl (by decide +kernel) ⟨Nat.le_of_ble_eq_true rfl, Nat.le_of_ble_eq_true rfl⟩) (x_preS hK hE hI) rfl rfl hl.1 rfl (lv_room (Nat.le_of_ble_eq_true rfl)) dX8_set_37 ⟨Nat.zero_le _, Nat.zero_le _⟩) hI (fun r8 V7 H locs hw hI => ?_)
        refine lv_if_ne (tgt := 49) hx hb dX8_set_40 (by decide) (fun c9 => ?_) (fun c9 => ?_)
        · replace hw := hw.1 c9
          refine lv_aload_n hx hb dX8_set_49 rfl (lv_at hl 0 rfl) ?_
          refine mg_0 hx hb hts hin8 hown hK hI hw_0 dX8_set_50 ?_
          refine lv_iload_n hx hb dX8_set_53 rfl (lv_at hl 1 rfl) ?_
          obtain ⟨h10, hw⟩ := hw
          refine x_iald (k := 1) hx hb hK hI (by decide) rfl h10 dX8_set_54 ?_
          refine lv_istore (lv' := [(4, .int (V7 1 (x1).toNatClampNeg)), (0, .ref (ad 0)), (1, .int x1), (2, .int x2), (3, .int x3)]) hx hb dX8_set_55 hl (by decide) rfl (fun ls hl => ?_)
          refine lv_aload_n hx hb dX8_set_57 rfl (lv_at hl 1 rfl) ?_
          refine mg_2 hx hb hts hin8 hown hK hI hw_2 dX8_set_58 ?_
          refine lv_bipush (v := (40 : Int32)) hx hb dX8_set_61 (by decide) ?_
          refine lv_iload_n hx hb dX8_set_63 rfl (lv_at hl 2 rfl) ?_
          refine lv_imul hx hb dX8_set_64 ?_
          refine lv_iload_n hx hb dX8_set_65 rfl (lv_at hl 3 rfl) ?_
          refine lv_iadd hx hb dX8_set_66 ?_
          refine lv_iload hx hb dX8_set_67 (lv_at hl 0 rfl) ?_
          refine lv_if_ne (tgt := 77) hx hb dX8_set_69 (by decide) (fun c11 => ?_) (fun c11 => ?_)
          · replace hw := hw.1 c11
            refine lv_iload hx hb dX8_set_77 (lv_at hl 0 rfl) ?_
            refine lv_iconst (v := (1 : Int32)) hx hb dX8_set_79 (by decide) ?_
            refine lv_icmp_ne (tgt := 88) hx hb dX8_set_80 (by decide) (fun c12 => ?_) (fun c12 => ?_)
            · replace hw := hw.1 c12
              refine lv_iload_n hx hb dX8_set_88 rfl (lv_at hl 4 rfl) ?_
              exact hb89 V7 H locs ls x1 x2 (((40 : Int32) * x1) + x2) x3 hI (lv_sub hl [1, 2, 3] rfl) hw
            · replace hw := hw.2 c12
              refine lv_iload_n hx hb dX8_set_83 rfl (lv_at hl 4 rfl) ?_
              refine lv_i2s (v := (x3).toInt16.toInt32) hx hb dX8_set_84 rfl ?_
              refine lv_goto (tgt := 89) hx hb dX8_set_85 (by decide) ?_
              exact hb89 V7 H locs ls x1 x2 (((40 : Int32) * x1) + x2) ((x3).toInt16.toInt32) hI (lv_sub hl [1, 2, 3] rfl) hw
          · replace hw := hw.2 c11
            refine lv_iload_n hx hb dX8_set_72 rfl (lv_at hl 4 rfl) ?_
            refine lv_i2b (v := (x3).toInt8.toInt32) hx hb dX8_set_73 rfl ?_
            refine lv_goto (tgt := 89) hx hb dX8_set_74 (by decide) ?_
            exact hb89 V7 H locs ls x1 x2 (((40 : Int32) * x1) + x2) ((x3).toInt8.toInt32) hI (lv_sub hl [1, 2, 3] rfl) hw
        · replace hw := hw.2 c9
          refine lv_aload_n hx hb dX8_set_43 rfl (lv_at hl 0 rfl) ?_
          refine lv_iconst (v := (2 : Int32)) hx hb dX8_set_44 (by decide) ?_
          refine x_afti (va_runV (As := [.int (2 : Int32)]) (rest := []) ⟨hx, hb, hml, hown, hts⟩ (c_X8_finds l g ad H.size V7 (2 : Int32) _ hw) (cwV 1 hts gX8_set_X8_finds rfl rfl rfl (by decide +kernel) ⟨Nat.le_of_ble_eq_true rfl, Nat.le_of_ble_eq_true rfl⟩) (x_preV (k := 0) hK hE hI (by decide) rfl rfl) rfl rfl hl.1 rfl (lv_room (Nat.le_of_ble_eq_true rfl)) dX8_set_45 ⟨Nat.zero_le _, Nat.zero_le _⟩) hI (fun r14 V13 H locs hw hI => ?_)
          exact W.iret (v := r14) hx hb hr (x_reti hI hw) hI.2.2.2.2 dX8_set_48
      · replace hw := hw.2 c5
        refine lv_aload_n hx hb dX8_set_19 rfl (lv_at hl 0 rfl) ?_
        refine lv_iconst (v := (1 : Int32)) hx hb dX8_set_20 (by decide) ?_
        refine x_afti (va_runV (As := [.int (1 : Int32)]) (rest := []) ⟨hx, hb, hml, hown, hts⟩ (c_X8_finds l g ad H.size V1 (1 : Int32) _ hw) (cwV 1 hts gX8_set_X8_finds rfl rfl rfl (by decide +kernel) ⟨Nat.le_of_ble_eq_true rfl, Nat.le_of_ble_eq_true rfl⟩) (x_preV (k := 0) hK hE hI (by decide) rfl rfl) rfl rfl hl.1 rfl (lv_room (Nat.le_of_ble_eq_true rfl)) dX8_set_21 ⟨Nat.zero_le _, Nat.zero_le _⟩) hI (fun r16 V15 H locs hw hI => ?_)
        exact W.iret (v := r16) hx hb hr (x_reti hI hw) hI.2.2.2.2 dX8_set_24
    · replace hw := hw.2 c3
      refine lv_ldc (v := (-1000001 : Int32)) hx hb hown hw_3 dX8_set_7 ?_
      exact W.iret (v := (-1000001 : Int32)) hx hb hr (x_reti hI hw) hI.2.2.2.2 dX8_set_9
  exact hgo s.heap [] hI
def rm_X8_isPart : Room := { frames := 0, cells := 0, slots := 0, locals := 0 }
set_option maxHeartbeats 4000000 in
set_option maxRecDepth 100000 in
theorem c_X8_isPart (l : Launch) (g : GP) (ad : Nat → Nat) (sz : Nat) (V : VT) (x1 : Int32) (x2 : Int32) (x3 : Int32)  (K : Int32 → VT → Prop) (hw : wp_X8_isPart V x1 x2 x3 K) : Met l yX8_isPart wsX8_isPart rm_X8_isPart (va_Pc [.ref (ad 0), .int x1, .int x2, .int x3] (WPre 13 (cM g ad) ad g V sz)) (va_Qi K (WPost 13 (cM g ad) ad g) (AW ad 13 sz)) 0 0 (AW ad 13 sz) := by
  refine Met.ofW (cc := cX8_isPart) (maxL := 4) (ret := (some .boolean)) (by decide) rfl ?_
  intro p e s m args below meth c s₁ B hml hv
  obtain ⟨ha, hv⟩ := hv
  obtain rfl := hv.1
  have hI : WI g 13 (cM g ad) ad V s.heap s.heap [] := WI.start hv
  have hK := hv.2.2.1
  have hE := hv.2.2.2.2
  have hx := B.exec
  have hb := B.bytes
  have hr := B.returns
  have hts := atoms_spec (ws := wsX8_isPart) B.pre
  have hown : s.vm.findClass RX8 = some m.cls := findClass_of_methodNamed B.named
  have hlocks := B.notSynchronized
  have hw_0 := hts (.fieldLink RX8 13 "HoopLaneModel" "sizes" "[I") (by decide +kernel)
  have hin8 : ∀ w ∈ wsX80, w ∈ wsX8_isPart := by decide +kernel
  have hl := lv_entry ([.ref (ad 0), .int x1, .int x2, .int x3]) (n := 4) (Nat.le_of_ble_eq_true rfl)
  have hent : entryFrame m args 4 = F0 m 0 ((lg_sl ([.ref (ad 0), .int x1, .int x2, .int x3]) ++ List.replicate (4 - (lg_sl ([.ref (ad 0), .int x1, .int x2, .int x3])).length) Slot.unset).toArray) [] := by rw [ha, lg_entry_eq]
  rw [hent]
  generalize (lg_sl ([.ref (ad 0), .int x1, .int x2, .int x3]) ++ List.replicate (4 - (lg_sl ([.ref (ad 0), .int x1, .int x2, .int x3])).length) Slot.unset).toArray = ls at hl ⊢
  have hl : lv_has ls 4 [(0, .ref (ad 0)), (1, .int x1), (2, .int x2), (3, .int x3)] := hl
  obtain ⟨H, hH⟩ : ∃ H : Heap, H = s.heap := ⟨_, rfl⟩
  have hgo : ∀ (H : Heap) (locs : List Loc), WI g 13 (cM g ad) ad V s.heap H locs → W p l e (headSpec wsX8_isPart rm_X8_isPart).room s m args below meth c H locs 0 0 (MQ below (va_Qi K (WPost 13 (cM g ad) ad g) (AW ad 13 s.heap.size)) args s 0 0 (AW ad 13 s.heap.size)) (F0 m 0 ls []) := by
    intro H locs hI
    refine lv_iload_n hx hb dX8_isPart_0 rfl (lv_at hl 2 rfl) ?_
    refine lv_if_lt (tgt := 28) hx hb dX8_isPart_1 (by decide) (fun c1 => ?_) (fun c1 => ?_)
    · replace hw := hw.1 c1
      refine lv_iconst (v := (0 : Int32)) hx hb dX8_isPart_28 (by decide) ?_
      exact W.zret (v := (0 : Int32)) hx hb hr rfl (x_reti hI hw) hI.2.2.2.2 dX8_isPart_29
    · replace hw := hw.2 c1
      refine lv_iload_n hx hb dX8_isPart_4 rfl (lv_at hl 3 rfl) ?_
      refine lv_if_lt (tgt := 28) hx hb dX8_isPart_5 (by decide) (fun c2 => ?_) (fun c2 => ?_)
      · replace hw := hw.1 c2
        refine lv_iconst (v := (0 : Int32)) hx hb dX8_isPart_28 (by decide) ?_
        exact W.zret (v := (0 : Int32)) hx hb hr rfl (x_reti hI hw) hI.2.2.2.2 dX8_isPart_29
      · replace hw := hw.2 c2
        refine lv_iload_n hx hb dX8_isPart_8 rfl (lv_at hl 2 rfl) ?_
        refine lv_i2l (v := (x2).toInt64) hx hb dX8_isPart_9 rfl ?_
        refine lv_iload_n hx hb dX8_isPart_10 rfl (lv_at hl 3 rfl) ?_
        refine lv_i2l (v := (x3).toInt64) hx hb dX8_isPart_11 rfl ?_
        refine lv_ladd hx hb dX8_isPart_12 ?_
        refine lv_aload_n hx hb dX8_isPart_13 rfl (lv_at hl 0 rfl) ?_
        refine mg_1 hx hb hts hin8 hown hK hI hw_0 dX8_isPart_14 ?_
        refine lv_iload_n hx hb dX8_isPart_17 rfl (lv_at hl 1 rfl) ?_
        obtain ⟨h3, hw⟩ := hw
        refine x_iald (k := 2) hx hb hK hI (by decide) rfl h3 dX8_isPart_18 ?_
        refine lv_i2l (v := ((V 2 (x1).toNatClampNeg)).toInt64) hx hb dX8_isPart_19 rfl ?_
        refine W.lcmp hx hb dX8_isPart_20 ?_
        refine lv_if_gt (tgt := 28) hx hb dX8_isPart_21 (by decide) (fun c4 => ?_) (fun c4 => ?_)
        · replace hw := hw.1 c4
          refine lv_iconst (v := (0 : Int32)) hx hb dX8_isPart_28 (by decide) ?_
          exact W.zret (v := (0 : Int32)) hx hb hr rfl (x_reti hI hw) hI.2.2.2.2 dX8_isPart_29
        · replace hw := hw.2 c4
          refine lv_iconst (v := (1 : Int32)) hx hb dX8_isPart_24 (by decide) ?_
          refine lv_goto (tgt := 29) hx hb dX8_isPart_25 (by decide) ?_
          exact W.zret (v := (1 : Int32)) hx hb hr rfl (x_reti hI hw) hI.2.2.2.2 dX8_isPart_29
  exact hgo s.heap [] hI
def rm_X8_copy : Room := { frames := 2, cells := 0, slots := 0, locals := 45 }
set_option maxHeartbeats 4000000 in
set_option maxRecDepth 100000 in
theorem c_X8_copy (l : Launch) (g : GP) (ad : Nat → Nat) (sz : Nat) (V : VT) (x1 : Int32) (x2 : Int32) (x3 : Int32) (x4 : Int32) (x5 : Int32)  (K : Int32 → VT → Prop) (hw : wp_X8_copy V x1 x2 x3 x4 x5 K) : Met l yX8_copy wsX8_copy rm_X8_copy (va_Pc [.ref (ad 0), .int x1, .int x2, .int x3, .int x4, .int x5] (WPre 13 (cM g ad) ad g V sz)) (va_Qi K (WPost 13 (cM g ad) ad g) (AW ad 13 sz)) 0 0 (AW ad 13 sz) := by
  refine Met.ofW (cc := cX8_copy) (maxL := 7) (ret := (some .int)) (by decide) rfl ?_
  intro p e s m args below meth c s₁ B hml hv
  obtain ⟨ha, hv⟩ := hv
  obtain rfl := hv.1
  have hI : WI g 13 (cM g ad) ad V s.heap s.heap [] := WI.start hv
  have hK := hv.2.2.1
  have hE := hv.2.2.2.2
  have hx := B.exec
  have hb := B.bytes
  have hr := B.returns
  have hts := atoms_spec (ws := wsX8_copy) B.pre
  have hown : s.vm.findClass RX8 = some m.cls := findClass_of_methodNamed B.named
  have hlocks := B.notSynchronized
  have hw_0 := hts (.constant RX8 64 (-1000001)) (by decide +kernel)
  have hw_1 := hts (.fieldLink RX8 7 "HoopLaneModel" "lanes" "[I") (by decide +kernel)
  have hw_2 := hts (.fieldLink RX8 19 "HoopLaneModel" "moved" "[I") (by decide +kernel)
  have hw_3 := hts (.fieldLink RX8 16 "HoopLaneModel" "items" "[I") (by decide +kernel)
  have hin8 : ∀ w ∈ wsX80, w ∈ wsX8_copy := by decide +kernel
  have hl := lv_entry ([.ref (ad 0), .int x1, .int x2, .int x3, .int x4, .int x5]) (n := 7) (Nat.le_of_ble_eq_true rfl)
  have hent : entryFrame m args 7 = F0 m 0 ((lg_sl ([.ref (ad 0), .int x1, .int x2, .int x3, .int x4, .int x5]) ++ List.replicate (7 - (lg_sl ([.ref (ad 0), .int x1, .int x2, .int x3, .int x4, .int x5])).length) Slot.unset).toArray) [] := by rw [ha, lg_entry_eq]
  rw [hent]
  generalize (lg_sl ([.ref (ad 0), .int x1, .int x2, .int x3, .int x4, .int x5]) ++ List.replicate (7 - (lg_sl ([.ref (ad 0), .int x1, .int x2, .int x3, .int x4, .int x5])).length) Slot.unset).toArray = ls at hl ⊢
  have hl : lv_has ls 7 [(0, .ref (ad 0)), (1, .int x1), (2, .int x2), (3, .int x3), (4, .int x4), (5, .int x5)] := hl
  obtain ⟨H, hH⟩ : ∃ H : Heap, H = s.heap := ⟨_, rfl⟩
  have hL131 : ∀ (n131 : Nat) (V : VT) (H : Heap) (locs : List Loc) (ls : Array Slot) (x3 : Int32) (x4 : Int32) (x5 : Int32) (x6 : Int32), WI g 13 (cM g ad) ad V s.heap H locs → lv_has ls 7 [(0, .ref (ad 0)), (3, .int x3), (4, .int x4), (5, .int x5), (6, .int x6)] → wp_X8_copy_L131 K  n131 V x3 x4 x5 x6 → W p l e (headSpec wsX8_copy rm_X8_copy).room s m args below meth c H locs 0 0 (MQ below (va_Qi K (WPost 13 (cM g ad) ad g) (AW ad 13 s.heap.size)) args s 0 0 (AW ad 13 s.heap.size)) (F0 m 131 ls []) := by
    intro n131
    induction n131 with
    | zero => intro V H locs ls x3 x4 x5 x6  hI hl hw; exact False.elim hw
    | succ n131 ihL131 =>
      intro V H locs ls x3 x4 x5 x6  hI hl hw
      refine lv_iload hx hb dX8_copy_131 (lv_at hl 4 rfl) ?_
      refine lv_iload hx hb dX8_copy_133 (lv_at hl 3 rfl) ?_
      refine lv_icmp_ge (tgt := 166) hx hb dX8_copy_135 (by decide) (fun c30 => ?_) (fun c30 => ?_)
      · replace hw := hw.1 c30
        refine lv_aload_n hx hb dX8_copy_166 rfl (lv_at hl 0 rfl) ?_
        refine lv_iload hx hb dX8_copy_167 (lv_at hl 3 rfl) ?_
        refine x_afti (va_runV (As := [.int x5]) (rest := []) ⟨hx, hb, hml, hown, hts⟩ (c_X8_well l g ad H.size V x5 _ hw) (cwV 1 hts gX8_copy_X8_well rfl rfl rfl (by decide +kernel) ⟨Nat.le_of_ble_eq_true rfl, Nat.le_of_ble_eq_true rfl⟩) (x_preV (k := 0) hK hE hI (by decide) rfl rfl) rfl rfl hl.1 rfl (lv_room (Nat.le_of_ble_eq_true rfl)) dX8_copy_169 ⟨Nat.zero_le _, Nat.zero_le _⟩) hI (fun r32 V31 H locs hw hI => ?_)
        exact W.iret (v := r32) hx hb hr (x_reti hI hw) hI.2.2.2.2 dX8_copy_172
      · replace hw := hw.2 c30
        refine lv_aload_n hx hb dX8_copy_138 rfl (lv_at hl 0 rfl) ?_
        refine mg_2 hx hb hts hin8 hown hK hI hw_3 dX8_copy_139 ?_
        refine lv_bipush (v := (40 : Int32)) hx hb dX8_copy_142 (by decide) ?_
        refine lv_iload_n hx hb dX8_copy_144 rfl (lv_at hl 1 rfl) ?_
        refine lv_imul hx hb dX8_copy_145 ?_
        refine lv_iload hx hb dX8_copy_146 (lv_at hl 2 rfl) ?_
        refine lv_iadd hx hb dX8_copy_148 ?_
        refine lv_iload hx hb dX8_copy_149 (lv_at hl 4 rfl) ?_
        refine lv_iadd hx hb dX8_copy_151 ?_
        refine lv_aload_n hx hb dX8_copy_152 rfl (lv_at hl 0 rfl) ?_
        refine mg_3 hx hb hts hin8 hown hK hI hw_2 dX8_copy_153 ?_
        refine lv_iload hx hb dX8_copy_156 (lv_at hl 4 rfl) ?_
        obtain ⟨h33, hw⟩ := hw
        refine x_iald (k := 4) hx hb hK hI (by decide) rfl h33 dX8_copy_158 ?_
        obtain ⟨h34, hw⟩ := hw
        refine x_iastV (k := 3) hx hb hK hI (cM_loc g ad) (by decide) (fun _ => rfl) h34 dX8_copy_159 (fun V35 H locs eV35 hI => ?_)
        replace hw := hw V35 eV35
        refine lv_iinc (v := (x6 + (1 : Int32))) (lv' := [(6, .int (x6 + (1 : Int32))), (0, .ref (ad 0)), (3, .int x3), (4, .int x4), (5, .int x5)]) hx hb dX8_copy_160 hl (k := 4) rfl rfl (by decide) rfl (fun ls hl => ?_)
        refine lv_goto (tgt := 131) hx hb dX8_copy_163 (by decide) ?_
        exact ihL131 V35 H locs ls x3 x4 x5 (x6 + (1 : Int32)) hI (lv_sub hl [1, 2, 3, 4, 0] rfl) hw
  have hL94 : ∀ (n94 : Nat) (V : VT) (H : Heap) (locs : List Loc) (ls : Array Slot) (x1 : Int32) (x2 : Int32) (x3 : Int32) (x4 : Int32) (x5 : Int32) (x6 : Int32), WI g 13 (cM g ad) ad V s.heap H locs → lv_has ls 7 [(0, .ref (ad 0)), (1, .int x1), (2, .int x2), (3, .int x3), (4, .int x4), (5, .int x5), (6, .int x6)] → wp_X8_copy_L94 K  n94 V x1 x2 x3 x4 x5 x6 → W p l e (headSpec wsX8_copy rm_X8_copy).room s m args below meth c H locs 0 0 (MQ below (va_Qi K (WPost 13 (cM g ad) ad g) (AW ad 13 s.heap.size)) args s 0 0 (AW ad 13 s.heap.size)) (F0 m 94 ls []) := by
    intro n94
    induction n94 with
    | zero => intro V H locs ls x1 x2 x3 x4 x5 x6  hI hl hw; exact False.elim hw
    | succ n94 ihL94 =>
      intro V H locs ls x1 x2 x3 x4 x5 x6  hI hl hw
      refine lv_iload hx hb dX8_copy_94 (lv_at hl 6 rfl) ?_
      refine lv_iload hx hb dX8_copy_96 (lv_at hl 5 rfl) ?_
      refine lv_icmp_ge (tgt := 128) hx hb dX8_copy_98 (by decide) (fun c26 => ?_) (fun c26 => ?_)
      · replace hw := hw.1 c26
        refine lv_iconst (v := (0 : Int32)) hx hb dX8_copy_128 (by decide) ?_
        refine lv_istore (lv' := [(6, .int (0 : Int32)), (0, .ref (ad 0)), (1, .int x1), (2, .int x2), (3, .int x3), (4, .int x4), (5, .int x5)]) hx hb dX8_copy_129 hl (by decide) rfl (fun ls hl => ?_)
        obtain ⟨n131, hw⟩ := hw
        exact hL131 n131 V H locs ls x3 x4 x5 (0 : Int32) hI (lv_sub hl [1, 4, 5, 6, 0] rfl) hw
      · replace hw := hw.2 c26
        refine lv_aload_n hx hb dX8_copy_101 rfl (lv_at hl 0 rfl) ?_
        refine mg_3 hx hb hts hin8 hown hK hI hw_2 dX8_copy_102 ?_
        refine lv_iload hx hb dX8_copy_105 (lv_at hl 6 rfl) ?_
        refine lv_aload_n hx hb dX8_copy_107 rfl (lv_at hl 0 rfl) ?_
        refine mg_2 hx hb hts hin8 hown hK hI hw_3 dX8_copy_108 ?_
        refine lv_bipush (v := (40 : Int32)) hx hb dX8_copy_111 (by decide) ?_
        refine lv_iload_n hx hb dX8_copy_113 rfl (lv_at hl 1 rfl) ?_
        refine lv_imul hx hb dX8_copy_114 ?_
        refine lv_iload_n hx hb dX8_copy_115 rfl (lv_at hl 2 rfl) ?_
        refine lv_iadd hx hb dX8_copy_116 ?_
        refine lv_iload hx hb dX8_copy_117 (lv_at hl 6 rfl) ?_
        refine lv_iadd hx hb dX8_copy_119 ?_
        obtain ⟨h27, hw⟩ := hw
        refine x_iald (k := 3) hx hb hK hI (by decide) rfl h27 dX8_copy_120 ?_
        obtain ⟨h28, hw⟩ := hw
        refine x_iastV (k := 4) hx hb hK hI (cM_loc g ad) (by decide) (fun _ => rfl) h28 dX8_copy_121 (fun V29 H locs eV29 hI => ?_)
        replace hw := hw V29 eV29
        refine lv_iinc (v := (x6 + (1 : Int32))) (lv' := [(6, .int (x6 + (1 : Int32))), (0, .ref (ad 0)), (1, .int x1), (2, .int x2), (3, .int x3), (4, .int x4), (5, .int x5)]) hx hb dX8_copy_122 hl (k := 6) rfl rfl (by decide) rfl (fun ls hl => ?_)
        refine lv_goto (tgt := 94) hx hb dX8_copy_125 (by decide) ?_
        exact ihL94 V29 H locs ls x1 x2 x3 x4 x5 (x6 + (1 : Int32)) hI (lv_sub hl [1, 2, 3, 4, 5, 6, 0] rfl) hw
  have hb85 : ∀ (V : VT) (H : Heap) (locs : List Loc) (ls : Array Slot) , WI g 13 (cM g ad) ad V s.heap H locs → lv_has ls 7 [(0, .ref (ad 0))] → wp_X8_copy_b85 K  V  → W p l e (headSpec wsX8_copy rm_X8_copy).room s m args below meth c H locs 0 0 (MQ below (va_Qi K (WPost 13 (cM g ad) ad g) (AW ad 13 s.heap.size)) args s 0 0 (AW ad 13 s.heap.size)) (F0 m 85 ls []) := by
    intro V H locs ls   hI hl hw
    refine lv_aload_n hx hb dX8_copy_85 rfl (lv_at hl 0 rfl) ?_
    refine lv_iconst (v := (2 : Int32)) hx hb dX8_copy_86 (by decide) ?_
    refine x_afti (va_runV (As := [.int (2 : Int32)]) (rest := []) ⟨hx, hb, hml, hown, hts⟩ (c_X8_finds l g ad H.size V (2 : Int32) _ hw) (cwV 1 hts gX8_copy_X8_finds rfl rfl rfl (by decide +kernel) ⟨Nat.le_of_ble_eq_true rfl, Nat.le_of_ble_eq_true rfl⟩) (x_preV (k := 0) hK hE hI (by decide) rfl rfl) rfl rfl hl.1 rfl (lv_room (Nat.le_of_ble_eq_true rfl)) dX8_copy_87 ⟨Nat.zero_le _, Nat.zero_le _⟩) hI (fun r25 V24 H locs hw hI => ?_)
    exact W.iret (v := r25) hx hb hr (x_reti hI hw) hI.2.2.2.2 dX8_copy_90
  have hb35 : ∀ (V : VT) (H : Heap) (locs : List Loc) (ls : Array Slot) , WI g 13 (cM g ad) ad V s.heap H locs → lv_has ls 7 [(0, .ref (ad 0))] → wp_X8_copy_b35 K  V  → W p l e (headSpec wsX8_copy rm_X8_copy).room s m args below meth c H locs 0 0 (MQ below (va_Qi K (WPost 13 (cM g ad) ad g) (AW ad 13 s.heap.size)) args s 0 0 (AW ad 13 s.heap.size)) (F0 m 35 ls []) := by
    intro V H locs ls   hI hl hw
    refine lv_aload_n hx hb dX8_copy_35 rfl (lv_at hl 0 rfl) ?_
    refine lv_iconst (v := (1 : Int32)) hx hb dX8_copy_36 (by decide) ?_
    refine x_afti (va_runV (As := [.int (1 : Int32)]) (rest := []) ⟨hx, hb, hml, hown, hts⟩ (c_X8_finds l g ad H.size V (1 : Int32) _ hw) (cwV 1 hts gX8_copy_X8_finds rfl rfl rfl (by decide +kernel) ⟨Nat.le_of_ble_eq_true rfl, Nat.le_of_ble_eq_true rfl⟩) (x_preV (k := 0) hK hE hI (by decide) rfl rfl) rfl rfl hl.1 rfl (lv_room (Nat.le_of_ble_eq_true rfl)) dX8_copy_37 ⟨Nat.zero_le _, Nat.zero_le _⟩) hI (fun r23 V22 H locs hw hI => ?_)
    exact W.iret (v := r23) hx hb hr (x_reti hI hw) hI.2.2.2.2 dX8_copy_40
  have hgo : ∀ (H : Heap) (locs : List Loc), WI g 13 (cM g ad) ad V s.heap H locs → W p l e (headSpec wsX8_copy rm_X8_copy).room s m args below meth c H locs 0 0 (MQ below (va_Qi K (WPost 13 (cM g ad) ad g) (AW ad 13 s.heap.size)) args s 0 0 (AW ad 13 s.heap.size)) (F0 m 0 ls []) := by
    intro H locs hI
    refine lv_iload_n hx hb dX8_copy_0 rfl (lv_at hl 1 rfl) ?_
    refine x_afti (va_runS (As := [.int x1]) (rest := []) ⟨hx, hb, hml, hown, hts⟩ (c_X8_isRow l g ad H.size V x1 _ hw) (cwS 1 hts gX8_copy_X8_isRow rfl rfl rfl (by decide +kernel) ⟨Nat.le_of_ble_eq_true rfl, Nat.le_of_ble_eq_true rfl⟩) (x_preS hK hE hI) rfl rfl hl.1 rfl (lv_room (Nat.le_of_ble_eq_true rfl)) dX8_copy_1 ⟨Nat.zero_le _, Nat.zero_le _⟩) hI (fun r2 V1 H locs hw hI => ?_)
    refine lv_if_eq (tgt := 14) hx hb dX8_copy_4 (by decide) (fun c3 => ?_) (fun c3 => ?_)
    · replace hw := hw.1 c3
      refine lv_ldc (v := (-1000001 : Int32)) hx hb hown hw_0 dX8_copy_14 ?_
      exact W.iret (v := (-1000001 : Int32)) hx hb hr (x_reti hI hw) hI.2.2.2.2 dX8_copy_16
    · replace hw := hw.2 c3
      refine lv_iload_n hx hb dX8_copy_7 rfl (lv_at hl 3 rfl) ?_
      refine x_afti (va_runS (As := [.int x3]) (rest := []) ⟨hx, hb, hml, hown, hts⟩ (c_X8_isRow l g ad H.size V1 x3 _ hw) (cwS 1 hts gX8_copy_X8_isRow rfl rfl rfl (by decide +kernel) ⟨Nat.le_of_ble_eq_true rfl, Nat.le_of_ble_eq_true rfl⟩) (x_preS hK hE hI) rfl rfl hl.1 rfl (lv_room (Nat.le_of_ble_eq_true rfl)) dX8_copy_8 ⟨Nat.zero_le _, Nat.zero_le _⟩) hI (fun r5 V4 H locs hw hI => ?_)
      refine lv_if_ne (tgt := 17) hx hb dX8_copy_11 (by decide) (fun c6 => ?_) (fun c6 => ?_)
      · replace hw := hw.1 c6
        refine lv_aload_n hx hb dX8_copy_17 rfl (lv_at hl 0 rfl) ?_
        refine mg_0 hx hb hts hin8 hown hK hI hw_1 dX8_copy_18 ?_
        refine lv_iload_n hx hb dX8_copy_21 rfl (lv_at hl 1 rfl) ?_
        obtain ⟨h7, hw⟩ := hw
        refine x_iald (k := 1) hx hb hK hI (by decide) rfl h7 dX8_copy_22 ?_
        refine lv_if_lt (tgt := 35) hx hb dX8_copy_23 (by decide) (fun c8 => ?_) (fun c8 => ?_)
        · replace hw := hw.1 c8
          exact hb35 V4 H locs ls  hI (lv_sub hl [0] rfl) hw
        · replace hw := hw.2 c8
          refine lv_aload_n hx hb dX8_copy_26 rfl (lv_at hl 0 rfl) ?_
          refine mg_0 hx hb hts hin8 hown hK hI hw_1 dX8_copy_27 ?_
          refine lv_iload_n hx hb dX8_copy_30 rfl (lv_at hl 3 rfl) ?_
          obtain ⟨h9, hw⟩ := hw
          refine x_iald (k := 1) hx hb hK hI (by decide) rfl h9 dX8_copy_31 ?_
          refine lv_if_ge (tgt := 41) hx hb dX8_copy_32 (by decide) (fun c10 => ?_) (fun c10 => ?_)
          · replace hw := hw.1 c10
            refine lv_aload_n hx hb dX8_copy_41 rfl (lv_at hl 0 rfl) ?_
            refine mg_0 hx hb hts hin8 hown hK hI hw_1 dX8_copy_42 ?_
            refine lv_iload_n hx hb dX8_copy_45 rfl (lv_at hl 1 rfl) ?_
            obtain ⟨h11, hw⟩ := hw
            refine x_iald (k := 1) hx hb hK hI (by decide) rfl h11 dX8_copy_46 ?_
            refine lv_aload_n hx hb dX8_copy_47 rfl (lv_at hl 0 rfl) ?_
            refine mg_0 hx hb hts hin8 hown hK hI hw_1 dX8_copy_48 ?_
            refine lv_iload_n hx hb dX8_copy_51 rfl (lv_at hl 3 rfl) ?_
            obtain ⟨h12, hw⟩ := hw
            refine x_iald (k := 1) hx hb hK hI (by decide) rfl h12 dX8_copy_52 ?_
            refine lv_icmp_eq (tgt := 62) hx hb dX8_copy_53 (by decide) (fun c13 => ?_) (fun c13 => ?_)
            · replace hw := hw.1 c13
              refine lv_aload_n hx hb dX8_copy_62 rfl (lv_at hl 0 rfl) ?_
              refine lv_iload_n hx hb dX8_copy_63 rfl (lv_at hl 1 rfl) ?_
              refine lv_iload_n hx hb dX8_copy_64 rfl (lv_at hl 2 rfl) ?_
              refine lv_iload hx hb dX8_copy_65 (lv_at hl 5 rfl) ?_
              refine x_afti (va_runV (As := [.int x1, .int x2, .int x5]) (rest := []) ⟨hx, hb, hml, hown, hts⟩ (c_X8_isPart l g ad H.size V4 x1 x2 x5 _ hw) (cwV 3 hts gX8_copy_X8_isPart rfl rfl rfl (by decide +kernel) ⟨Nat.le_of_ble_eq_true rfl, Nat.le_of_ble_eq_true rfl⟩) (x_preV (k := 0) hK hE hI (by decide) rfl rfl) rfl rfl hl.1 rfl (lv_room (Nat.le_of_ble_eq_true rfl)) dX8_copy_67 ⟨Nat.zero_le _, Nat.zero_le _⟩) hI (fun r15 V14 H locs hw hI => ?_)
              refine lv_if_eq (tgt := 85) hx hb dX8_copy_70 (by decide) (fun c16 => ?_) (fun c16 => ?_)
              · replace hw := hw.1 c16
                exact hb85 V14 H locs ls  hI (lv_sub hl [0] rfl) hw
              · replace hw := hw.2 c16
                refine lv_aload_n hx hb dX8_copy_73 rfl (lv_at hl 0 rfl) ?_
                refine lv_iload_n hx hb dX8_copy_74 rfl (lv_at hl 3 rfl) ?_
                refine lv_iload hx hb dX8_copy_75 (lv_at hl 4 rfl) ?_
                refine lv_iload hx hb dX8_copy_77 (lv_at hl 5 rfl) ?_
                refine x_afti (va_runV (As := [.int x3, .int x4, .int x5]) (rest := []) ⟨hx, hb, hml, hown, hts⟩ (c_X8_isPart l g ad H.size V14 x3 x4 x5 _ hw) (cwV 3 hts gX8_copy_X8_isPart rfl rfl rfl (by decide +kernel) ⟨Nat.le_of_ble_eq_true rfl, Nat.le_of_ble_eq_true rfl⟩) (x_preV (k := 0) hK hE hI (by decide) rfl rfl) rfl rfl hl.1 rfl (lv_room (Nat.le_of_ble_eq_true rfl)) dX8_copy_79 ⟨Nat.zero_le _, Nat.zero_le _⟩) hI (fun r18 V17 H locs hw hI => ?_)
                refine lv_if_ne (tgt := 91) hx hb dX8_copy_82 (by decide) (fun c19 => ?_) (fun c19 => ?_)
                · replace hw := hw.1 c19
                  refine lv_iconst (v := (0 : Int32)) hx hb dX8_copy_91 (by decide) ?_
                  refine lv_istore (lv' := [(6, .int (0 : Int32)), (0, .ref (ad 0)), (1, .int x1), (2, .int x2), (3, .int x3), (4, .int x4), (5, .int x5)]) hx hb dX8_copy_92 hl (by decide) rfl (fun ls hl => ?_)
                  obtain ⟨n94, hw⟩ := hw
                  exact hL94 n94 V17 H locs ls x1 x2 x3 x4 x5 (0 : Int32) hI (lv_sub hl [1, 2, 3, 4, 5, 6, 0] rfl) hw
                · replace hw := hw.2 c19
                  exact hb85 V17 H locs ls  hI (lv_sub hl [0] rfl) hw
            · replace hw := hw.2 c13
              refine lv_aload_n hx hb dX8_copy_56 rfl (lv_at hl 0 rfl) ?_
              refine lv_iconst (v := (5 : Int32)) hx hb dX8_copy_57 (by decide) ?_
              refine x_afti (va_runV (As := [.int (5 : Int32)]) (rest := []) ⟨hx, hb, hml, hown, hts⟩ (c_X8_finds l g ad H.size V4 (5 : Int32) _ hw) (cwV 1 hts gX8_copy_X8_finds rfl rfl rfl (by decide +kernel) ⟨Nat.le_of_ble_eq_true rfl, Nat.le_of_ble_eq_true rfl⟩) (x_preV (k := 0) hK hE hI (by decide) rfl rfl) rfl rfl hl.1 rfl (lv_room (Nat.le_of_ble_eq_true rfl)) dX8_copy_58 ⟨Nat.zero_le _, Nat.zero_le _⟩) hI (fun r21 V20 H locs hw hI => ?_)
              exact W.iret (v := r21) hx hb hr (x_reti hI hw) hI.2.2.2.2 dX8_copy_61
          · replace hw := hw.2 c10
            exact hb35 V4 H locs ls  hI (lv_sub hl [0] rfl) hw
      · replace hw := hw.2 c6
        refine lv_ldc (v := (-1000001 : Int32)) hx hb hown hw_0 dX8_copy_14 ?_
        exact W.iret (v := (-1000001 : Int32)) hx hb hr (x_reti hI hw) hI.2.2.2.2 dX8_copy_16
  exact hgo s.heap [] hI
