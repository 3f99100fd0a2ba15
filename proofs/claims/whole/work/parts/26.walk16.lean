def rm_X8_miss : Room := { frames := 4, cells := 0, slots := 0, locals := 87 }
set_option maxHeartbeats 4000000 in
set_option maxRecDepth 100000 in
theorem c_X8_miss (l : Launch) (g : GP) (ad : Nat → Nat) (sz : Nat) (V : VT) (x1 : Int32) (x2 : Int32) (x3 : Int32) (x4 : Int32) (x5 : Int32)  (K : Int64 → VT → Prop) (hw : wp_X8_miss V x1 x2 x3 x4 x5 K) : Met l yX8_miss wsX8_miss rm_X8_miss (va_Pc [.ref (ad 0), .int x1, .int x2, .int x3, .int x4, .int x5] (WPre 13 (cM g ad) ad g V sz)) (va_Ql K (WPost 13 (cM g ad) ad g) (AW ad 13 sz)) 0 0 (AW ad 13 sz) := by
  refine Met.ofW (cc := cX8_miss) (maxL := 20) (ret := (some .long)) (by decide) rfl ?_
  intro p e s m args below meth c s₁ B hml hv
  obtain ⟨ha, hv⟩ := hv
  obtain rfl := hv.1
  have hI : WI g 13 (cM g ad) ad V s.heap s.heap [] := WI.start hv
  have hK := hv.2.2.1
  have hE := hv.2.2.2.2
  have hx := B.exec
  have hb := B.bytes
  have hr := B.returns
  have hts := atoms_spec (ws := wsX8_miss) B.pre
  have hown : s.vm.findClass RX8 = some m.cls := findClass_of_methodNamed B.named
  have hlocks := B.notSynchronized
  have hw_0 := hts (.fieldLink RX8 136 "HoopLaneModel" "isLane" "Z") (by decide +kernel)
  have hw_1 := hts (.constantLong RX8 246 (24)) (by decide +kernel)
  have hw_2 := hts (.constantLong RX8 262 (10)) (by decide +kernel)
  have hw_3 := hts (.constantLong RX8 264 (-1000001)) (by decide +kernel)
  have hw_4 := hts (.constantLong RX8 260 (-1000002)) (by decide +kernel)
  have hw_5 := hts (.fieldLink RX8 16 "HoopLaneModel" "items" "[I") (by decide +kernel)
  have hw_6 := hts (.fieldLink RX8 47 "HoopLaneModel" "found" "I") (by decide +kernel)
  have hw_7 := hts (.fieldLink RX8 159 "HoopLaneModel" "end" "I") (by decide +kernel)
  have hin8 : ∀ w ∈ wsX80, w ∈ wsX8_miss := by decide +kernel
  have hl := lv_entry ([.ref (ad 0), .int x1, .int x2, .int x3, .int x4, .int x5]) (n := 20) (Nat.le_of_ble_eq_true rfl)
  have hent : entryFrame m args 20 = F0 m 0 ((lg_sl ([.ref (ad 0), .int x1, .int x2, .int x3, .int x4, .int x5]) ++ List.replicate (20 - (lg_sl ([.ref (ad 0), .int x1, .int x2, .int x3, .int x4, .int x5])).length) Slot.unset).toArray) [] := by rw [ha, lg_entry_eq]
  rw [hent]
  generalize (lg_sl ([.ref (ad 0), .int x1, .int x2, .int x3, .int x4, .int x5]) ++ List.replicate (20 - (lg_sl ([.ref (ad 0), .int x1, .int x2, .int x3, .int x4, .int x5])).length) Slot.unset).toArray = ls at hl ⊢
  have hl : lv_has ls 20 [(0, .ref (ad 0)), (1, .int x1), (2, .int x2), (3, .int x3), (4, .int x4), (5, .int x5)] := hl
  obtain ⟨H, hH⟩ : ∃ H : Heap, H = s.heap := ⟨_, rfl⟩
  have hL183 : ∀ (n183 : Nat) (V : VT) (H : Heap) (locs : List Loc) (ls : Array Slot) (x3 : Int32) (x4 : Int32) (x5 : Int32) (x7 : Int32) (x8 : Int32) (y9 : Int64) (y11 : Int64) (x13 : Int32), WI g 13 (cM g ad) ad V s.heap H locs → lv_has ls 20 [(0, .ref (ad 0)), (3, .int x3), (4, .int x4), (5, .int x5), (7, .int x7), (8, .int x8), (9, .long y9), (11, .long y11), (13, .int x13)] → wp_X8_miss_L183 K  n183 V x3 x4 x5 x7 x8 y9 y11 x13 → W p l e (headSpec wsX8_miss rm_X8_miss).room s m args below meth c H locs 0 0 (MQ below (va_Ql K (WPost 13 (cM g ad) ad g) (AW ad 13 s.heap.size)) args s 0 0 (AW ad 13 s.heap.size)) (F0 m 183 ls []) := by
    intro n183
    induction n183 with
    | zero => intro V H locs ls x3 x4 x5 x7 x8 y9 y11 x13  hI hl hw; exact False.elim hw
    | succ n183 ihL183 =>
      have hb315 : ∀ (V : VT) (H : Heap) (locs : List Loc) (ls : Array Slot) (x3 : Int32) (x4 : Int32) (x5 : Int32) (x7 : Int32) (x8 : Int32) (y11 : Int64) (x13 : Int32) (s0 : Int64) (s1 : Int64), WI g 13 (cM g ad) ad V s.heap H locs → lv_has ls 20 [(0, .ref (ad 0)), (3, .int x3), (4, .int x4), (5, .int x5), (7, .int x7), (8, .int x8), (11, .long y11), (13, .int x13)] → wp_X8_miss_b315 K (wp_X8_miss_L183 K  n183) V x3 x4 x5 x7 x8 y11 x13 s0 s1 → W p l e (headSpec wsX8_miss rm_X8_miss).room s m args below meth c H locs 0 0 (MQ below (va_Ql K (WPost 13 (cM g ad) ad g) (AW ad 13 s.heap.size)) args s 0 0 (AW ad 13 s.heap.size)) (F0 m 315 ls [.long s1, .long s0]) := by
        intro V H locs ls x3 x4 x5 x7 x8 y11 x13 s0 s1  hI hl hw
        refine lv_ladd hx hb dX8_miss_315 ?_
        refine lv_lstore (lv' := [(9, .long (s0 + s1)), (0, .ref (ad 0)), (3, .int x3), (4, .int x4), (5, .int x5), (7, .int x7), (8, .int x8), (11, .long y11), (13, .int x13)]) hx hb dX8_miss_316 hl (by decide) rfl (fun ls hl => ?_)
        refine lv_aload_n hx hb dX8_miss_318 rfl (lv_at hl 1 rfl) ?_
        refine x_aftv (va_runV (As := []) (rest := []) ⟨hx, hb, hml, hown, hts⟩ (c_X8_backs l g ad H.size V  _ hw) (cwV 0 hts gX8_miss_X8_backs rfl rfl rfl (by decide +kernel) ⟨Nat.le_of_ble_eq_true rfl, Nat.le_of_ble_eq_true rfl⟩) (x_preV (k := 0) hK hE hI (by decide) rfl rfl) rfl rfl hl.1 rfl (lv_room (Nat.le_of_ble_eq_true rfl)) dX8_miss_319 ⟨Nat.zero_le _, Nat.zero_le _⟩) hI (fun V39 H locs hw hI => ?_)
        refine lv_iinc (v := (x13 + (1 : Int32))) (lv' := [(13, .int (x13 + (1 : Int32))), (9, .long (s0 + s1)), (0, .ref (ad 0)), (3, .int x3), (4, .int x4), (5, .int x5), (7, .int x7), (8, .int x8), (11, .long y11)]) hx hb dX8_miss_322 hl (k := 8) rfl rfl (by decide) rfl (fun ls hl => ?_)
        refine lv_goto (tgt := 183) hx hb dX8_miss_325 (by decide) ?_
        exact ihL183 V39 H locs ls x3 x4 x5 x7 x8 (s0 + s1) y11 (x13 + (1 : Int32)) hI (lv_sub hl [2, 3, 4, 5, 6, 7, 1, 8, 0] rfl) hw
      have hL201 : ∀ (n201 : Nat) (V : VT) (H : Heap) (locs : List Loc) (ls : Array Slot) (x3 : Int32) (x4 : Int32) (x5 : Int32) (x7 : Int32) (x8 : Int32) (y9 : Int64) (y11 : Int64) (x13 : Int32) (y14 : Int64) (x16 : Int32) (x17 : Int32), WI g 13 (cM g ad) ad V s.heap H locs → lv_has ls 20 [(0, .ref (ad 0)), (3, .int x3), (4, .int x4), (5, .int x5), (7, .int x7), (8, .int x8), (9, .long y9), (11, .long y11), (13, .int x13), (14, .long y14), (16, .int x16), (17, .int x17)] → wp_X8_miss_L201 K (wp_X8_miss_L183 K  n183) n201 V x3 x4 x5 x7 x8 y9 y11 x13 y14 x16 x17 → W p l e (headSpec wsX8_miss rm_X8_miss).room s m args below meth c H locs 0 0 (MQ below (va_Ql K (WPost 13 (cM g ad) ad g) (AW ad 13 s.heap.size)) args s 0 0 (AW ad 13 s.heap.size)) (F0 m 201 ls []) := by
        intro n201
        induction n201 with
        | zero => intro V H locs ls x3 x4 x5 x7 x8 y9 y11 x13 y14 x16 x17  hI hl hw; exact False.elim hw
        | succ n201 ihL201 =>
          have hb293 : ∀ (V : VT) (H : Heap) (locs : List Loc) (ls : Array Slot) (x3 : Int32) (x4 : Int32) (x5 : Int32) (x7 : Int32) (x8 : Int32) (y9 : Int64) (y11 : Int64) (x13 : Int32) (y14 : Int64) (x16 : Int32) (x17 : Int32), WI g 13 (cM g ad) ad V s.heap H locs → lv_has ls 20 [(0, .ref (ad 0)), (3, .int x3), (4, .int x4), (5, .int x5), (7, .int x7), (8, .int x8), (9, .long y9), (11, .long y11), (13, .int x13), (14, .long y14), (16, .int x16), (17, .int x17)] → wp_X8_miss_b293 K (wp_X8_miss_L201 K (wp_X8_miss_L183 K  n183) n201) (wp_X8_miss_L183 K  n183) V x3 x4 x5 x7 x8 y9 y11 x13 y14 x16 x17 → W p l e (headSpec wsX8_miss rm_X8_miss).room s m args below meth c H locs 0 0 (MQ below (va_Ql K (WPost 13 (cM g ad) ad g) (AW ad 13 s.heap.size)) args s 0 0 (AW ad 13 s.heap.size)) (F0 m 293 ls []) := by
            intro V H locs ls x3 x4 x5 x7 x8 y9 y11 x13 y14 x16 x17  hI hl hw
            refine lv_iinc (v := (x17 + (1 : Int32))) (lv' := [(17, .int (x17 + (1 : Int32))), (0, .ref (ad 0)), (3, .int x3), (4, .int x4), (5, .int x5), (7, .int x7), (8, .int x8), (9, .long y9), (11, .long y11), (13, .int x13), (14, .long y14), (16, .int x16)]) hx hb dX8_miss_293 hl (k := 11) rfl rfl (by decide) rfl (fun ls hl => ?_)
            refine lv_goto (tgt := 201) hx hb dX8_miss_296 (by decide) ?_
            exact ihL201 V H locs ls x3 x4 x5 x7 x8 y9 y11 x13 y14 x16 (x17 + (1 : Int32)) hI (lv_sub hl [1, 2, 3, 4, 5, 6, 7, 8, 9, 10, 11, 0] rfl) hw
          have hb280 : ∀ (V : VT) (H : Heap) (locs : List Loc) (ls : Array Slot) (x3 : Int32) (x4 : Int32) (x5 : Int32) (x7 : Int32) (x8 : Int32) (y9 : Int64) (y11 : Int64) (x13 : Int32) (y14 : Int64) (x16 : Int32) (x17 : Int32) (x18 : Int32), WI g 13 (cM g ad) ad V s.heap H locs → lv_has ls 20 [(0, .ref (ad 0)), (3, .int x3), (4, .int x4), (5, .int x5), (7, .int x7), (8, .int x8), (9, .long y9), (11, .long y11), (13, .int x13), (14, .long y14), (16, .int x16), (17, .int x17), (18, .int x18)] → wp_X8_miss_b280 K (wp_X8_miss_L201 K (wp_X8_miss_L183 K  n183) n201) (wp_X8_miss_L183 K  n183) V x3 x4 x5 x7 x8 y9 y11 x13 y14 x16 x17 x18 → W p l e (headSpec wsX8_miss rm_X8_miss).room s m args below meth c H locs 0 0 (MQ below (va_Ql K (WPost 13 (cM g ad) ad g) (AW ad 13 s.heap.size)) args s 0 0 (AW ad 13 s.heap.size)) (F0 m 280 ls []) := by
            intro V H locs ls x3 x4 x5 x7 x8 y9 y11 x13 y14 x16 x17 x18  hI hl hw
            refine lv_aload_n hx hb dX8_miss_280 rfl (lv_at hl 0 rfl) ?_
            refine mg_19 hx hb hts hin8 hown hK hI hw_7 dX8_miss_281 ?_
            refine lv_if_ne (tgt := 293) hx hb dX8_miss_284 (by decide) (fun c40 => ?_) (fun c40 => ?_)
            · replace hw := hw.1 c40
              exact hb293 V H locs ls x3 x4 x5 x7 x8 y9 y11 x13 y14 x16 x17 hI (lv_sub hl [0, 1, 2, 3, 4, 5, 6, 7, 8, 9, 10, 11] rfl) hw
            · replace hw := hw.2 c40
              refine lv_aload_n hx hb dX8_miss_287 rfl (lv_at hl 0 rfl) ?_
              refine lv_iload hx hb dX8_miss_288 (lv_at hl 12 rfl) ?_
              refine x_aftv (va_runV (As := [.int x18]) (rest := []) ⟨hx, hb, hml, hown, hts⟩ (c_X8_goesWith l g ad H.size V x18 _ hw) (cwV 1 hts gX8_miss_X8_goesWith rfl rfl rfl (by decide +kernel) ⟨Nat.le_of_ble_eq_true rfl, Nat.le_of_ble_eq_true rfl⟩) (x_preV (k := 0) hK hE hI (by decide) rfl rfl) rfl rfl hl.1 rfl (lv_room (Nat.le_of_ble_eq_true rfl)) dX8_miss_290 ⟨Nat.zero_le _, Nat.zero_le _⟩) hI (fun V41 H locs hw hI => ?_)
              exact hb293 V41 H locs ls x3 x4 x5 x7 x8 y9 y11 x13 y14 x16 x17 hI (lv_sub hl [0, 1, 2, 3, 4, 5, 6, 7, 8, 9, 10, 11] rfl) hw
          have hb275 : ∀ (V : VT) (H : Heap) (locs : List Loc) (ls : Array Slot) (x3 : Int32) (x4 : Int32) (x5 : Int32) (x7 : Int32) (x8 : Int32) (y9 : Int64) (y11 : Int64) (x13 : Int32) (y14 : Int64) (x16 : Int32) (x17 : Int32) (s0 : Int32), WI g 13 (cM g ad) ad V s.heap H locs → lv_has ls 20 [(0, .ref (ad 0)), (3, .int x3), (4, .int x4), (5, .int x5), (7, .int x7), (8, .int x8), (9, .long y9), (11, .long y11), (13, .int x13), (14, .long y14), (16, .int x16), (17, .int x17)] → wp_X8_miss_b275 K (wp_X8_miss_L201 K (wp_X8_miss_L183 K  n183) n201) (wp_X8_miss_L183 K  n183) V x3 x4 x5 x7 x8 y9 y11 x13 y14 x16 x17 s0 → W p l e (headSpec wsX8_miss rm_X8_miss).room s m args below meth c H locs 0 0 (MQ below (va_Ql K (WPost 13 (cM g ad) ad g) (AW ad 13 s.heap.size)) args s 0 0 (AW ad 13 s.heap.size)) (F0 m 275 ls [.int s0]) := by
            intro V H locs ls x3 x4 x5 x7 x8 y9 y11 x13 y14 x16 x17 s0  hI hl hw
            refine lv_istore (lv' := [(18, .int s0), (0, .ref (ad 0)), (3, .int x3), (4, .int x4), (5, .int x5), (7, .int x7), (8, .int x8), (9, .long y9), (11, .long y11), (13, .int x13), (14, .long y14), (16, .int x16), (17, .int x17)]) hx hb dX8_miss_275 hl (by decide) rfl (fun ls hl => ?_)
            refine lv_iinc (v := (x16 + (1 : Int32))) (lv' := [(16, .int (x16 + (1 : Int32))), (18, .int s0), (0, .ref (ad 0)), (3, .int x3), (4, .int x4), (5, .int x5), (7, .int x7), (8, .int x8), (9, .long y9), (11, .long y11), (13, .int x13), (14, .long y14), (17, .int x17)]) hx hb dX8_miss_277 hl (k := 11) rfl rfl (by decide) rfl (fun ls hl => ?_)
            exact hb280 V H locs ls x3 x4 x5 x7 x8 y9 y11 x13 y14 (x16 + (1 : Int32)) x17 s0 hI (lv_sub hl [2, 3, 4, 5, 6, 7, 8, 9, 10, 11, 0, 12, 1] rfl) hw
          have hb261 : ∀ (V : VT) (H : Heap) (locs : List Loc) (ls : Array Slot) (x3 : Int32) (x4 : Int32) (x5 : Int32) (x7 : Int32) (x8 : Int32) (y9 : Int64) (y11 : Int64) (x13 : Int32) (x16 : Int32) (x17 : Int32) (x18 : Int32) (x19 : Int32) (s0 : Int64) (s1 : Int64), WI g 13 (cM g ad) ad V s.heap H locs → lv_has ls 20 [(0, .ref (ad 0)), (3, .int x3), (4, .int x4), (5, .int x5), (7, .int x7), (8, .int x8), (9, .long y9), (11, .long y11), (13, .int x13), (16, .int x16), (17, .int x17), (18, .int x18), (19, .int x19)] → wp_X8_miss_b261 K (wp_X8_miss_L201 K (wp_X8_miss_L183 K  n183) n201) (wp_X8_miss_L183 K  n183) V x3 x4 x5 x7 x8 y9 y11 x13 x16 x17 x18 x19 s0 s1 → W p l e (headSpec wsX8_miss rm_X8_miss).room s m args below meth c H locs 0 0 (MQ below (va_Ql K (WPost 13 (cM g ad) ad g) (AW ad 13 s.heap.size)) args s 0 0 (AW ad 13 s.heap.size)) (F0 m 261 ls [.long s1, .long s0]) := by
            intro V H locs ls x3 x4 x5 x7 x8 y9 y11 x13 x16 x17 x18 x19 s0 s1  hI hl hw
            refine lv_lmul hx hb dX8_miss_261 ?_
            refine lv_lstore (lv' := [(14, .long (s0 * s1)), (0, .ref (ad 0)), (3, .int x3), (4, .int x4), (5, .int x5), (7, .int x7), (8, .int x8), (9, .long y9), (11, .long y11), (13, .int x13), (16, .int x16), (17, .int x17), (18, .int x18), (19, .int x19)]) hx hb dX8_miss_262 hl (by decide) rfl (fun ls hl => ?_)
            refine lv_iload hx hb dX8_miss_264 (lv_at hl 13 rfl) ?_
            refine lv_if_eq (tgt := 273) hx hb dX8_miss_266 (by decide) (fun c43 => ?_) (fun c43 => ?_)
            · replace hw := hw.1 c43
              refine lv_iload hx hb dX8_miss_273 (lv_at hl 12 rfl) ?_
              exact hb275 V H locs ls x3 x4 x5 x7 x8 y9 y11 x13 (s0 * s1) x16 x17 x18 hI (lv_sub hl [1, 2, 3, 4, 5, 6, 7, 8, 9, 0, 10, 11] rfl) hw
            · replace hw := hw.2 c43
              refine lv_iconst (v := (-1 : Int32)) hx hb dX8_miss_269 (by decide) ?_
              refine lv_goto (tgt := 275) hx hb dX8_miss_270 (by decide) ?_
              exact hb275 V H locs ls x3 x4 x5 x7 x8 y9 y11 x13 (s0 * s1) x16 x17 (-1 : Int32) hI (lv_sub hl [1, 2, 3, 4, 5, 6, 7, 8, 9, 0, 10, 11] rfl) hw
          have hb240 : ∀ (V : VT) (H : Heap) (locs : List Loc) (ls : Array Slot) (x3 : Int32) (x4 : Int32) (x5 : Int32) (x7 : Int32) (x8 : Int32) (y9 : Int64) (y11 : Int64) (x13 : Int32) (y14 : Int64) (x16 : Int32) (x17 : Int32) (x18 : Int32) (s0 : Int32), WI g 13 (cM g ad) ad V s.heap H locs → lv_has ls 20 [(0, .ref (ad 0)), (3, .int x3), (4, .int x4), (5, .int x5), (7, .int x7), (8, .int x8), (9, .long y9), (11, .long y11), (13, .int x13), (14, .long y14), (16, .int x16), (17, .int x17), (18, .int x18)] → wp_X8_miss_b240 K (wp_X8_miss_L201 K (wp_X8_miss_L183 K  n183) n201) (wp_X8_miss_L183 K  n183) V x3 x4 x5 x7 x8 y9 y11 x13 y14 x16 x17 x18 s0 → W p l e (headSpec wsX8_miss rm_X8_miss).room s m args below meth c H locs 0 0 (MQ below (va_Ql K (WPost 13 (cM g ad) ad g) (AW ad 13 s.heap.size)) args s 0 0 (AW ad 13 s.heap.size)) (F0 m 240 ls [.int s0]) := by
            intro V H locs ls x3 x4 x5 x7 x8 y9 y11 x13 y14 x16 x17 x18 s0  hI hl hw
            refine lv_istore (lv' := [(19, .int s0), (0, .ref (ad 0)), (3, .int x3), (4, .int x4), (5, .int x5), (7, .int x7), (8, .int x8), (9, .long y9), (11, .long y11), (13, .int x13), (14, .long y14), (16, .int x16), (17, .int x17), (18, .int x18)]) hx hb dX8_miss_240 hl (by decide) rfl (fun ls hl => ?_)
            refine lv_lload hx hb dX8_miss_242 (lv_at hl 10 rfl) ?_
            refine lv_iload hx hb dX8_miss_244 (lv_at hl 0 rfl) ?_
            refine lv_if_eq (tgt := 255) hx hb dX8_miss_246 (by decide) (fun c42 => ?_) (fun c42 => ?_)
            · replace hw := hw.1 c42
              refine lv_bipush (v := (10 : Int32)) hx hb dX8_miss_255 (by decide) ?_
              refine lv_iload hx hb dX8_miss_257 (lv_at hl 3 rfl) ?_
              refine lv_isub hx hb dX8_miss_259 ?_
              refine lv_i2l (v := (((10 : Int32) - x4)).toInt64) hx hb dX8_miss_260 rfl ?_
              exact hb261 V H locs ls x3 x4 x5 x7 x8 y9 y11 x13 x16 x17 x18 s0 y14 ((((10 : Int32) - x4)).toInt64) hI (lv_sub hl [1, 2, 3, 4, 5, 6, 7, 8, 9, 11, 12, 13, 0] rfl) hw
            · replace hw := hw.2 c42
              refine lv_iload hx hb dX8_miss_249 (lv_at hl 3 rfl) ?_
              refine lv_i2l (v := (x4).toInt64) hx hb dX8_miss_251 rfl ?_
              refine lv_goto (tgt := 261) hx hb dX8_miss_252 (by decide) ?_
              exact hb261 V H locs ls x3 x4 x5 x7 x8 y9 y11 x13 x16 x17 x18 s0 y14 ((x4).toInt64) hI (lv_sub hl [1, 2, 3, 4, 5, 6, 7, 8, 9, 11, 12, 13, 0] rfl) hw
          intro V H locs ls x3 x4 x5 x7 x8 y9 y11 x13 y14 x16 x17  hI hl hw
          refine lv_iload hx hb dX8_miss_201 (lv_at hl 11 rfl) ?_
          refine lv_iload_n hx hb dX8_miss_203 rfl (lv_at hl 1 rfl) ?_
          refine lv_icmp_ge (tgt := 299) hx hb dX8_miss_204 (by decide) (fun c34 => ?_) (fun c34 => ?_)
          · replace hw := hw.1 c34
            refine lv_lload hx hb dX8_miss_299 (lv_at hl 6 rfl) ?_
            refine lv_aload_n hx hb dX8_miss_301 rfl (lv_at hl 0 rfl) ?_
            refine mg_19 hx hb hts hin8 hown hK hI hw_7 dX8_miss_302 ?_
            refine lv_iconst (v := (2 : Int32)) hx hb dX8_miss_305 (by decide) ?_
            refine lv_icmp_ne (tgt := 314) hx hb dX8_miss_306 (by decide) (fun c35 => ?_) (fun c35 => ?_)
            · replace hw := hw.1 c35
              refine lv_lconst (v := (0 : Int64)) hx hb dX8_miss_314 (by decide) ?_
              exact hb315 V H locs ls x3 x4 x5 x7 x8 y11 x13 y9 (0 : Int64) hI (lv_sub hl [0, 1, 2, 3, 4, 5, 7, 8] rfl) hw
            · replace hw := hw.2 c35
              refine lv_lload hx hb dX8_miss_309 (lv_at hl 9 rfl) ?_
              refine lv_goto (tgt := 315) hx hb dX8_miss_311 (by decide) ?_
              exact hb315 V H locs ls x3 x4 x5 x7 x8 y11 x13 y9 y14 hI (lv_sub hl [0, 1, 2, 3, 4, 5, 7, 8] rfl) hw
          · replace hw := hw.2 c34
            refine lv_aload_n hx hb dX8_miss_207 rfl (lv_at hl 0 rfl) ?_
            refine mg_2 hx hb hts hin8 hown hK hI hw_5 dX8_miss_208 ?_
            refine lv_iload hx hb dX8_miss_211 (lv_at hl 4 rfl) ?_
            refine lv_iload hx hb dX8_miss_213 (lv_at hl 11 rfl) ?_
            refine lv_iadd hx hb dX8_miss_215 ?_
            obtain ⟨h36, hw⟩ := hw
            refine x_iald (k := 3) hx hb hK hI (by decide) rfl h36 dX8_miss_216 ?_
            refine lv_istore (lv' := [(18, .int (V 3 ((x7 + x17)).toNatClampNeg)), (0, .ref (ad 0)), (3, .int x3), (4, .int x4), (5, .int x5), (7, .int x7), (8, .int x8), (9, .long y9), (11, .long y11), (13, .int x13), (14, .long y14), (16, .int x16), (17, .int x17)]) hx hb dX8_miss_217 hl (by decide) rfl (fun ls hl => ?_)
            refine lv_iload hx hb dX8_miss_219 (lv_at hl 0 rfl) ?_
            refine lv_if_lt (tgt := 280) hx hb dX8_miss_221 (by decide) (fun c37 => ?_) (fun c37 => ?_)
            · replace hw := hw.1 c37
              exact hb280 V H locs ls x3 x4 x5 x7 x8 y9 y11 x13 y14 x16 x17 (V 3 ((x7 + x17)).toNatClampNeg) hI (lv_sub hl [1, 2, 3, 4, 5, 6, 7, 8, 9, 10, 11, 12, 0] rfl) hw
            · replace hw := hw.2 c37
              refine lv_iload hx hb dX8_miss_224 (lv_at hl 9 rfl) ?_
              refine lv_iload hx hb dX8_miss_226 (lv_at hl 11 rfl) ?_
              refine lv_ishr hx hb dX8_miss_228 ?_
              refine lv_iconst (v := (1 : Int32)) hx hb dX8_miss_229 (by decide) ?_
              refine lv_iand hx hb dX8_miss_230 ?_
              refine lv_iconst (v := (1 : Int32)) hx hb dX8_miss_231 (by decide) ?_
              refine lv_icmp_ne (tgt := 239) hx hb dX8_miss_232 (by decide) (fun c38 => ?_) (fun c38 => ?_)
              · replace hw := hw.1 c38
                refine lv_iconst (v := (0 : Int32)) hx hb dX8_miss_239 (by decide) ?_
                exact hb240 V H locs ls x3 x4 x5 x7 x8 y9 y11 x13 y14 x16 x17 (V 3 ((x7 + x17)).toNatClampNeg) (0 : Int32) hI (lv_sub hl [1, 2, 3, 4, 5, 6, 7, 8, 9, 10, 11, 12, 0] rfl) hw
              · replace hw := hw.2 c38
                refine lv_iconst (v := (1 : Int32)) hx hb dX8_miss_235 (by decide) ?_
                refine lv_goto (tgt := 240) hx hb dX8_miss_236 (by decide) ?_
                exact hb240 V H locs ls x3 x4 x5 x7 x8 y9 y11 x13 y14 x16 x17 (V 3 ((x7 + x17)).toNatClampNeg) (1 : Int32) hI (lv_sub hl [1, 2, 3, 4, 5, 6, 7, 8, 9, 10, 11, 12, 0] rfl) hw
      intro V H locs ls x3 x4 x5 x7 x8 y9 y11 x13  hI hl hw
      refine lv_iload hx hb dX8_miss_183 (lv_at hl 8 rfl) ?_
      refine lv_iconst (v := (1 : Int32)) hx hb dX8_miss_185 (by decide) ?_
      refine lv_iload hx hb dX8_miss_186 (lv_at hl 5 rfl) ?_
      refine lv_ishl hx hb dX8_miss_188 ?_
      refine lv_icmp_ge (tgt := 328) hx hb dX8_miss_189 (by decide) (fun c27 => ?_) (fun c27 => ?_)
      · replace hw := hw.1 c27
        refine lv_lload hx hb dX8_miss_328 (lv_at hl 6 rfl) ?_
        refine lv_lload hx hb dX8_miss_330 (lv_at hl 7 rfl) ?_
        refine x_aftl (va_runS (As := [.long y9, .long y11]) (rest := []) ⟨hx, hb, hml, hown, hts⟩ (c_X8_common l g ad H.size V y9 y11 _ hw) (cwS 2 hts gX8_miss_X8_common rfl rfl rfl (by decide +kernel) ⟨Nat.le_of_ble_eq_true rfl, Nat.le_of_ble_eq_true rfl⟩) (x_preS hK hE hI) rfl rfl hl.1 rfl (lv_room (Nat.le_of_ble_eq_true rfl)) dX8_miss_332 ⟨Nat.zero_le _, Nat.zero_le _⟩) hI (fun r29 V28 H locs hw hI => ?_)
        refine lv_lstore (lv' := [(13, .long r29), (0, .ref (ad 0)), (3, .int x3), (4, .int x4), (5, .int x5), (7, .int x7), (8, .int x8), (9, .long y9), (11, .long y11)]) hx hb dX8_miss_335 hl (by decide) rfl (fun ls hl => ?_)
        refine lv_aload_n hx hb dX8_miss_337 rfl (lv_at hl 1 rfl) ?_
        refine lv_iconst (v := (0 : Int32)) hx hb dX8_miss_338 (by decide) ?_
        refine mp_4 hx hb hts hin8 hown hK hI hw_6 dX8_miss_339 (fun V30 H locs eV30 hI => ?_)
        replace hw := hw V30 eV30
        refine lv_iload hx hb dX8_miss_342 (lv_at hl 4 rfl) ?_
        refine lv_if_ne (tgt := 355) hx hb dX8_miss_344 (by decide) (fun c31 => ?_) (fun c31 => ?_)
        · replace hw := hw.1 c31
          refine lv_lload hx hb dX8_miss_355 (lv_at hl 8 rfl) ?_
          refine lv_lload hx hb dX8_miss_357 (lv_at hl 0 rfl) ?_
          obtain ⟨h32, hw⟩ := hw
          refine lv_ldiv hx hb dX8_miss_359 h32 ?_
          exact W.lret (v := (y11 / r29)) hx hb hr (x_retl hI hw) hI.2.2.2.2 dX8_miss_360
        · replace hw := hw.2 c31
          refine lv_lload hx hb dX8_miss_347 (lv_at hl 7 rfl) ?_
          refine lv_lload hx hb dX8_miss_349 (lv_at hl 0 rfl) ?_
          obtain ⟨h33, hw⟩ := hw
          refine lv_ldiv hx hb dX8_miss_351 h33 ?_
          refine lv_goto (tgt := 360) hx hb dX8_miss_352 (by decide) ?_
          exact W.lret (v := (y9 / r29)) hx hb hr (x_retl hI hw) hI.2.2.2.2 dX8_miss_360
      · replace hw := hw.2 c27
        refine lv_lconst (v := (1 : Int64)) hx hb dX8_miss_192 (by decide) ?_
        refine lv_lstore (lv' := [(14, .long (1 : Int64)), (0, .ref (ad 0)), (3, .int x3), (4, .int x4), (5, .int x5), (7, .int x7), (8, .int x8), (9, .long y9), (11, .long y11), (13, .int x13)]) hx hb dX8_miss_193 hl (by decide) rfl (fun ls hl => ?_)
        refine lv_iconst (v := (0 : Int32)) hx hb dX8_miss_195 (by decide) ?_
        refine lv_istore (lv' := [(16, .int (0 : Int32)), (14, .long (1 : Int64)), (0, .ref (ad 0)), (3, .int x3), (4, .int x4), (5, .int x5), (7, .int x7), (8, .int x8), (9, .long y9), (11, .long y11), (13, .int x13)]) hx hb dX8_miss_196 hl (by decide) rfl (fun ls hl => ?_)
        refine lv_iconst (v := (0 : Int32)) hx hb dX8_miss_198 (by decide) ?_
        refine lv_istore (lv' := [(17, .int (0 : Int32)), (16, .int (0 : Int32)), (14, .long (1 : Int64)), (0, .ref (ad 0)), (3, .int x3), (4, .int x4), (5, .int x5), (7, .int x7), (8, .int x8), (9, .long y9), (11, .long y11), (13, .int x13)]) hx hb dX8_miss_199 hl (by decide) rfl (fun ls hl => ?_)
        obtain ⟨n201, hw⟩ := hw
        exact hL201 n201 V H locs ls x3 x4 x5 x7 x8 y9 y11 x13 (1 : Int64) (0 : Int32) (0 : Int32) hI (lv_sub hl [3, 4, 5, 6, 7, 8, 9, 10, 11, 2, 1, 0] rfl) hw
  have hL159 : ∀ (n159 : Nat) (V : VT) (H : Heap) (locs : List Loc) (ls : Array Slot) (x3 : Int32) (x4 : Int32) (x5 : Int32) (x7 : Int32) (x8 : Int32) (y9 : Int64) (y11 : Int64) (x13 : Int32), WI g 13 (cM g ad) ad V s.heap H locs → lv_has ls 20 [(0, .ref (ad 0)), (3, .int x3), (4, .int x4), (5, .int x5), (7, .int x7), (8, .int x8), (9, .long y9), (11, .long y11), (13, .int x13)] → wp_X8_miss_L159 K  n159 V x3 x4 x5 x7 x8 y9 y11 x13 → W p l e (headSpec wsX8_miss rm_X8_miss).room s m args below meth c H locs 0 0 (MQ below (va_Ql K (WPost 13 (cM g ad) ad g) (AW ad 13 s.heap.size)) args s 0 0 (AW ad 13 s.heap.size)) (F0 m 159 ls []) := by
    intro n159
    induction n159 with
    | zero => intro V H locs ls x3 x4 x5 x7 x8 y9 y11 x13  hI hl hw; exact False.elim hw
    | succ n159 ihL159 =>
      intro V H locs ls x3 x4 x5 x7 x8 y9 y11 x13  hI hl hw
      refine lv_iload hx hb dX8_miss_159 (lv_at hl 8 rfl) ?_
      refine lv_iload hx hb dX8_miss_161 (lv_at hl 5 rfl) ?_
      refine lv_icmp_ge (tgt := 180) hx hb dX8_miss_163 (by decide) (fun c26 => ?_) (fun c26 => ?_)
      · replace hw := hw.1 c26
        refine lv_iconst (v := (0 : Int32)) hx hb dX8_miss_180 (by decide) ?_
        refine lv_istore (lv' := [(13, .int (0 : Int32)), (0, .ref (ad 0)), (3, .int x3), (4, .int x4), (5, .int x5), (7, .int x7), (8, .int x8), (9, .long y9), (11, .long y11)]) hx hb dX8_miss_181 hl (by decide) rfl (fun ls hl => ?_)
        obtain ⟨n183, hw⟩ := hw
        exact hL183 n183 V H locs ls x3 x4 x5 x7 x8 y9 y11 (0 : Int32) hI (lv_sub hl [1, 2, 3, 4, 5, 6, 7, 8, 0] rfl) hw
      · replace hw := hw.2 c26
        refine lv_lload hx hb dX8_miss_166 (lv_at hl 7 rfl) ?_
        refine lv_ldc2 (v := (10 : Int64)) hx hb hown hw_2 dX8_miss_168 ?_
        refine lv_lmul hx hb dX8_miss_171 ?_
        refine lv_lstore (lv' := [(11, .long (y11 * (10 : Int64))), (0, .ref (ad 0)), (3, .int x3), (4, .int x4), (5, .int x5), (7, .int x7), (8, .int x8), (9, .long y9), (13, .int x13)]) hx hb dX8_miss_172 hl (by decide) rfl (fun ls hl => ?_)
        refine lv_iinc (v := (x13 + (1 : Int32))) (lv' := [(13, .int (x13 + (1 : Int32))), (11, .long (y11 * (10 : Int64))), (0, .ref (ad 0)), (3, .int x3), (4, .int x4), (5, .int x5), (7, .int x7), (8, .int x8), (9, .long y9)]) hx hb dX8_miss_174 hl (k := 8) rfl rfl (by decide) rfl (fun ls hl => ?_)
        refine lv_goto (tgt := 159) hx hb dX8_miss_177 (by decide) ?_
        exact ihL159 V H locs ls x3 x4 x5 x7 x8 y9 (y11 * (10 : Int64)) (x13 + (1 : Int32)) hI (lv_sub hl [2, 3, 4, 5, 6, 7, 8, 1, 0] rfl) hw
  have hL110 : ∀ (n110 : Nat) (V : VT) (H : Heap) (locs : List Loc) (ls : Array Slot) (x3 : Int32) (x4 : Int32) (x5 : Int32) (x7 : Int32) (x8 : Int32) (x9 : Int32), WI g 13 (cM g ad) ad V s.heap H locs → lv_has ls 20 [(0, .ref (ad 0)), (3, .int x3), (4, .int x4), (5, .int x5), (7, .int x7), (8, .int x8), (9, .int x9)] → wp_X8_miss_L110 K  n110 V x3 x4 x5 x7 x8 x9 → W p l e (headSpec wsX8_miss rm_X8_miss).room s m args below meth c H locs 0 0 (MQ below (va_Ql K (WPost 13 (cM g ad) ad g) (AW ad 13 s.heap.size)) args s 0 0 (AW ad 13 s.heap.size)) (F0 m 110 ls []) := by
    intro n110
    induction n110 with
    | zero => intro V H locs ls x3 x4 x5 x7 x8 x9  hI hl hw; exact False.elim hw
    | succ n110 ihL110 =>
      have hb137 : ∀ (V : VT) (H : Heap) (locs : List Loc) (ls : Array Slot) (x3 : Int32) (x4 : Int32) (x5 : Int32) (x7 : Int32) (x9 : Int32) (s0 : Int32) (s1 : Int32), WI g 13 (cM g ad) ad V s.heap H locs → lv_has ls 20 [(0, .ref (ad 0)), (3, .int x3), (4, .int x4), (5, .int x5), (7, .int x7), (9, .int x9)] → wp_X8_miss_b137 K (wp_X8_miss_L110 K  n110) V x3 x4 x5 x7 x9 s0 s1 → W p l e (headSpec wsX8_miss rm_X8_miss).room s m args below meth c H locs 0 0 (MQ below (va_Ql K (WPost 13 (cM g ad) ad g) (AW ad 13 s.heap.size)) args s 0 0 (AW ad 13 s.heap.size)) (F0 m 137 ls [.int s1, .int s0]) := by
        intro V H locs ls x3 x4 x5 x7 x9 s0 s1  hI hl hw
        refine lv_iadd hx hb dX8_miss_137 ?_
        refine lv_istore (lv' := [(8, .int (s0 + s1)), (0, .ref (ad 0)), (3, .int x3), (4, .int x4), (5, .int x5), (7, .int x7), (9, .int x9)]) hx hb dX8_miss_138 hl (by decide) rfl (fun ls hl => ?_)
        refine lv_iinc (v := (x9 + (1 : Int32))) (lv' := [(9, .int (x9 + (1 : Int32))), (8, .int (s0 + s1)), (0, .ref (ad 0)), (3, .int x3), (4, .int x4), (5, .int x5), (7, .int x7)]) hx hb dX8_miss_140 hl (k := 6) rfl rfl (by decide) rfl (fun ls hl => ?_)
        refine lv_goto (tgt := 110) hx hb dX8_miss_143 (by decide) ?_
        exact ihL110 V H locs ls x3 x4 x5 x7 (s0 + s1) (x9 + (1 : Int32)) hI (lv_sub hl [2, 3, 4, 5, 6, 1, 0] rfl) hw
      intro V H locs ls x3 x4 x5 x7 x8 x9  hI hl hw
      refine lv_iload hx hb dX8_miss_110 (lv_at hl 6 rfl) ?_
      refine lv_iload_n hx hb dX8_miss_112 rfl (lv_at hl 1 rfl) ?_
      refine lv_icmp_ge (tgt := 146) hx hb dX8_miss_113 (by decide) (fun c22 => ?_) (fun c22 => ?_)
      · replace hw := hw.1 c22
        refine lv_aload_n hx hb dX8_miss_146 rfl (lv_at hl 0 rfl) ?_
        refine x_aftv (va_runV (As := []) (rest := []) ⟨hx, hb, hml, hown, hts⟩ (c_X8_asides l g ad H.size V  _ hw) (cwV 0 hts gX8_miss_X8_asides rfl rfl rfl (by decide +kernel) ⟨Nat.le_of_ble_eq_true rfl, Nat.le_of_ble_eq_true rfl⟩) (x_preV (k := 0) hK hE hI (by decide) rfl rfl) rfl rfl hl.1 rfl (lv_room (Nat.le_of_ble_eq_true rfl)) dX8_miss_147 ⟨Nat.zero_le _, Nat.zero_le _⟩) hI (fun V23 H locs hw hI => ?_)
        refine lv_lconst (v := (0 : Int64)) hx hb dX8_miss_150 (by decide) ?_
        refine lv_lstore (lv' := [(9, .long (0 : Int64)), (0, .ref (ad 0)), (3, .int x3), (4, .int x4), (5, .int x5), (7, .int x7), (8, .int x8)]) hx hb dX8_miss_151 hl (by decide) rfl (fun ls hl => ?_)
        refine lv_lconst (v := (1 : Int64)) hx hb dX8_miss_153 (by decide) ?_
        refine lv_lstore (lv' := [(11, .long (1 : Int64)), (9, .long (0 : Int64)), (0, .ref (ad 0)), (3, .int x3), (4, .int x4), (5, .int x5), (7, .int x7), (8, .int x8)]) hx hb dX8_miss_154 hl (by decide) rfl (fun ls hl => ?_)
        refine lv_iconst (v := (0 : Int32)) hx hb dX8_miss_156 (by decide) ?_
        refine lv_istore (lv' := [(13, .int (0 : Int32)), (11, .long (1 : Int64)), (9, .long (0 : Int64)), (0, .ref (ad 0)), (3, .int x3), (4, .int x4), (5, .int x5), (7, .int x7), (8, .int x8)]) hx hb dX8_miss_157 hl (by decide) rfl (fun ls hl => ?_)
        obtain ⟨n159, hw⟩ := hw
        exact hL159 n159 V23 H locs ls x3 x4 x5 x7 x8 (0 : Int64) (1 : Int64) (0 : Int32) hI (lv_sub hl [3, 4, 5, 6, 7, 8, 2, 1, 0] rfl) hw
      · replace hw := hw.2 c22
        refine lv_iload hx hb dX8_miss_116 (lv_at hl 5 rfl) ?_
        refine lv_aload_n hx hb dX8_miss_118 rfl (lv_at hl 0 rfl) ?_
        refine mg_2 hx hb hts hin8 hown hK hI hw_5 dX8_miss_119 ?_
        refine lv_iload hx hb dX8_miss_122 (lv_at hl 4 rfl) ?_
        refine lv_iload hx hb dX8_miss_124 (lv_at hl 6 rfl) ?_
        refine lv_iadd hx hb dX8_miss_126 ?_
        obtain ⟨h24, hw⟩ := hw
        refine x_iald (k := 3) hx hb hK hI (by decide) rfl h24 dX8_miss_127 ?_
        refine lv_iconst (v := (-1 : Int32)) hx hb dX8_miss_128 (by decide) ?_
        refine lv_icmp_ne (tgt := 136) hx hb dX8_miss_129 (by decide) (fun c25 => ?_) (fun c25 => ?_)
        · replace hw := hw.1 c25
          refine lv_iconst (v := (1 : Int32)) hx hb dX8_miss_136 (by decide) ?_
          exact hb137 V H locs ls x3 x4 x5 x7 x9 x8 (1 : Int32) hI (lv_sub hl [0, 1, 2, 3, 4, 6] rfl) hw
        · replace hw := hw.2 c25
          refine lv_iconst (v := (0 : Int32)) hx hb dX8_miss_132 (by decide) ?_
          refine lv_goto (tgt := 137) hx hb dX8_miss_133 (by decide) ?_
          exact hb137 V H locs ls x3 x4 x5 x7 x9 x8 (0 : Int32) hI (lv_sub hl [0, 1, 2, 3, 4, 6] rfl) hw
  have hb54 : ∀ (V : VT) (H : Heap) (locs : List Loc) (ls : Array Slot) , WI g 13 (cM g ad) ad V s.heap H locs → lv_has ls 20 [] → wp_X8_miss_b54 K  V  → W p l e (headSpec wsX8_miss rm_X8_miss).room s m args below meth c H locs 0 0 (MQ below (va_Ql K (WPost 13 (cM g ad) ad g) (AW ad 13 s.heap.size)) args s 0 0 (AW ad 13 s.heap.size)) (F0 m 54 ls []) := by
    intro V H locs ls   hI hl hw
    refine lv_ldc2 (v := (-1000001 : Int64)) hx hb hown hw_3 dX8_miss_54 ?_
    exact W.lret (v := (-1000001 : Int64)) hx hb hr (x_retl hI hw) hI.2.2.2.2 dX8_miss_57
  have hgo : ∀ (H : Heap) (locs : List Loc), WI g 13 (cM g ad) ad V s.heap H locs → W p l e (headSpec wsX8_miss rm_X8_miss).room s m args below meth c H locs 0 0 (MQ below (va_Ql K (WPost 13 (cM g ad) ad g) (AW ad 13 s.heap.size)) args s 0 0 (AW ad 13 s.heap.size)) (F0 m 0 ls []) := by
    intro H locs hI
    refine lv_aload_n hx hb dX8_miss_0 rfl (lv_at hl 0 rfl) ?_
    refine mg_15 hx hb hts hin8 hown hK hI hw_0 dX8_miss_1 ?_
    refine lv_if_ne (tgt := 11) hx hb dX8_miss_4 (by decide) (fun c1 => ?_) (fun c1 => ?_)
    · replace hw := hw.1 c1
      refine lv_iload_n hx hb dX8_miss_11 rfl (lv_at hl 1 rfl) ?_
      refine x_afti (va_runS (As := [.int x1]) (rest := []) ⟨hx, hb, hml, hown, hts⟩ (c_X8_isRow l g ad H.size V x1 _ hw) (cwS 1 hts gX8_miss_X8_isRow rfl rfl rfl (by decide +kernel) ⟨Nat.le_of_ble_eq_true rfl, Nat.le_of_ble_eq_true rfl⟩) (x_preS hK hE hI) rfl rfl hl.1 rfl (lv_room (Nat.le_of_ble_eq_true rfl)) dX8_miss_12 ⟨Nat.zero_le _, Nat.zero_le _⟩) hI (fun r3 V2 H locs hw hI => ?_)
      refine lv_if_eq (tgt := 54) hx hb dX8_miss_15 (by decide) (fun c4 => ?_) (fun c4 => ?_)
      · replace hw := hw.1 c4
        exact hb54 V2 H locs ls  hI (lv_sub hl [] rfl) hw
      · replace hw := hw.2 c4
        refine lv_iload_n hx hb dX8_miss_18 rfl (lv_at hl 3 rfl) ?_
        refine lv_i2l (v := (x3).toInt64) hx hb dX8_miss_19 rfl ?_
        refine lv_lconst (v := (1 : Int64)) hx hb dX8_miss_20 (by decide) ?_
        refine lv_ldc2 (v := (24 : Int64)) hx hb hown hw_1 dX8_miss_21 ?_
        refine x_afti (va_runS (As := [.long ((x3).toInt64), .long (1 : Int64), .long (24 : Int64)]) (rest := []) ⟨hx, hb, hml, hown, hts⟩ (c_X8_in l g ad H.size V2 ((x3).toInt64) (1 : Int64) (24 : Int64) _ hw) (cwS 3 hts gX8_miss_X8_in rfl rfl rfl (by decide +kernel) ⟨Nat.le_of_ble_eq_true rfl, Nat.le_of_ble_eq_true rfl⟩) (x_preS hK hE hI) rfl rfl hl.1 rfl (lv_room (Nat.le_of_ble_eq_true rfl)) dX8_miss_24 ⟨Nat.zero_le _, Nat.zero_le _⟩) hI (fun r6 V5 H locs hw hI => ?_)
        refine lv_if_eq (tgt := 54) hx hb dX8_miss_27 (by decide) (fun c7 => ?_) (fun c7 => ?_)
        · replace hw := hw.1 c7
          exact hb54 V5 H locs ls  hI (lv_sub hl [] rfl) hw
        · replace hw := hw.2 c7
          refine lv_iload hx hb dX8_miss_30 (lv_at hl 4 rfl) ?_
          refine lv_i2l (v := (x4).toInt64) hx hb dX8_miss_32 rfl ?_
          refine lv_lconst (v := (0 : Int64)) hx hb dX8_miss_33 (by decide) ?_
          refine lv_ldc2 (v := (10 : Int64)) hx hb hown hw_2 dX8_miss_34 ?_
          refine x_afti (va_runS (As := [.long ((x4).toInt64), .long (0 : Int64), .long (10 : Int64)]) (rest := []) ⟨hx, hb, hml, hown, hts⟩ (c_X8_in l g ad H.size V5 ((x4).toInt64) (0 : Int64) (10 : Int64) _ hw) (cwS 3 hts gX8_miss_X8_in rfl rfl rfl (by decide +kernel) ⟨Nat.le_of_ble_eq_true rfl, Nat.le_of_ble_eq_true rfl⟩) (x_preS hK hE hI) rfl rfl hl.1 rfl (lv_room (Nat.le_of_ble_eq_true rfl)) dX8_miss_37 ⟨Nat.zero_le _, Nat.zero_le _⟩) hI (fun r9 V8 H locs hw hI => ?_)
          refine lv_if_eq (tgt := 54) hx hb dX8_miss_40 (by decide) (fun c10 => ?_) (fun c10 => ?_)
          · replace hw := hw.1 c10
            exact hb54 V8 H locs ls  hI (lv_sub hl [] rfl) hw
          · replace hw := hw.2 c10
            refine lv_iload hx hb dX8_miss_43 (lv_at hl 5 rfl) ?_
            refine lv_i2l (v := (x5).toInt64) hx hb dX8_miss_45 rfl ?_
            refine lv_lconst (v := (0 : Int64)) hx hb dX8_miss_46 (by decide) ?_
            refine lv_lconst (v := (1 : Int64)) hx hb dX8_miss_47 (by decide) ?_
            refine x_afti (va_runS (As := [.long ((x5).toInt64), .long (0 : Int64), .long (1 : Int64)]) (rest := []) ⟨hx, hb, hml, hown, hts⟩ (c_X8_in l g ad H.size V8 ((x5).toInt64) (0 : Int64) (1 : Int64) _ hw) (cwS 3 hts gX8_miss_X8_in rfl rfl rfl (by decide +kernel) ⟨Nat.le_of_ble_eq_true rfl, Nat.le_of_ble_eq_true rfl⟩) (x_preS hK hE hI) rfl rfl hl.1 rfl (lv_room (Nat.le_of_ble_eq_true rfl)) dX8_miss_48 ⟨Nat.zero_le _, Nat.zero_le _⟩) hI (fun r12 V11 H locs hw hI => ?_)
            refine lv_if_ne (tgt := 58) hx hb dX8_miss_51 (by decide) (fun c13 => ?_) (fun c13 => ?_)
            · replace hw := hw.1 c13
              refine lv_aload_n hx hb dX8_miss_58 rfl (lv_at hl 0 rfl) ?_
              refine lv_iload_n hx hb dX8_miss_59 rfl (lv_at hl 1 rfl) ?_
              refine lv_iload_n hx hb dX8_miss_60 rfl (lv_at hl 2 rfl) ?_
              refine lv_iload_n hx hb dX8_miss_61 rfl (lv_at hl 3 rfl) ?_
              refine x_afti (va_runV (As := [.int x1, .int x2, .int x3]) (rest := []) ⟨hx, hb, hml, hown, hts⟩ (c_X8_partOf l g ad H.size V11 x1 x2 x3 _ hw) (cwV 3 hts gX8_miss_X8_partOf rfl rfl rfl (by decide +kernel) ⟨Nat.le_of_ble_eq_true rfl, Nat.le_of_ble_eq_true rfl⟩) (x_preV (k := 0) hK hE hI (by decide) rfl rfl) rfl rfl hl.1 rfl (lv_room (Nat.le_of_ble_eq_true rfl)) dX8_miss_62 ⟨Nat.zero_le _, Nat.zero_le _⟩) hI (fun r15 V14 H locs hw hI => ?_)
              refine lv_istore (lv' := [(6, .int r15), (0, .ref (ad 0)), (1, .int x1), (2, .int x2), (3, .int x3), (4, .int x4), (5, .int x5)]) hx hb dX8_miss_65 hl (by decide) rfl (fun ls hl => ?_)
              refine lv_iload hx hb dX8_miss_67 (lv_at hl 0 rfl) ?_
              refine lv_if_le (tgt := 80) hx hb dX8_miss_69 (by decide) (fun c16 => ?_) (fun c16 => ?_)
              · replace hw := hw.1 c16
                refine lv_bipush (v := (40 : Int32)) hx hb dX8_miss_80 (by decide) ?_
                refine lv_iload_n hx hb dX8_miss_82 rfl (lv_at hl 2 rfl) ?_
                refine lv_imul hx hb dX8_miss_83 ?_
                refine lv_iload_n hx hb dX8_miss_84 rfl (lv_at hl 3 rfl) ?_
                refine lv_iadd hx hb dX8_miss_85 ?_
                refine lv_istore (lv' := [(7, .int (((40 : Int32) * x1) + x2)), (6, .int r15), (0, .ref (ad 0)), (1, .int x1), (2, .int x2), (3, .int x3), (4, .int x4), (5, .int x5)]) hx hb dX8_miss_86 hl (by decide) rfl (fun ls hl => ?_)
                refine lv_aload_n hx hb dX8_miss_88 rfl (lv_at hl 2 rfl) ?_
                refine lv_iload hx hb dX8_miss_89 (lv_at hl 0 rfl) ?_
                refine lv_iload_n hx hb dX8_miss_91 rfl (lv_at hl 5 rfl) ?_
                refine lv_bipush (v := (8 : Int32)) hx hb dX8_miss_92 (by decide) ?_
                refine x_afti (va_runV (As := [.int (((40 : Int32) * x1) + x2), .int x3, .int (8 : Int32)]) (rest := []) ⟨hx, hb, hml, hown, hts⟩ (c_X8_areTaps l g ad H.size V14 (((40 : Int32) * x1) + x2) x3 (8 : Int32) _ hw) (cwV 3 hts gX8_miss_X8_areTaps rfl rfl rfl (by decide +kernel) ⟨Nat.le_of_ble_eq_true rfl, Nat.le_of_ble_eq_true rfl⟩) (x_preV (k := 0) hK hE hI (by decide) rfl rfl) rfl rfl hl.1 rfl (lv_room (Nat.le_of_ble_eq_true rfl)) dX8_miss_94 ⟨Nat.zero_le _, Nat.zero_le _⟩) hI (fun r18 V17 H locs hw hI => ?_)
                refine lv_if_ne (tgt := 104) hx hb dX8_miss_97 (by decide) (fun c19 => ?_) (fun c19 => ?_)
                · replace hw := hw.1 c19
                  refine lv_iconst (v := (0 : Int32)) hx hb dX8_miss_104 (by decide) ?_
                  refine lv_istore (lv' := [(8, .int (0 : Int32)), (7, .int (((40 : Int32) * x1) + x2)), (6, .int r15), (0, .ref (ad 0)), (1, .int x1), (2, .int x2), (3, .int x3), (4, .int x4), (5, .int x5)]) hx hb dX8_miss_105 hl (by decide) rfl (fun ls hl => ?_)
                  refine lv_iconst (v := (0 : Int32)) hx hb dX8_miss_107 (by decide) ?_
                  refine lv_istore (lv' := [(9, .int (0 : Int32)), (8, .int (0 : Int32)), (7, .int (((40 : Int32) * x1) + x2)), (6, .int r15), (0, .ref (ad 0)), (1, .int x1), (2, .int x2), (3, .int x3), (4, .int x4), (5, .int x5)]) hx hb dX8_miss_108 hl (by decide) rfl (fun ls hl => ?_)
                  obtain ⟨n110, hw⟩ := hw
                  exact hL110 n110 V17 H locs ls x3 x4 x5 (((40 : Int32) * x1) + x2) (0 : Int32) (0 : Int32) hI (lv_sub hl [4, 7, 8, 9, 2, 1, 0] rfl) hw
                · replace hw := hw.2 c19
                  refine lv_ldc2 (v := (-1000001 : Int64)) hx hb hown hw_3 dX8_miss_100 ?_
                  exact W.lret (v := (-1000001 : Int64)) hx hb hr (x_retl hI hw) hI.2.2.2.2 dX8_miss_103
              · replace hw := hw.2 c16
                refine lv_aload_n hx hb dX8_miss_72 rfl (lv_at hl 1 rfl) ?_
                refine lv_iload hx hb dX8_miss_73 (lv_at hl 0 rfl) ?_
                refine x_afti (va_runV (As := [.int r15]) (rest := []) ⟨hx, hb, hml, hown, hts⟩ (c_X8_finds l g ad H.size V14 r15 _ hw) (cwV 1 hts gX8_miss_X8_finds rfl rfl rfl (by decide +kernel) ⟨Nat.le_of_ble_eq_true rfl, Nat.le_of_ble_eq_true rfl⟩) (x_preV (k := 0) hK hE hI (by decide) rfl rfl) rfl rfl hl.1 rfl (lv_room (Nat.le_of_ble_eq_true rfl)) dX8_miss_75 ⟨Nat.zero_le _, Nat.zero_le _⟩) hI (fun r21 V20 H locs hw hI => ?_)
                refine lv_i2l (v := (r21).toInt64) hx hb dX8_miss_78 rfl ?_
                exact W.lret (v := (r21).toInt64) hx hb hr (x_retl hI hw) hI.2.2.2.2 dX8_miss_79
            · replace hw := hw.2 c13
              exact hb54 V11 H locs ls  hI (lv_sub hl [] rfl) hw
    · replace hw := hw.2 c1
      refine lv_ldc2 (v := (-1000002 : Int64)) hx hb hown hw_4 dX8_miss_7 ?_
      exact W.lret (v := (-1000002 : Int64)) hx hb hr (x_retl hI hw) hI.2.2.2.2 dX8_miss_10
  exact hgo s.heap [] hI
def rm_X8_drawn : Room := { frames := 4, cells := 0, slots := 0, locals := 87 }
set_option maxHeartbeats 4000000 in
set_option maxRecDepth 100000 in
theorem c_X8_drawn (l : Launch) (g : GP) (ad : Nat → Nat) (sz : Nat) (V : VT) (x1 : Int32) (x2 : Int32) (x3 : Int32)  (K : Int32 → VT → Prop) (hw : wp_X8_drawn V x1 x2 x3 K) : Met l yX8_drawn wsX8_drawn rm_X8_drawn (va_Pc [.ref (ad 0), .int x1, .int x2, .int x3] (WPre 13 (cM g ad) ad g V sz)) (va_Qi K (WPost 13 (cM g ad) ad g) (AW ad 13 sz)) 0 0 (AW ad 13 sz) := by
  refine Met.ofW (cc := cX8_drawn) (maxL := 8) (ret := (some .int)) (by decide) rfl ?_
  intro p e s m args below meth c s₁ B hml hv
  obtain ⟨ha, hv⟩ := hv
  obtain rfl := hv.1
  have hI : WI g 13 (cM g ad) ad V s.heap s.heap [] := WI.start hv
  have hK := hv.2.2.1
  have hE := hv.2.2.2.2
  have hx := B.exec
  have hb := B.bytes
  have hr := B.returns
  have hts := atoms_spec (ws := wsX8_drawn) B.pre
  have hown : s.vm.findClass RX8 = some m.cls := findClass_of_methodNamed B.named
  have hlocks := B.notSynchronized
  have hw_0 := hts (.fieldLink RX8 136 "HoopLaneModel" "isLane" "Z") (by decide +kernel)
  have hw_1 := hts (.constantLong RX8 220 (40)) (by decide +kernel)
  have hw_2 := hts (.constant RX8 64 (-1000001)) (by decide +kernel)
  have hw_3 := hts (.constantLong RX8 270 (999999)) (by decide +kernel)
  have hw_4 := hts (.constant RX8 184 (-1000002)) (by decide +kernel)
  have hw_5 := hts (.fieldLink RX8 159 "HoopLaneModel" "end" "I") (by decide +kernel)
  have hw_6 := hts (.constantLong RX8 272 (16807)) (by decide +kernel)
  have hw_7 := hts (.constantLong RX8 274 (2147483647)) (by decide +kernel)
  have hw_8 := hts (.constantLong RX8 254 (8)) (by decide +kernel)
  have hw_9 := hts (.fieldLink RX8 150 "HoopLaneModel" "yard" "I") (by decide +kernel)
  have hin8 : ∀ w ∈ wsX80, w ∈ wsX8_drawn := by decide +kernel
  have hl := lv_entry ([.ref (ad 0), .int x1, .int x2, .int x3]) (n := 8) (Nat.le_of_ble_eq_true rfl)
  have hent : entryFrame m args 8 = F0 m 0 ((lg_sl ([.ref (ad 0), .int x1, .int x2, .int x3]) ++ List.replicate (8 - (lg_sl ([.ref (ad 0), .int x1, .int x2, .int x3])).length) Slot.unset).toArray) [] := by rw [ha, lg_entry_eq]
  rw [hent]
  generalize (lg_sl ([.ref (ad 0), .int x1, .int x2, .int x3]) ++ List.replicate (8 - (lg_sl ([.ref (ad 0), .int x1, .int x2, .int x3])).length) Slot.unset).toArray = ls at hl ⊢
  have hl : lv_has ls 8 [(0, .ref (ad 0)), (1, .int x1), (2, .int x2), (3, .int x3)] := hl
  obtain ⟨H, hH⟩ : ∃ H : Heap, H = s.heap := ⟨_, rfl⟩
  have hb117 : ∀ (V : VT) (H : Heap) (locs : List Loc) (ls : Array Slot) (x3 : Int32) (x6 : Int32), WI g 13 (cM g ad) ad V s.heap H locs → lv_has ls 8 [(0, .ref (ad 0)), (3, .int x3), (6, .int x6)] → wp_X8_drawn_b117 K  V x3 x6 → W p l e (headSpec wsX8_drawn rm_X8_drawn).room s m args below meth c H locs 0 0 (MQ below (va_Qi K (WPost 13 (cM g ad) ad g) (AW ad 13 s.heap.size)) args s 0 0 (AW ad 13 s.heap.size)) (F0 m 117 ls []) := by
    intro V H locs ls x3 x6  hI hl hw
    refine lv_aload_n hx hb dX8_drawn_117 rfl (lv_at hl 0 rfl) ?_
    refine mg_16 hx hb hts hin8 hown hK hI hw_9 dX8_drawn_118 ?_
    refine lv_istore (lv' := [(7, .int (V 0 16)), (0, .ref (ad 0)), (3, .int x3), (6, .int x6)]) hx hb dX8_drawn_121 hl (by decide) rfl (fun ls hl => ?_)
    refine lv_aload_n hx hb dX8_drawn_123 rfl (lv_at hl 1 rfl) ?_
    refine x_aftv (va_runV (As := []) (rest := []) ⟨hx, hb, hml, hown, hts⟩ (c_X8_backs l g ad H.size V  _ hw) (cwV 0 hts gX8_drawn_X8_backs rfl rfl rfl (by decide +kernel) ⟨Nat.le_of_ble_eq_true rfl, Nat.le_of_ble_eq_true rfl⟩) (x_preV (k := 0) hK hE hI (by decide) rfl rfl) rfl rfl hl.1 rfl (lv_room (Nat.le_of_ble_eq_true rfl)) dX8_drawn_124 ⟨Nat.zero_le _, Nat.zero_le _⟩) hI (fun V18 H locs hw hI => ?_)
    refine lv_iload_n hx hb dX8_drawn_127 rfl (lv_at hl 2 rfl) ?_
    refine lv_if_ne (tgt := 136) hx hb dX8_drawn_128 (by decide) (fun c19 => ?_) (fun c19 => ?_)
    · replace hw := hw.1 c19
      refine lv_iload hx hb dX8_drawn_136 (lv_at hl 3 rfl) ?_
      exact W.iret (v := x6) hx hb hr (x_reti hI hw) hI.2.2.2.2 dX8_drawn_138
    · replace hw := hw.2 c19
      refine lv_iload hx hb dX8_drawn_131 (lv_at hl 0 rfl) ?_
      refine lv_goto (tgt := 138) hx hb dX8_drawn_133 (by decide) ?_
      exact W.iret (v := (V 0 16)) hx hb hr (x_reti hI hw) hI.2.2.2.2 dX8_drawn_138
  have hL58 : ∀ (n58 : Nat) (V : VT) (H : Heap) (locs : List Loc) (ls : Array Slot) (x1 : Int32) (x3 : Int32) (y4 : Int64) (x6 : Int32), WI g 13 (cM g ad) ad V s.heap H locs → lv_has ls 8 [(0, .ref (ad 0)), (1, .int x1), (3, .int x3), (4, .long y4), (6, .int x6)] → wp_X8_drawn_L58 K  n58 V x1 x3 y4 x6 → W p l e (headSpec wsX8_drawn rm_X8_drawn).room s m args below meth c H locs 0 0 (MQ below (va_Qi K (WPost 13 (cM g ad) ad g) (AW ad 13 s.heap.size)) args s 0 0 (AW ad 13 s.heap.size)) (F0 m 58 ls []) := by
    intro n58
    induction n58 with
    | zero => intro V H locs ls x1 x3 y4 x6  hI hl hw; exact False.elim hw
    | succ n58 ihL58 =>
      have hb108 : ∀ (V : VT) (H : Heap) (locs : List Loc) (ls : Array Slot) (x1 : Int32) (x3 : Int32) (y4 : Int64) (x6 : Int32) (s1 : Int32), WI g 13 (cM g ad) ad V s.heap H locs → lv_has ls 8 [(0, .ref (ad 0)), (1, .int x1), (3, .int x3), (4, .long y4), (6, .int x6)] → wp_X8_drawn_b108 K (wp_X8_drawn_L58 K  n58) V x1 x3 y4 x6 s1 → W p l e (headSpec wsX8_drawn rm_X8_drawn).room s m args below meth c H locs 0 0 (MQ below (va_Qi K (WPost 13 (cM g ad) ad g) (AW ad 13 s.heap.size)) args s 0 0 (AW ad 13 s.heap.size)) (F0 m 108 ls [.int s1, .ref (ad 0)]) := by
        intro V H locs ls x1 x3 y4 x6 s1  hI hl hw
        refine x_aftv (va_runV (As := [.int s1]) (rest := []) ⟨hx, hb, hml, hown, hts⟩ (c_X8_goesWith l g ad H.size V s1 _ hw) (cwV 1 hts gX8_drawn_X8_goesWith rfl rfl rfl (by decide +kernel) ⟨Nat.le_of_ble_eq_true rfl, Nat.le_of_ble_eq_true rfl⟩) (x_preV (k := 0) hK hE hI (by decide) rfl rfl) rfl rfl hl.1 rfl (lv_room (Nat.le_of_ble_eq_true rfl)) dX8_drawn_108 ⟨Nat.zero_le _, Nat.zero_le _⟩) hI (fun V20 H locs hw hI => ?_)
        refine lv_iinc (v := (x6 + (1 : Int32))) (lv' := [(6, .int (x6 + (1 : Int32))), (0, .ref (ad 0)), (1, .int x1), (3, .int x3), (4, .long y4)]) hx hb dX8_drawn_111 hl (k := 4) rfl rfl (by decide) rfl (fun ls hl => ?_)
        refine lv_goto (tgt := 58) hx hb dX8_drawn_114 (by decide) ?_
        exact ihL58 V20 H locs ls x1 x3 y4 (x6 + (1 : Int32)) hI (lv_sub hl [1, 2, 3, 4, 0] rfl) hw
      intro V H locs ls x1 x3 y4 x6  hI hl hw
      refine lv_iload hx hb dX8_drawn_58 (lv_at hl 4 rfl) ?_
      refine lv_iload_n hx hb dX8_drawn_60 rfl (lv_at hl 1 rfl) ?_
      refine lv_icmp_ge (tgt := 117) hx hb dX8_drawn_61 (by decide) (fun c12 => ?_) (fun c12 => ?_)
      · replace hw := hw.1 c12
        exact hb117 V H locs ls x3 x6 hI (lv_sub hl [0, 2, 4] rfl) hw
      · replace hw := hw.2 c12
        refine lv_aload_n hx hb dX8_drawn_64 rfl (lv_at hl 0 rfl) ?_
        refine mg_19 hx hb hts hin8 hown hK hI hw_5 dX8_drawn_65 ?_
        refine lv_if_ne (tgt := 117) hx hb dX8_drawn_68 (by decide) (fun c13 => ?_) (fun c13 => ?_)
        · replace hw := hw.1 c13
          exact hb117 V H locs ls x3 x6 hI (lv_sub hl [0, 2, 4] rfl) hw
        · replace hw := hw.2 c13
          refine lv_lload hx hb dX8_drawn_71 (lv_at hl 3 rfl) ?_
          refine lv_ldc2 (v := (16807 : Int64)) hx hb hown hw_6 dX8_drawn_73 ?_
          refine lv_lmul hx hb dX8_drawn_76 ?_
          refine lv_ldc2 (v := (2147483647 : Int64)) hx hb hown hw_7 dX8_drawn_77 ?_
          refine lv_lrem hx hb dX8_drawn_80 (by decide) ?_
          refine lv_topl (fun z14 ez14 => ?_)
          replace hw := hw z14 ez14
          refine lv_lstore (lv' := [(4, .long z14), (0, .ref (ad 0)), (1, .int x1), (3, .int x3), (6, .int x6)]) hx hb dX8_drawn_81 hl (by decide) rfl (fun ls hl => ?_)
          refine lv_lload hx hb dX8_drawn_83 (lv_at hl 0 rfl) ?_
          refine lv_ldc2 (v := (8 : Int64)) hx hb hown hw_8 dX8_drawn_85 ?_
          refine lv_lrem hx hb dX8_drawn_88 (by decide) ?_
          refine lv_l2i (v := ((z14 - z14 / (8 : Int64) * (8 : Int64))).toInt32) hx hb dX8_drawn_89 rfl ?_
          refine lv_istore (lv' := [(7, .int (((z14 - z14 / (8 : Int64) * (8 : Int64))).toInt32)), (4, .long z14), (0, .ref (ad 0)), (1, .int x1), (3, .int x3), (6, .int x6)]) hx hb dX8_drawn_90 hl (by decide) rfl (fun ls hl => ?_)
          refine lv_aload_n hx hb dX8_drawn_92 rfl (lv_at hl 2 rfl) ?_
          refine lv_aload_n hx hb dX8_drawn_93 rfl (lv_at hl 2 rfl) ?_
          refine lv_iload hx hb dX8_drawn_94 (lv_at hl 0 rfl) ?_
          refine x_afti (va_runV (As := [.int (((z14 - z14 / (8 : Int64) * (8 : Int64))).toInt32)]) (rest := [.ref (ad 0)]) ⟨hx, hb, hml, hown, hts⟩ (c_X8_isTap l g ad H.size V (((z14 - z14 / (8 : Int64) * (8 : Int64))).toInt32) _ hw) (cwV 1 hts gX8_drawn_X8_isTap rfl rfl rfl (by decide +kernel) ⟨Nat.le_of_ble_eq_true rfl, Nat.le_of_ble_eq_true rfl⟩) (x_preV (k := 0) hK hE hI (by decide) rfl rfl) rfl rfl hl.1 rfl (lv_room (Nat.le_of_ble_eq_true rfl)) dX8_drawn_96 ⟨Nat.zero_le _, Nat.zero_le _⟩) hI (fun r16 V15 H locs hw hI => ?_)
          refine lv_if_eq (tgt := 107) hx hb dX8_drawn_99 (by decide) (fun c17 => ?_) (fun c17 => ?_)
          · replace hw := hw.1 c17
            refine lv_iconst (v := (-1 : Int32)) hx hb dX8_drawn_107 (by decide) ?_
            exact hb108 V15 H locs ls x1 x3 z14 x6 (-1 : Int32) hI (lv_sub hl [2, 3, 4, 1, 5] rfl) hw
          · replace hw := hw.2 c17
            refine lv_iload hx hb dX8_drawn_102 (lv_at hl 0 rfl) ?_
            refine lv_goto (tgt := 108) hx hb dX8_drawn_104 (by decide) ?_
            exact hb108 V15 H locs ls x1 x3 z14 x6 (((z14 - z14 / (8 : Int64) * (8 : Int64))).toInt32) hI (lv_sub hl [2, 3, 4, 1, 5] rfl) hw
  have hgo : ∀ (H : Heap) (locs : List Loc), WI g 13 (cM g ad) ad V s.heap H locs → W p l e (headSpec wsX8_drawn rm_X8_drawn).room s m args below meth c H locs 0 0 (MQ below (va_Qi K (WPost 13 (cM g ad) ad g) (AW ad 13 s.heap.size)) args s 0 0 (AW ad 13 s.heap.size)) (F0 m 0 ls []) := by
    intro H locs hI
    refine lv_aload_n hx hb dX8_drawn_0 rfl (lv_at hl 0 rfl) ?_
    refine mg_15 hx hb hts hin8 hown hK hI hw_0 dX8_drawn_1 ?_
    refine lv_if_ne (tgt := 10) hx hb dX8_drawn_4 (by decide) (fun c1 => ?_) (fun c1 => ?_)
    · replace hw := hw.1 c1
      refine lv_iload_n hx hb dX8_drawn_10 rfl (lv_at hl 1 rfl) ?_
      refine lv_i2l (v := (x1).toInt64) hx hb dX8_drawn_11 rfl ?_
      refine lv_lconst (v := (0 : Int64)) hx hb dX8_drawn_12 (by decide) ?_
      refine lv_ldc2 (v := (40 : Int64)) hx hb hown hw_1 dX8_drawn_13 ?_
      refine x_afti (va_runS (As := [.long ((x1).toInt64), .long (0 : Int64), .long (40 : Int64)]) (rest := []) ⟨hx, hb, hml, hown, hts⟩ (c_X8_in l g ad H.size V ((x1).toInt64) (0 : Int64) (40 : Int64) _ hw) (cwS 3 hts gX8_drawn_X8_in rfl rfl rfl (by decide +kernel) ⟨Nat.le_of_ble_eq_true rfl, Nat.le_of_ble_eq_true rfl⟩) (x_preS hK hE hI) rfl rfl hl.1 rfl (lv_room (Nat.le_of_ble_eq_true rfl)) dX8_drawn_16 ⟨Nat.zero_le _, Nat.zero_le _⟩) hI (fun r3 V2 H locs hw hI => ?_)
      refine lv_if_eq (tgt := 44) hx hb dX8_drawn_19 (by decide) (fun c4 => ?_) (fun c4 => ?_)
      · replace hw := hw.1 c4
        refine lv_ldc (v := (-1000001 : Int32)) hx hb hown hw_2 dX8_drawn_44 ?_
        exact W.iret (v := (-1000001 : Int32)) hx hb hr (x_reti hI hw) hI.2.2.2.2 dX8_drawn_46
      · replace hw := hw.2 c4
        refine lv_iload_n hx hb dX8_drawn_22 rfl (lv_at hl 2 rfl) ?_
        refine lv_i2l (v := (x2).toInt64) hx hb dX8_drawn_23 rfl ?_
        refine lv_lconst (v := (1 : Int64)) hx hb dX8_drawn_24 (by decide) ?_
        refine lv_ldc2 (v := (999999 : Int64)) hx hb hown hw_3 dX8_drawn_25 ?_
        refine x_afti (va_runS (As := [.long ((x2).toInt64), .long (1 : Int64), .long (999999 : Int64)]) (rest := []) ⟨hx, hb, hml, hown, hts⟩ (c_X8_in l g ad H.size V2 ((x2).toInt64) (1 : Int64) (999999 : Int64) _ hw) (cwS 3 hts gX8_drawn_X8_in rfl rfl rfl (by decide +kernel) ⟨Nat.le_of_ble_eq_true rfl, Nat.le_of_ble_eq_true rfl⟩) (x_preS hK hE hI) rfl rfl hl.1 rfl (lv_room (Nat.le_of_ble_eq_true rfl)) dX8_drawn_28 ⟨Nat.zero_le _, Nat.zero_le _⟩) hI (fun r6 V5 H locs hw hI => ?_)
        refine lv_if_eq (tgt := 44) hx hb dX8_drawn_31 (by decide) (fun c7 => ?_) (fun c7 => ?_)
        · replace hw := hw.1 c7
          refine lv_ldc (v := (-1000001 : Int32)) hx hb hown hw_2 dX8_drawn_44 ?_
          exact W.iret (v := (-1000001 : Int32)) hx hb hr (x_reti hI hw) hI.2.2.2.2 dX8_drawn_46
        · replace hw := hw.2 c7
          refine lv_iload_n hx hb dX8_drawn_34 rfl (lv_at hl 3 rfl) ?_
          refine lv_i2l (v := (x3).toInt64) hx hb dX8_drawn_35 rfl ?_
          refine lv_lconst (v := (0 : Int64)) hx hb dX8_drawn_36 (by decide) ?_
          refine lv_lconst (v := (1 : Int64)) hx hb dX8_drawn_37 (by decide) ?_
          refine x_afti (va_runS (As := [.long ((x3).toInt64), .long (0 : Int64), .long (1 : Int64)]) (rest := []) ⟨hx, hb, hml, hown, hts⟩ (c_X8_in l g ad H.size V5 ((x3).toInt64) (0 : Int64) (1 : Int64) _ hw) (cwS 3 hts gX8_drawn_X8_in rfl rfl rfl (by decide +kernel) ⟨Nat.le_of_ble_eq_true rfl, Nat.le_of_ble_eq_true rfl⟩) (x_preS hK hE hI) rfl rfl hl.1 rfl (lv_room (Nat.le_of_ble_eq_true rfl)) dX8_drawn_38 ⟨Nat.zero_le _, Nat.zero_le _⟩) hI (fun r9 V8 H locs hw hI => ?_)
          refine lv_if_ne (tgt := 47) hx hb dX8_drawn_41 (by decide) (fun c10 => ?_) (fun c10 => ?_)
          · replace hw := hw.1 c10
            refine lv_aload_n hx hb dX8_drawn_47 rfl (lv_at hl 0 rfl) ?_
            refine x_aftv (va_runV (As := []) (rest := []) ⟨hx, hb, hml, hown, hts⟩ (c_X8_asides l g ad H.size V8  _ hw) (cwV 0 hts gX8_drawn_X8_asides rfl rfl rfl (by decide +kernel) ⟨Nat.le_of_ble_eq_true rfl, Nat.le_of_ble_eq_true rfl⟩) (x_preV (k := 0) hK hE hI (by decide) rfl rfl) rfl rfl hl.1 rfl (lv_room (Nat.le_of_ble_eq_true rfl)) dX8_drawn_48 ⟨Nat.zero_le _, Nat.zero_le _⟩) hI (fun V11 H locs hw hI => ?_)
            refine lv_iload_n hx hb dX8_drawn_51 rfl (lv_at hl 2 rfl) ?_
            refine lv_i2l (v := (x2).toInt64) hx hb dX8_drawn_52 rfl ?_
            refine lv_lstore (lv' := [(4, .long ((x2).toInt64)), (0, .ref (ad 0)), (1, .int x1), (2, .int x2), (3, .int x3)]) hx hb dX8_drawn_53 hl (by decide) rfl (fun ls hl => ?_)
            refine lv_iconst (v := (0 : Int32)) hx hb dX8_drawn_55 (by decide) ?_
            refine lv_istore (lv' := [(6, .int (0 : Int32)), (4, .long ((x2).toInt64)), (0, .ref (ad 0)), (1, .int x1), (2, .int x2), (3, .int x3)]) hx hb dX8_drawn_56 hl (by decide) rfl (fun ls hl => ?_)
            obtain ⟨n58, hw⟩ := hw
            exact hL58 n58 V11 H locs ls x1 x3 ((x2).toInt64) (0 : Int32) hI (lv_sub hl [2, 3, 5, 1, 0] rfl) hw
          · replace hw := hw.2 c10
            refine lv_ldc (v := (-1000001 : Int32)) hx hb hown hw_2 dX8_drawn_44 ?_
            exact W.iret (v := (-1000001 : Int32)) hx hb hr (x_reti hI hw) hI.2.2.2.2 dX8_drawn_46
    · replace hw := hw.2 c1
      refine lv_ldc (v := (-1000002 : Int32)) hx hb hown hw_4 dX8_drawn_7 ?_
      exact W.iret (v := (-1000002 : Int32)) hx hb hr (x_reti hI hw) hI.2.2.2.2 dX8_drawn_9
  exact hgo s.heap [] hI
def rm_X8_image : Room := { frames := 1, cells := 0, slots := 0, locals := 25 }
set_option maxHeartbeats 4000000 in
set_option maxRecDepth 100000 in
theorem c_X8_image (l : Launch) (g : GP) (ad : Nat → Nat) (sz : Nat) (V : VT) (x1 : Int32)  (K : Int32 → VT → Prop) (hw : wp_X8_image V x1 K) : Met l yX8_image wsX8_image rm_X8_image (va_Pc [.ref (ad 0), .int x1] (WPre 13 (cM g ad) ad g V sz)) (va_Qi K (WPost 13 (cM g ad) ad g) (AW ad 13 sz)) 0 0 (AW ad 13 sz) := by
  refine Met.ofW (cc := cX8_image) (maxL := 4) (ret := (some .int)) (by decide) rfl ?_
  intro p e s m args below meth c s₁ B hml hv
  obtain ⟨ha, hv⟩ := hv
  obtain rfl := hv.1
  have hI : WI g 13 (cM g ad) ad V s.heap s.heap [] := WI.start hv
  have hK := hv.2.2.1
  have hE := hv.2.2.2.2
  have hx := B.exec
  have hb := B.bytes
  have hr := B.returns
  have hts := atoms_spec (ws := wsX8_image) B.pre
  have hown : s.vm.findClass RX8 = some m.cls := findClass_of_methodNamed B.named
  have hlocks := B.notSynchronized
  have hw_0 := hts (.fieldLink RX8 136 "HoopLaneModel" "isLane" "Z") (by decide +kernel)
  have hw_1 := hts (.fieldLink RX8 41 "HoopLaneModel" "images" "[I") (by decide +kernel)
  have hw_2 := hts (.constant RX8 184 (-1000002)) (by decide +kernel)
  have hw_3 := hts (.constant RX8 64 (-1000001)) (by decide +kernel)
  have hw_4 := hts (.fieldLink RX8 22 "HoopLaneModel" "lane" "[I") (by decide +kernel)
  have hin8 : ∀ w ∈ wsX80, w ∈ wsX8_image := by decide +kernel
  have hl := lv_entry ([.ref (ad 0), .int x1]) (n := 4) (Nat.le_of_ble_eq_true rfl)
  have hent : entryFrame m args 4 = F0 m 0 ((lg_sl ([.ref (ad 0), .int x1]) ++ List.replicate (4 - (lg_sl ([.ref (ad 0), .int x1])).length) Slot.unset).toArray) [] := by rw [ha, lg_entry_eq]
  rw [hent]
  generalize (lg_sl ([.ref (ad 0), .int x1]) ++ List.replicate (4 - (lg_sl ([.ref (ad 0), .int x1])).length) Slot.unset).toArray = ls at hl ⊢
  have hl : lv_has ls 4 [(0, .ref (ad 0)), (1, .int x1)] := hl
  obtain ⟨H, hH⟩ : ∃ H : Heap, H = s.heap := ⟨_, rfl⟩
  have hL65 : ∀ (n65 : Nat) (V : VT) (H : Heap) (locs : List Loc) (ls : Array Slot) (x2 : Int32) (x3 : Int32), WI g 13 (cM g ad) ad V s.heap H locs → lv_has ls 4 [(0, .ref (ad 0)), (2, .int x2), (3, .int x3)] → wp_X8_image_L65 K  n65 V x2 x3 → W p l e (headSpec wsX8_image rm_X8_image).room s m args below meth c H locs 0 0 (MQ below (va_Qi K (WPost 13 (cM g ad) ad g) (AW ad 13 s.heap.size)) args s 0 0 (AW ad 13 s.heap.size)) (F0 m 65 ls []) := by
    intro n65
    induction n65 with
    | zero => intro V H locs ls x2 x3  hI hl hw; exact False.elim hw
    | succ n65 ihL65 =>
      intro V H locs ls x2 x3  hI hl hw
      refine lv_iload_n hx hb dX8_image_65 rfl (lv_at hl 2 rfl) ?_
      refine lv_bipush (v := (38 : Int32)) hx hb dX8_image_66 (by decide) ?_
      refine lv_icmp_ge (tgt := 94) hx hb dX8_image_68 (by decide) (fun c12 => ?_) (fun c12 => ?_)
      · replace hw := hw.1 c12
        refine lv_iconst (v := (1 : Int32)) hx hb dX8_image_94 (by decide) ?_
        exact W.iret (v := (1 : Int32)) hx hb hr (x_reti hI hw) hI.2.2.2.2 dX8_image_95
      · replace hw := hw.2 c12
        refine lv_aload_n hx hb dX8_image_71 rfl (lv_at hl 0 rfl) ?_
        refine mg_30 hx hb hts hin8 hown hK hI hw_1 dX8_image_72 ?_
        refine lv_iload_n hx hb dX8_image_75 rfl (lv_at hl 1 rfl) ?_
        refine lv_bipush (v := (6 : Int32)) hx hb dX8_image_76 (by decide) ?_
        refine lv_iadd hx hb dX8_image_78 ?_
        refine lv_iload_n hx hb dX8_image_79 rfl (lv_at hl 2 rfl) ?_
        refine lv_iadd hx hb dX8_image_80 ?_
        refine lv_aload_n hx hb dX8_image_81 rfl (lv_at hl 0 rfl) ?_
        refine mg_5 hx hb hts hin8 hown hK hI hw_4 dX8_image_82 ?_
        refine lv_iload_n hx hb dX8_image_85 rfl (lv_at hl 2 rfl) ?_
        obtain ⟨h13, hw⟩ := hw
        refine x_iald (k := 5) hx hb hK hI (by decide) rfl h13 dX8_image_86 ?_
        obtain ⟨h14, hw⟩ := hw
        refine x_iastV (k := 11) hx hb hK hI (cM_loc g ad) (by decide) (fun _ => rfl) h14 dX8_image_87 (fun V15 H locs eV15 hI => ?_)
        replace hw := hw V15 eV15
        refine lv_iinc (v := (x3 + (1 : Int32))) (lv' := [(3, .int (x3 + (1 : Int32))), (0, .ref (ad 0)), (2, .int x2)]) hx hb dX8_image_88 hl (k := 2) rfl rfl (by decide) rfl (fun ls hl => ?_)
        refine lv_goto (tgt := 65) hx hb dX8_image_91 (by decide) ?_
        exact ihL65 V15 H locs ls x2 (x3 + (1 : Int32)) hI (lv_sub hl [1, 2, 0] rfl) hw
  have hL37 : ∀ (n37 : Nat) (V : VT) (H : Heap) (locs : List Loc) (ls : Array Slot) (x2 : Int32) (x3 : Int32), WI g 13 (cM g ad) ad V s.heap H locs → lv_has ls 4 [(0, .ref (ad 0)), (2, .int x2), (3, .int x3)] → wp_X8_image_L37 K  n37 V x2 x3 → W p l e (headSpec wsX8_image rm_X8_image).room s m args below meth c H locs 0 0 (MQ below (va_Qi K (WPost 13 (cM g ad) ad g) (AW ad 13 s.heap.size)) args s 0 0 (AW ad 13 s.heap.size)) (F0 m 37 ls []) := by
    intro n37
    induction n37 with
    | zero => intro V H locs ls x2 x3  hI hl hw; exact False.elim hw
    | succ n37 ihL37 =>
      intro V H locs ls x2 x3  hI hl hw
      refine lv_iload_n hx hb dX8_image_37 rfl (lv_at hl 2 rfl) ?_
      refine lv_iconst (v := (5 : Int32)) hx hb dX8_image_38 (by decide) ?_
      refine lv_icmp_ge (tgt := 63) hx hb dX8_image_39 (by decide) (fun c7 => ?_) (fun c7 => ?_)
      · replace hw := hw.1 c7
        refine lv_iconst (v := (0 : Int32)) hx hb dX8_image_63 (by decide) ?_
        refine lv_istore_n (lv' := [(3, .int (0 : Int32)), (0, .ref (ad 0)), (2, .int x2)]) hx hb dX8_image_64 rfl hl (by decide) rfl (fun ls hl => ?_)
        obtain ⟨n65, hw⟩ := hw
        exact hL65 n65 V H locs ls x2 (0 : Int32) hI (lv_sub hl [1, 2, 0] rfl) hw
      · replace hw := hw.2 c7
        refine lv_aload_n hx hb dX8_image_42 rfl (lv_at hl 0 rfl) ?_
        refine mg_30 hx hb hts hin8 hown hK hI hw_1 dX8_image_43 ?_
        refine lv_iload_n hx hb dX8_image_46 rfl (lv_at hl 1 rfl) ?_
        refine lv_iconst (v := (1 : Int32)) hx hb dX8_image_47 (by decide) ?_
        refine lv_iadd hx hb dX8_image_48 ?_
        refine lv_iload_n hx hb dX8_image_49 rfl (lv_at hl 2 rfl) ?_
        refine lv_iadd hx hb dX8_image_50 ?_
        refine lv_aload_n hx hb dX8_image_51 rfl (lv_at hl 0 rfl) ?_
        refine lv_iload_n hx hb dX8_image_52 rfl (lv_at hl 2 rfl) ?_
        refine x_afti (va_runV (As := [.int x3]) (rest := [.int ((x2 + (1 : Int32)) + x3), .ref (ad 11)]) ⟨hx, hb, hml, hown, hts⟩ (c_X8_hoopOf l g ad H.size V x3 _ hw) (cwV 1 hts gX8_image_X8_hoopOf rfl rfl rfl (by decide +kernel) ⟨Nat.le_of_ble_eq_true rfl, Nat.le_of_ble_eq_true rfl⟩) (x_preV (k := 0) hK hE hI (by decide) rfl rfl) rfl rfl hl.1 rfl (lv_room (Nat.le_of_ble_eq_true rfl)) dX8_image_53 ⟨Nat.zero_le _, Nat.zero_le _⟩) hI (fun r9 V8 H locs hw hI => ?_)
        obtain ⟨h10, hw⟩ := hw
        refine x_iastV (k := 11) hx hb hK hI (cM_loc g ad) (by decide) (fun _ => rfl) h10 dX8_image_56 (fun V11 H locs eV11 hI => ?_)
        replace hw := hw V11 eV11
        refine lv_iinc (v := (x3 + (1 : Int32))) (lv' := [(3, .int (x3 + (1 : Int32))), (0, .ref (ad 0)), (2, .int x2)]) hx hb dX8_image_57 hl (k := 2) rfl rfl (by decide) rfl (fun ls hl => ?_)
        refine lv_goto (tgt := 37) hx hb dX8_image_60 (by decide) ?_
        exact ihL37 V11 H locs ls x2 (x3 + (1 : Int32)) hI (lv_sub hl [1, 2, 0] rfl) hw
  have hgo : ∀ (H : Heap) (locs : List Loc), WI g 13 (cM g ad) ad V s.heap H locs → W p l e (headSpec wsX8_image rm_X8_image).room s m args below meth c H locs 0 0 (MQ below (va_Qi K (WPost 13 (cM g ad) ad g) (AW ad 13 s.heap.size)) args s 0 0 (AW ad 13 s.heap.size)) (F0 m 0 ls []) := by
    intro H locs hI
    refine lv_iload_n hx hb dX8_image_0 rfl (lv_at hl 1 rfl) ?_
    refine lv_i2l (v := (x1).toInt64) hx hb dX8_image_1 rfl ?_
    refine lv_lconst (v := (0 : Int64)) hx hb dX8_image_2 (by decide) ?_
    refine lv_lconst (v := (1 : Int64)) hx hb dX8_image_3 (by decide) ?_
    refine x_afti (va_runS (As := [.long ((x1).toInt64), .long (0 : Int64), .long (1 : Int64)]) (rest := []) ⟨hx, hb, hml, hown, hts⟩ (c_X8_in l g ad H.size V ((x1).toInt64) (0 : Int64) (1 : Int64) _ hw) (cwS 3 hts gX8_image_X8_in rfl rfl rfl (by decide +kernel) ⟨Nat.le_of_ble_eq_true rfl, Nat.le_of_ble_eq_true rfl⟩) (x_preS hK hE hI) rfl rfl hl.1 rfl (lv_room (Nat.le_of_ble_eq_true rfl)) dX8_image_4 ⟨Nat.zero_le _, Nat.zero_le _⟩) hI (fun r2 V1 H locs hw hI => ?_)
    refine lv_if_ne (tgt := 13) hx hb dX8_image_7 (by decide) (fun c3 => ?_) (fun c3 => ?_)
    · replace hw := hw.1 c3
      refine lv_aload_n hx hb dX8_image_13 rfl (lv_at hl 0 rfl) ?_
      refine mg_15 hx hb hts hin8 hown hK hI hw_0 dX8_image_14 ?_
      refine lv_if_ne (tgt := 23) hx hb dX8_image_17 (by decide) (fun c4 => ?_) (fun c4 => ?_)
      · replace hw := hw.1 c4
        refine lv_bipush (v := (44 : Int32)) hx hb dX8_image_23 (by decide) ?_
        refine lv_iload_n hx hb dX8_image_25 rfl (lv_at hl 1 rfl) ?_
        refine lv_imul hx hb dX8_image_26 ?_
        refine lv_istore_n (lv' := [(2, .int ((44 : Int32) * x1)), (0, .ref (ad 0)), (1, .int x1)]) hx hb dX8_image_27 rfl hl (by decide) rfl (fun ls hl => ?_)
        refine lv_aload_n hx hb dX8_image_28 rfl (lv_at hl 1 rfl) ?_
        refine mg_30 hx hb hts hin8 hown hK hI hw_1 dX8_image_29 ?_
        refine lv_iload_n hx hb dX8_image_32 rfl (lv_at hl 0 rfl) ?_
        refine lv_iconst (v := (1 : Int32)) hx hb dX8_image_33 (by decide) ?_
        obtain ⟨h5, hw⟩ := hw
        refine x_iastV (k := 11) hx hb hK hI (cM_loc g ad) (by decide) (fun _ => rfl) h5 dX8_image_34 (fun V6 H locs eV6 hI => ?_)
        replace hw := hw V6 eV6
        refine lv_iconst (v := (0 : Int32)) hx hb dX8_image_35 (by decide) ?_
        refine lv_istore_n (lv' := [(3, .int (0 : Int32)), (2, .int ((44 : Int32) * x1)), (0, .ref (ad 0)), (1, .int x1)]) hx hb dX8_image_36 rfl hl (by decide) rfl (fun ls hl => ?_)
        obtain ⟨n37, hw⟩ := hw
        exact hL37 n37 V6 H locs ls ((44 : Int32) * x1) (0 : Int32) hI (lv_sub hl [2, 1, 0] rfl) hw
      · replace hw := hw.2 c4
        refine lv_ldc (v := (-1000002 : Int32)) hx hb hown hw_2 dX8_image_20 ?_
        exact W.iret (v := (-1000002 : Int32)) hx hb hr (x_reti hI hw) hI.2.2.2.2 dX8_image_22
    · replace hw := hw.2 c3
      refine lv_ldc (v := (-1000001 : Int32)) hx hb hown hw_3 dX8_image_10 ?_
      exact W.iret (v := (-1000001 : Int32)) hx hb hr (x_reti hI hw) hI.2.2.2.2 dX8_image_12
  exact hgo s.heap [] hI
def rm_X8_restore : Room := { frames := 1, cells := 0, slots := 0, locals := 25 }
set_option maxHeartbeats 4000000 in
set_option maxRecDepth 100000 in
theorem c_X8_restore (l : Launch) (g : GP) (ad : Nat → Nat) (sz : Nat) (V : VT) (x1 : Int32)  (K : Int32 → VT → Prop) (hw : wp_X8_restore V x1 K) : Met l yX8_restore wsX8_restore rm_X8_restore (va_Pc [.ref (ad 0), .int x1] (WPre 13 (cM g ad) ad g V sz)) (va_Qi K (WPost 13 (cM g ad) ad g) (AW ad 13 sz)) 0 0 (AW ad 13 sz) := by
  refine Met.ofW (cc := cX8_restore) (maxL := 4) (ret := (some .int)) (by decide) rfl ?_
  intro p e s m args below meth c s₁ B hml hv
  obtain ⟨ha, hv⟩ := hv
  obtain rfl := hv.1
  have hI : WI g 13 (cM g ad) ad V s.heap s.heap [] := WI.start hv
  have hK := hv.2.2.1
  have hE := hv.2.2.2.2
  have hx := B.exec
  have hb := B.bytes
  have hr := B.returns
  have hts := atoms_spec (ws := wsX8_restore) B.pre
  have hown : s.vm.findClass RX8 = some m.cls := findClass_of_methodNamed B.named
  have hlocks := B.notSynchronized
  have hw_0 := hts (.fieldLink RX8 41 "HoopLaneModel" "images" "[I") (by decide +kernel)
  have hw_1 := hts (.fieldLink RX8 144 "HoopLaneModel" "moment" "I") (by decide +kernel)
  have hw_2 := hts (.constant RX8 184 (-1000002)) (by decide +kernel)
  have hw_3 := hts (.constant RX8 64 (-1000001)) (by decide +kernel)
  have hw_4 := hts (.fieldLink RX8 147 "HoopLaneModel" "undos" "I") (by decide +kernel)
  have hw_5 := hts (.fieldLink RX8 22 "HoopLaneModel" "lane" "[I") (by decide +kernel)
  have hin8 : ∀ w ∈ wsX80, w ∈ wsX8_restore := by decide +kernel
  have hl := lv_entry ([.ref (ad 0), .int x1]) (n := 4) (Nat.le_of_ble_eq_true rfl)
  have hent : entryFrame m args 4 = F0 m 0 ((lg_sl ([.ref (ad 0), .int x1]) ++ List.replicate (4 - (lg_sl ([.ref (ad 0), .int x1])).length) Slot.unset).toArray) [] := by rw [ha, lg_entry_eq]
  rw [hent]
  generalize (lg_sl ([.ref (ad 0), .int x1]) ++ List.replicate (4 - (lg_sl ([.ref (ad 0), .int x1])).length) Slot.unset).toArray = ls at hl ⊢
  have hl : lv_has ls 4 [(0, .ref (ad 0)), (1, .int x1)] := hl
  obtain ⟨H, hH⟩ : ∃ H : Heap, H = s.heap := ⟨_, rfl⟩
  have hL80 : ∀ (n80 : Nat) (V : VT) (H : Heap) (locs : List Loc) (ls : Array Slot) (x2 : Int32) (x3 : Int32), WI g 13 (cM g ad) ad V s.heap H locs → lv_has ls 4 [(0, .ref (ad 0)), (2, .int x2), (3, .int x3)] → wp_X8_restore_L80 K  n80 V x2 x3 → W p l e (headSpec wsX8_restore rm_X8_restore).room s m args below meth c H locs 0 0 (MQ below (va_Qi K (WPost 13 (cM g ad) ad g) (AW ad 13 s.heap.size)) args s 0 0 (AW ad 13 s.heap.size)) (F0 m 80 ls []) := by
    intro n80
    induction n80 with
    | zero => intro V H locs ls x2 x3  hI hl hw; exact False.elim hw
    | succ n80 ihL80 =>
      intro V H locs ls x2 x3  hI hl hw
      refine lv_iload_n hx hb dX8_restore_80 rfl (lv_at hl 2 rfl) ?_
      refine lv_bipush (v := (38 : Int32)) hx hb dX8_restore_81 (by decide) ?_
      refine lv_icmp_ge (tgt := 109) hx hb dX8_restore_83 (by decide) (fun c13 => ?_) (fun c13 => ?_)
      · replace hw := hw.1 c13
        refine lv_aload_n hx hb dX8_restore_109 rfl (lv_at hl 0 rfl) ?_
        refine lv_iconst (v := (0 : Int32)) hx hb dX8_restore_110 (by decide) ?_
        refine mp_22 hx hb hts hin8 hown hK hI hw_4 dX8_restore_111 (fun V14 H locs eV14 hI => ?_)
        replace hw := hw V14 eV14
        refine lv_iconst (v := (1 : Int32)) hx hb dX8_restore_114 (by decide) ?_
        exact W.iret (v := (1 : Int32)) hx hb hr (x_reti hI hw) hI.2.2.2.2 dX8_restore_115
      · replace hw := hw.2 c13
        refine lv_aload_n hx hb dX8_restore_86 rfl (lv_at hl 0 rfl) ?_
        refine mg_5 hx hb hts hin8 hown hK hI hw_5 dX8_restore_87 ?_
        refine lv_iload_n hx hb dX8_restore_90 rfl (lv_at hl 2 rfl) ?_
        refine lv_aload_n hx hb dX8_restore_91 rfl (lv_at hl 0 rfl) ?_
        refine mg_30 hx hb hts hin8 hown hK hI hw_0 dX8_restore_92 ?_
        refine lv_iload_n hx hb dX8_restore_95 rfl (lv_at hl 1 rfl) ?_
        refine lv_bipush (v := (6 : Int32)) hx hb dX8_restore_96 (by decide) ?_
        refine lv_iadd hx hb dX8_restore_98 ?_
        refine lv_iload_n hx hb dX8_restore_99 rfl (lv_at hl 2 rfl) ?_
        refine lv_iadd hx hb dX8_restore_100 ?_
        obtain ⟨h15, hw⟩ := hw
        refine x_iald (k := 11) hx hb hK hI (by decide) rfl h15 dX8_restore_101 ?_
        obtain ⟨h16, hw⟩ := hw
        refine x_iastV (k := 5) hx hb hK hI (cM_loc g ad) (by decide) (fun _ => rfl) h16 dX8_restore_102 (fun V17 H locs eV17 hI => ?_)
        replace hw := hw V17 eV17
        refine lv_iinc (v := (x3 + (1 : Int32))) (lv' := [(3, .int (x3 + (1 : Int32))), (0, .ref (ad 0)), (2, .int x2)]) hx hb dX8_restore_103 hl (k := 2) rfl rfl (by decide) rfl (fun ls hl => ?_)
        refine lv_goto (tgt := 80) hx hb dX8_restore_106 (by decide) ?_
        exact ihL80 V17 H locs ls x2 (x3 + (1 : Int32)) hI (lv_sub hl [1, 2, 0] rfl) hw
  have hgo : ∀ (H : Heap) (locs : List Loc), WI g 13 (cM g ad) ad V s.heap H locs → W p l e (headSpec wsX8_restore rm_X8_restore).room s m args below meth c H locs 0 0 (MQ below (va_Qi K (WPost 13 (cM g ad) ad g) (AW ad 13 s.heap.size)) args s 0 0 (AW ad 13 s.heap.size)) (F0 m 0 ls []) := by
    intro H locs hI
    refine lv_iload_n hx hb dX8_restore_0 rfl (lv_at hl 1 rfl) ?_
    refine lv_i2l (v := (x1).toInt64) hx hb dX8_restore_1 rfl ?_
    refine lv_lconst (v := (0 : Int64)) hx hb dX8_restore_2 (by decide) ?_
    refine lv_lconst (v := (1 : Int64)) hx hb dX8_restore_3 (by decide) ?_
    refine x_afti (va_runS (As := [.long ((x1).toInt64), .long (0 : Int64), .long (1 : Int64)]) (rest := []) ⟨hx, hb, hml, hown, hts⟩ (c_X8_in l g ad H.size V ((x1).toInt64) (0 : Int64) (1 : Int64) _ hw) (cwS 3 hts gX8_restore_X8_in rfl rfl rfl (by decide +kernel) ⟨Nat.le_of_ble_eq_true rfl, Nat.le_of_ble_eq_true rfl⟩) (x_preS hK hE hI) rfl rfl hl.1 rfl (lv_room (Nat.le_of_ble_eq_true rfl)) dX8_restore_4 ⟨Nat.zero_le _, Nat.zero_le _⟩) hI (fun r2 V1 H locs hw hI => ?_)
    refine lv_if_ne (tgt := 13) hx hb dX8_restore_7 (by decide) (fun c3 => ?_) (fun c3 => ?_)
    · replace hw := hw.1 c3
      refine lv_bipush (v := (44 : Int32)) hx hb dX8_restore_13 (by decide) ?_
      refine lv_iload_n hx hb dX8_restore_15 rfl (lv_at hl 1 rfl) ?_
      refine lv_imul hx hb dX8_restore_16 ?_
      refine lv_istore_n (lv' := [(2, .int ((44 : Int32) * x1)), (0, .ref (ad 0)), (1, .int x1)]) hx hb dX8_restore_17 rfl hl (by decide) rfl (fun ls hl => ?_)
      refine lv_aload_n hx hb dX8_restore_18 rfl (lv_at hl 1 rfl) ?_
      refine mg_30 hx hb hts hin8 hown hK hI hw_0 dX8_restore_19 ?_
      refine lv_iload_n hx hb dX8_restore_22 rfl (lv_at hl 0 rfl) ?_
      obtain ⟨h4, hw⟩ := hw
      refine x_iald (k := 11) hx hb hK hI (by decide) rfl h4 dX8_restore_23 ?_
      refine lv_if_ne (tgt := 30) hx hb dX8_restore_24 (by decide) (fun c5 => ?_) (fun c5 => ?_)
      · replace hw := hw.1 c5
        refine lv_aload_n hx hb dX8_restore_30 rfl (lv_at hl 1 rfl) ?_
        refine lv_aload_n hx hb dX8_restore_31 rfl (lv_at hl 1 rfl) ?_
        refine mg_30 hx hb hts hin8 hown hK hI hw_0 dX8_restore_32 ?_
        refine lv_iload_n hx hb dX8_restore_35 rfl (lv_at hl 0 rfl) ?_
        refine lv_iconst (v := (1 : Int32)) hx hb dX8_restore_36 (by decide) ?_
        refine lv_iadd hx hb dX8_restore_37 ?_
        obtain ⟨h6, hw⟩ := hw
        refine x_iald (k := 11) hx hb hK hI (by decide) rfl h6 dX8_restore_38 ?_
        refine lv_aload_n hx hb dX8_restore_39 rfl (lv_at hl 1 rfl) ?_
        refine mg_30 hx hb hts hin8 hown hK hI hw_0 dX8_restore_40 ?_
        refine lv_iload_n hx hb dX8_restore_43 rfl (lv_at hl 0 rfl) ?_
        refine lv_iconst (v := (2 : Int32)) hx hb dX8_restore_44 (by decide) ?_
        refine lv_iadd hx hb dX8_restore_45 ?_
        obtain ⟨h7, hw⟩ := hw
        refine x_iald (k := 11) hx hb hK hI (by decide) rfl h7 dX8_restore_46 ?_
        refine lv_aload_n hx hb dX8_restore_47 rfl (lv_at hl 1 rfl) ?_
        refine mg_30 hx hb hts hin8 hown hK hI hw_0 dX8_restore_48 ?_
        refine lv_iload_n hx hb dX8_restore_51 rfl (lv_at hl 0 rfl) ?_
        refine lv_iconst (v := (3 : Int32)) hx hb dX8_restore_52 (by decide) ?_
        refine lv_iadd hx hb dX8_restore_53 ?_
        obtain ⟨h8, hw⟩ := hw
        refine x_iald (k := 11) hx hb hK hI (by decide) rfl h8 dX8_restore_54 ?_
        refine lv_aload_n hx hb dX8_restore_55 rfl (lv_at hl 1 rfl) ?_
        refine mg_30 hx hb hts hin8 hown hK hI hw_0 dX8_restore_56 ?_
        refine lv_iload_n hx hb dX8_restore_59 rfl (lv_at hl 0 rfl) ?_
        refine lv_iconst (v := (4 : Int32)) hx hb dX8_restore_60 (by decide) ?_
        refine lv_iadd hx hb dX8_restore_61 ?_
        obtain ⟨h9, hw⟩ := hw
        refine x_iald (k := 11) hx hb hK hI (by decide) rfl h9 dX8_restore_62 ?_
        refine x_aftv (va_runV (As := [.int (V1 11 ((((44 : Int32) * x1) + (1 : Int32))).toNatClampNeg), .int (V1 11 ((((44 : Int32) * x1) + (2 : Int32))).toNatClampNeg), .int (V1 11 ((((44 : Int32) * x1) + (3 : Int32))).toNatClampNeg), .int (V1 11 ((((44 : Int32) * x1) + (4 : Int32))).toNatClampNeg)]) (rest := []) ⟨hx, hb, hml, hown, hts⟩ (c_X8_puts l g ad H.size V1 (V1 11 ((((44 : Int32) * x1) + (1 : Int32))).toNatClampNeg) (V1 11 ((((44 : Int32) * x1) + (2 : Int32))).toNatClampNeg) (V1 11 ((((44 : Int32) * x1) + (3 : Int32))).toNatClampNeg) (V1 11 ((((44 : Int32) * x1) + (4 : Int32))).toNatClampNeg) _ hw) (cwV 4 hts gX8_restore_X8_puts rfl rfl rfl (by decide +kernel) ⟨Nat.le_of_ble_eq_true rfl, Nat.le_of_ble_eq_true rfl⟩) (x_preV (k := 0) hK hE hI (by decide) rfl rfl) rfl rfl hl.1 rfl (lv_room (Nat.le_of_ble_eq_true rfl)) dX8_restore_63 ⟨Nat.zero_le _, Nat.zero_le _⟩) hI (fun V10 H locs hw hI => ?_)
        refine lv_aload_n hx hb dX8_restore_66 rfl (lv_at hl 1 rfl) ?_
        refine lv_aload_n hx hb dX8_restore_67 rfl (lv_at hl 1 rfl) ?_
        refine mg_30 hx hb hts hin8 hown hK hI hw_0 dX8_restore_68 ?_
        refine lv_iload_n hx hb dX8_restore_71 rfl (lv_at hl 0 rfl) ?_
        refine lv_iconst (v := (5 : Int32)) hx hb dX8_restore_72 (by decide) ?_
        refine lv_iadd hx hb dX8_restore_73 ?_
        obtain ⟨h11, hw⟩ := hw
        refine x_iald (k := 11) hx hb hK hI (by decide) rfl h11 dX8_restore_74 ?_
        refine mp_20 hx hb hts hin8 hown hK hI hw_1 dX8_restore_75 (fun V12 H locs eV12 hI => ?_)
        replace hw := hw V12 eV12
        refine lv_iconst (v := (0 : Int32)) hx hb dX8_restore_78 (by decide) ?_
        refine lv_istore_n (lv' := [(3, .int (0 : Int32)), (2, .int ((44 : Int32) * x1)), (0, .ref (ad 0)), (1, .int x1)]) hx hb dX8_restore_79 rfl hl (by decide) rfl (fun ls hl => ?_)
        obtain ⟨n80, hw⟩ := hw
        exact hL80 n80 V12 H locs ls ((44 : Int32) * x1) (0 : Int32) hI (lv_sub hl [2, 1, 0] rfl) hw
      · replace hw := hw.2 c5
        refine lv_ldc (v := (-1000002 : Int32)) hx hb hown hw_2 dX8_restore_27 ?_
        exact W.iret (v := (-1000002 : Int32)) hx hb hr (x_reti hI hw) hI.2.2.2.2 dX8_restore_29
    · replace hw := hw.2 c3
      refine lv_ldc (v := (-1000001 : Int32)) hx hb hown hw_3 dX8_restore_10 ?_
      exact W.iret (v := (-1000001 : Int32)) hx hb hr (x_reti hI hw) hI.2.2.2.2 dX8_restore_12
  exact hgo s.heap [] hI
def rm_X8_begins : Room := { frames := 0, cells := 0, slots := 0, locals := 0 }
set_option maxHeartbeats 4000000 in
set_option maxRecDepth 100000 in
theorem c_X8_begins (l : Launch) (g : GP) (ad : Nat → Nat) (sz : Nat) (V : VT) (x1 : Int32)  (K : VT → Prop) (hw : wp_X8_begins V x1 K) : Met l yX8_begins wsX8_begins rm_X8_begins (va_Pc [.ref (ad 0), .int x1] (WPre 13 (cM g ad) ad g V sz)) (va_Qv K (WPost 13 (cM g ad) ad g) (AW ad 13 sz)) 0 0 (AW ad 13 sz) := by
  refine Met.ofW (cc := cX8_begins) (maxL := 2) (ret := none) (by decide) rfl ?_
  intro p e s m args below meth c s₁ B hml hv
  obtain ⟨ha, hv⟩ := hv
  obtain rfl := hv.1
  have hI : WI g 13 (cM g ad) ad V s.heap s.heap [] := WI.start hv
  have hK := hv.2.2.1
  have hE := hv.2.2.2.2
  have hx := B.exec
  have hb := B.bytes
  have hr := B.returns
  have hts := atoms_spec (ws := wsX8_begins) B.pre
  have hown : s.vm.findClass RX8 = some m.cls := findClass_of_methodNamed B.named
  have hlocks := B.notSynchronized
  have hw_0 := hts (.fieldLink RX8 276 "HoopLaneModel" "traced" "I") (by decide +kernel)
  have hw_1 := hts (.fieldLink RX8 44 "HoopLaneModel" "trace" "[I") (by decide +kernel)
  have hin8 : ∀ w ∈ wsX80, w ∈ wsX8_begins := by decide +kernel
  have hl := lv_entry ([.ref (ad 0), .int x1]) (n := 2) (Nat.le_of_ble_eq_true rfl)
  have hent : entryFrame m args 2 = F0 m 0 ((lg_sl ([.ref (ad 0), .int x1]) ++ List.replicate (2 - (lg_sl ([.ref (ad 0), .int x1])).length) Slot.unset).toArray) [] := by rw [ha, lg_entry_eq]
  rw [hent]
  generalize (lg_sl ([.ref (ad 0), .int x1]) ++ List.replicate (2 - (lg_sl ([.ref (ad 0), .int x1])).length) Slot.unset).toArray = ls at hl ⊢
  have hl : lv_has ls 2 [(0, .ref (ad 0)), (1, .int x1)] := hl
  obtain ⟨H, hH⟩ : ∃ H : Heap, H = s.heap := ⟨_, rfl⟩
  have hgo : ∀ (H : Heap) (locs : List Loc), WI g 13 (cM g ad) ad V s.heap H locs → W p l e (headSpec wsX8_begins rm_X8_begins).room s m args below meth c H locs 0 0 (MQ below (va_Qv K (WPost 13 (cM g ad) ad g) (AW ad 13 s.heap.size)) args s 0 0 (AW ad 13 s.heap.size)) (F0 m 0 ls []) := by
    intro H locs hI
    refine lv_aload_n hx hb dX8_begins_0 rfl (lv_at hl 0 rfl) ?_
    refine mg_32 hx hb hts hin8 hown hK hI hw_0 dX8_begins_1 ?_
    refine lv_bipush (v := (16 : Int32)) hx hb dX8_begins_4 (by decide) ?_
    refine lv_icmp_ge (tgt := 29) hx hb dX8_begins_6 (by decide) (fun c1 => ?_) (fun c1 => ?_)
    · replace hw := hw.1 c1
      exact W.vret hx hb hr (x_retv hI hw) hI.2.2.2.2 dX8_begins_29
    · replace hw := hw.2 c1
      refine lv_aload_n hx hb dX8_begins_9 rfl (lv_at hl 0 rfl) ?_
      refine mg_31 hx hb hts hin8 hown hK hI hw_1 dX8_begins_10 ?_
      refine lv_aload_n hx hb dX8_begins_13 rfl (lv_at hl 0 rfl) ?_
      refine mg_32 hx hb hts hin8 hown hK hI hw_0 dX8_begins_14 ?_
      refine lv_iload_n hx hb dX8_begins_17 rfl (lv_at hl 1 rfl) ?_
      obtain ⟨h2, hw⟩ := hw
      refine x_iastV (k := 12) hx hb hK hI (cM_loc g ad) (by decide) (fun _ => rfl) h2 dX8_begins_18 (fun V3 H locs eV3 hI => ?_)
      replace hw := hw V3 eV3
      refine lv_aload_n hx hb dX8_begins_19 rfl (lv_at hl 0 rfl) ?_
      refine lv_dup hx hb dX8_begins_20 rfl ?_
      refine mg_32 hx hb hts hin8 hown hK hI hw_0 dX8_begins_21 ?_
      refine lv_iconst (v := (1 : Int32)) hx hb dX8_begins_24 (by decide) ?_
      refine lv_iadd hx hb dX8_begins_25 ?_
      refine mp_32 hx hb hts hin8 hown hK hI hw_0 dX8_begins_26 (fun V4 H locs eV4 hI => ?_)
      replace hw := hw V4 eV4
      exact W.vret hx hb hr (x_retv hI hw) hI.2.2.2.2 dX8_begins_29
  exact hgo s.heap [] hI
def rm_X8_kind : Room := { frames := 2, cells := 0, slots := 0, locals := 46 }
set_option maxHeartbeats 4000000 in
set_option maxRecDepth 100000 in
theorem c_X8_kind (l : Launch) (g : GP) (ad : Nat → Nat) (sz : Nat) (V : VT) (x1 : Int32)  (K : Int32 → VT → Prop) (hw : wp_X8_kind V x1 K) : Met l yX8_kind wsX8_kind rm_X8_kind (va_Pc [.ref (ad 0), .int x1] (WPre 13 (cM g ad) ad g V sz)) (va_Qi K (WPost 13 (cM g ad) ad g) (AW ad 13 sz)) 0 0 (AW ad 13 sz) := by
  refine Met.ofW (cc := cX8_kind) (maxL := 2) (ret := (some .int)) (by decide) rfl ?_
  intro p e s m args below meth c s₁ B hml hv
  obtain ⟨ha, hv⟩ := hv
  obtain rfl := hv.1
  have hI : WI g 13 (cM g ad) ad V s.heap s.heap [] := WI.start hv
  have hK := hv.2.2.1
  have hE := hv.2.2.2.2
  have hx := B.exec
  have hb := B.bytes
  have hr := B.returns
  have hts := atoms_spec (ws := wsX8_kind) B.pre
  have hown : s.vm.findClass RX8 = some m.cls := findClass_of_methodNamed B.named
  have hlocks := B.notSynchronized
  have hw_0 := hts (.constant RX8 64 (-1000001)) (by decide +kernel)
  have hl := lv_entry ([.ref (ad 0), .int x1]) (n := 2) (Nat.le_of_ble_eq_true rfl)
  have hent : entryFrame m args 2 = F0 m 0 ((lg_sl ([.ref (ad 0), .int x1]) ++ List.replicate (2 - (lg_sl ([.ref (ad 0), .int x1])).length) Slot.unset).toArray) [] := by rw [ha, lg_entry_eq]
  rw [hent]
  generalize (lg_sl ([.ref (ad 0), .int x1]) ++ List.replicate (2 - (lg_sl ([.ref (ad 0), .int x1])).length) Slot.unset).toArray = ls at hl ⊢
  have hl : lv_has ls 2 [(0, .ref (ad 0)), (1, .int x1)] := hl
  obtain ⟨H, hH⟩ : ∃ H : Heap, H = s.heap := ⟨_, rfl⟩
  have hgo : ∀ (H : Heap) (locs : List Loc), WI g 13 (cM g ad) ad V s.heap H locs → W p l e (headSpec wsX8_kind rm_X8_kind).room s m args below meth c H locs 0 0 (MQ below (va_Qi K (WPost 13 (cM g ad) ad g) (AW ad 13 s.heap.size)) args s 0 0 (AW ad 13 s.heap.size)) (F0 m 0 ls []) := by
    intro H locs hI
    refine lv_aload_n hx hb dX8_kind_0 rfl (lv_at hl 0 rfl) ?_
    refine lv_iload_n hx hb dX8_kind_1 rfl (lv_at hl 1 rfl) ?_
    refine x_afti (va_runV (As := [.int x1]) (rest := []) ⟨hx, hb, hml, hown, hts⟩ (c_X8_isTap l g ad H.size V x1 _ hw) (cwV 1 hts gX8_kind_X8_isTap rfl rfl rfl (by decide +kernel) ⟨Nat.le_of_ble_eq_true rfl, Nat.le_of_ble_eq_true rfl⟩) (x_preV (k := 0) hK hE hI (by decide) rfl rfl) rfl rfl hl.1 rfl (lv_room (Nat.le_of_ble_eq_true rfl)) dX8_kind_2 ⟨Nat.zero_le _, Nat.zero_le _⟩) hI (fun r2 V1 H locs hw hI => ?_)
    refine lv_if_eq (tgt := 16) hx hb dX8_kind_5 (by decide) (fun c3 => ?_) (fun c3 => ?_)
    · replace hw := hw.1 c3
      refine lv_ldc (v := (-1000001 : Int32)) hx hb hown hw_0 dX8_kind_16 ?_
      exact W.iret (v := (-1000001 : Int32)) hx hb hr (x_reti hI hw) hI.2.2.2.2 dX8_kind_18
    · replace hw := hw.2 c3
      refine lv_aload_n hx hb dX8_kind_8 rfl (lv_at hl 0 rfl) ?_
      refine lv_iload_n hx hb dX8_kind_9 rfl (lv_at hl 1 rfl) ?_
      refine x_afti (va_runV (As := [.int x1]) (rest := []) ⟨hx, hb, hml, hown, hts⟩ (c_X8_kindAt l g ad H.size V1 x1 _ hw) (cwV 1 hts gX8_kind_X8_kindAt rfl rfl rfl (by decide +kernel) ⟨Nat.le_of_ble_eq_true rfl, Nat.le_of_ble_eq_true rfl⟩) (x_preV (k := 0) hK hE hI (by decide) rfl rfl) rfl rfl hl.1 rfl (lv_room (Nat.le_of_ble_eq_true rfl)) dX8_kind_10 ⟨Nat.zero_le _, Nat.zero_le _⟩) hI (fun r5 V4 H locs hw hI => ?_)
      refine lv_goto (tgt := 18) hx hb dX8_kind_13 (by decide) ?_
      exact W.iret (v := r5) hx hb hr (x_reti hI hw) hI.2.2.2.2 dX8_kind_18
  exact hgo s.heap [] hI
