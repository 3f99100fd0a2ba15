def rm_X7_init : Room := { frames := 3, cells := 75, slots := 3255, locals := 70 }
set_option maxHeartbeats 4000000 in
set_option maxRecDepth 100000 in
theorem c_X7_init (l : Launch) (g : GP) (h0 sz : Nat) : Met l yX7_init wsX7_init rm_X7_init (va_Pc [.ref h0] (CPre g [(h0, (.inr (7, [.null, .null, .null, .null, .null, .null, .null, .null, .null, .int 0, .int 0])))] sz)) (va_Qv (Sh7 g h0) (CPost g (va_A [(h0, (.inr (7, [.null, .null, .null, .null, .null, .null, .null, .null, .null, .int 0, .int 0])))] sz)) (va_A [(h0, (.inr (7, [.null, .null, .null, .null, .null, .null, .null, .null, .null, .int 0, .int 0])))] sz)) 75 3255 (va_A [(h0, (.inr (7, [.null, .null, .null, .null, .null, .null, .null, .null, .null, .int 0, .int 0])))] sz) := by
  refine Met.ofW (cc := cX7_init) (maxL := 2) (ret := none) (by decide) rfl ?_
  intro p e s m args below meth c s₁ B hml hv
  obtain ⟨ha, hsz, hP, hK, hD0, hO⟩ := hv
  have hx := B.exec
  have hb := B.bytes
  have hr := B.returns
  have hts := atoms_spec (ws := wsX7_init) B.pre
  have hown : s.vm.findClass RX7 = some m.cls := findClass_of_methodNamed B.named
  have hlocks := B.notSynchronized
  have hinN : meth.name = "<init>" := (name_of_methodNamed B.named B.method).1
  subst hsz
  have hA : ∀ q : Nat, s.heap.size ≤ q → va_A [(h0, (.inr (7, [.null, .null, .null, .null, .null, .null, .null, .null, .null, .int 0, .int 0])))] s.heap.size q := fun q h => Or.inr h
  have hI : CI g ((h0, (.inr (7, [.null, .null, .null, .null, .null, .null, .null, .null, .null, .int 0, .int 0]))) :: ([] : va_W)) (va_A [(h0, (.inr (7, [.null, .null, .null, .null, .null, .null, .null, .null, .null, .int 0, .int 0])))] s.heap.size) s.heap s.heap [] := ⟨hP, hD0.self (sz := s.heap.size), va_S.rf⟩
  generalize va_A [(h0, (.inr (7, [.null, .null, .null, .null, .null, .null, .null, .null, .null, .int 0, .int 0])))] s.heap.size = A at hA hI ⊢
  have hl := lv_entry ([.ref h0]) (n := 2) (Nat.le_of_ble_eq_true rfl)
  have hent : entryFrame m args 2 = F0 m 0 ((lg_sl ([.ref h0]) ++ List.replicate (2 - (lg_sl ([.ref h0])).length) Slot.unset).toArray) [] := by rw [ha, lg_entry_eq]
  rw [hent]
  generalize (lg_sl ([.ref h0]) ++ List.replicate (2 - (lg_sl ([.ref h0])).length) Slot.unset).toArray = ls at hl ⊢
  have hl : lv_has ls 2 [(0, .ref h0)] := hl
  have hgo : ∀ (H : Heap) (locs : List Loc), CI g ((h0, (.inr (7, [.null, .null, .null, .null, .null, .null, .null, .null, .null, .int 0, .int 0]))) :: ([] : va_W)) A s.heap H locs → W p l e (headSpec wsX7_init rm_X7_init).room s m args below meth c H locs 0 0 (MQ below (va_Qv (Sh7 g h0) (CPost g A) A) args s 75 3255 A) (F0 m 0 ls []) := by
    intro H locs hI
    have hin0 : ∀ w ∈ wsX00, w ∈ wsX7_init := by decide +kernel
    have hin1 : ∀ w ∈ wsX10, w ∈ wsX7_init := by decide +kernel
    have hin2 : ∀ w ∈ wsX20, w ∈ wsX7_init := by decide +kernel
    have hin3 : ∀ w ∈ wsX30, w ∈ wsX7_init := by decide +kernel
    have hin4 : ∀ w ∈ wsX40, w ∈ wsX7_init := by decide +kernel
    have hin5 : ∀ w ∈ wsX50, w ∈ wsX7_init := by decide +kernel
    have hin6 : ∀ w ∈ wsX60, w ∈ wsX7_init := by decide +kernel
    have hin7 : ∀ w ∈ wsX70, w ∈ wsX7_init := by decide +kernel
    refine lv_aload_n hx hb dX7_init_0 rfl (lv_at hl 0 rfl) ?_
    refine W.objInit hx hb hown (hts (.methodLink RX7 1 objectInit) (by decide +kernel)) (hts (.instanceMethod objectInit) (by decide +kernel)) (hts (.code objectInit ⟨#[0xb1]⟩ 1 none) (by decide +kernel)) rfl (by rw [hml]; exact hl.1) rfl dX7_init_1 (Nat.le_of_ble_eq_true rfl) (Nat.le_of_ble_eq_true rfl) ?_
    refine W.eq (g2 := F0 m 4 ls []) rfl ?_
    refine lv_aload_n hx hb dX7_init_4 rfl (lv_at hl 0 rfl) ?_
    refine lv_bipush (v := (8 : Int32)) hx hb dX7_init_5 (by decide) ?_
    refine k_newq (N' := 8) (C := RX5) hx hb hown (hts (.classLink RX7 9 RX5) (by decide +kernel)) hO.2.2.1 hK (t := 4) (cG := g.2.1.2.2.2.2) rfl hA hI (by decide) rfl (by decide) (Nat.le_of_ble_eq_true rfl) (Nat.le_of_ble_eq_true rfl) dX7_init_7 (fun q1 H hI => ?_)
    refine W.widen (k := 1) (n := 8) (Nat.le_refl _) (Nat.le_refl _) ?_
    have hI : CI g ((h0, .inr (7, [.null, .null, .null, .null, .null, .null, .null, .null, .null, .int 0, .int 0])) :: (([] : va_W) ++ [(q1, rA g.2.1.2.2.2.2 8 (fun _ => none))])) A s.heap H locs := hI
    refine k_putF (ci := 7) (v := .ref q1) (ty := (.array (.object "HoopLane$Row"))) (C := RX7) (T := TX7) (N := 11) hx hb hts hin7 tyX7 tyX7_ok nmX7 hown hK hI rfl 0 (by decide) (hts (.fieldLink RX7 11 "HoopLane" "rows" "[LHoopLane$Row;") (by decide +kernel)) (fun _ h => h) rfl hinN rfl (by decide +kernel) rfl rfl (Nat.le_of_ble_eq_true rfl) dX7_init_10 (fun H locs hI => ?_)
    have hI : CI g ((h0, .inr (7, [.ref q1, .null, .null, .null, .null, .null, .null, .null, .null, .int 0, .int 0])) :: (([] : va_W) ++ [(q1, rA g.2.1.2.2.2.2 8 (fun _ => none))])) A s.heap H locs := hI
    refine lv_aload_n hx hb dX7_init_13 rfl (lv_at hl 0 rfl) ?_
    refine lv_iconst (v := (2 : Int32)) hx hb dX7_init_14 (by decide) ?_
    refine k_newq (N' := 2) (C := RX3) hx hb hown (hts (.classLink RX7 15 RX3) (by decide +kernel)) hO.2.1 hK (t := 3) (cG := g.2.1.2.2.2.1) rfl hA hI (by decide) rfl (by decide) (Nat.le_of_ble_eq_true rfl) (Nat.le_of_ble_eq_true rfl) dX7_init_15 (fun q2 H hI => ?_)
    refine W.widen (k := 2) (n := 10) (Nat.le_refl _) (Nat.le_refl _) ?_
    have hI : CI g ((h0, .inr (7, [.ref q1, .null, .null, .null, .null, .null, .null, .null, .null, .int 0, .int 0])) :: ((([] : va_W) ++ [(q1, rA g.2.1.2.2.2.2 8 (fun _ => none))]) ++ [(q2, rA g.2.1.2.2.2.1 2 (fun _ => none))])) A s.heap H locs := hI
    refine k_putF (ci := 7) (v := .ref q2) (ty := (.array (.object "HoopLane$Lane"))) (C := RX7) (T := TX7) (N := 11) hx hb hts hin7 tyX7 tyX7_ok nmX7 hown hK hI rfl 1 (by decide) (hts (.fieldLink RX7 17 "HoopLane" "images" "[LHoopLane$Lane;") (by decide +kernel)) (fun _ h => h) rfl hinN rfl (by decide +kernel) rfl rfl (Nat.le_of_ble_eq_true rfl) dX7_init_18 (fun H locs hI => ?_)
    have hI : CI g ((h0, .inr (7, [.ref q1, .ref q2, .null, .null, .null, .null, .null, .null, .null, .int 0, .int 0])) :: ((([] : va_W) ++ [(q1, rA g.2.1.2.2.2.2 8 (fun _ => none))]) ++ [(q2, rA g.2.1.2.2.2.1 2 (fun _ => none))])) A s.heap H locs := hI
    refine lv_aload_n hx hb dX7_init_21 rfl (lv_at hl 0 rfl) ?_
    refine k_new (ci := 3) (fs := [.null, .null, .null, .null, .int 0, .int 0, .int 0, .int 0, .int 0]) (C := RX3) (T := TX3) (N := 9) hx hb hts hin3 tyX3 tyX3_ok hown (hts (.classLink RX7 15 RX3) (by decide +kernel)) (hts (.instantiable RX3 9) (by decide +kernel)) (hts (.initialized RX3) (by decide +kernel)) hK hA hI rfl (fun j hj => by rcases (show j = 0 ∨ j = 1 ∨ j = 2 ∨ j = 3 ∨ j = 4 ∨ j = 5 ∨ j = 6 ∨ j = 7 ∨ j = 8 by omega) with rfl | rfl | rfl | rfl | rfl | rfl | rfl | rfl | rfl <;> rfl) (Nat.le_of_ble_eq_true rfl) (Nat.le_of_ble_eq_true rfl) dX7_init_22 (fun q3 H hI => ?_)
    refine lv_dup hx hb dX7_init_25 rfl ?_
    refine k_init (ws := ((h0, .inr (7, [.ref q1, .ref q2, .null, .null, .null, .null, .null, .null, .null, .int 0, .int 0])) :: ((([] : va_W) ++ [(q1, rA g.2.1.2.2.2.2 8 (fun _ => none))]) ++ [(q2, rA g.2.1.2.2.2.1 2 (fun _ => none))]))) hA hI (va_runIN (As := []) (rest := [.ref q3, .ref h0]) ⟨hx, hb, hml, hown, hts⟩ (c_X3_init l g q3 H.size) ⟨va_cnB 0 hts gX7_init_X3_init_n21 rfl rfl rfl (hO.2.2.2 _ (List.mem_of_getElem? (i := 0) rfl)) (hts (.initialized RX3) (by decide +kernel)) (by decide +kernel) ⟨Nat.le_of_ble_eq_true rfl, Nat.le_of_ble_eq_true rfl⟩, rfl, (hts (.instanceMethod yX3_init) (by decide +kernel))⟩ (k_pre (ws := ((h0, .inr (7, [.ref q1, .ref q2, .null, .null, .null, .null, .null, .null, .null, .int 0, .int 0])) :: ((([] : va_W) ++ [(q1, rA g.2.1.2.2.2.2 8 (fun _ => none))]) ++ [(q2, rA g.2.1.2.2.2.1 2 (fun _ => none))]))) hK hO hI) rfl rfl hl.1 rfl (lv_room (Nat.le_of_ble_eq_true rfl)) dX7_init_26 ⟨Nat.le_of_ble_eq_true rfl, Nat.le_of_ble_eq_true rfl⟩) (fun w1 H locs hw hI => ?_)
    obtain ⟨bq3, rfl, rfl⟩ := hw
    refine W.widen (k := 7) (n := 57) (Nat.le_refl _) (Nat.le_refl _) ?_
    have hI : CI g ((h0, .inr (7, [.ref q1, .ref q2, .null, .null, .null, .null, .null, .null, .null, .int 0, .int 0])) :: (((([] : va_W) ++ [(q1, rA g.2.1.2.2.2.2 8 (fun _ => none))]) ++ [(q2, rA g.2.1.2.2.2.1 2 (fun _ => none))]) ++ L3 g bq3)) A s.heap H locs := hI
    refine k_putF (ci := 7) (v := .ref (bq3 0)) (ty := (.object "HoopLane$Lane")) (C := RX7) (T := TX7) (N := 11) hx hb hts hin7 tyX7 tyX7_ok nmX7 hown hK hI rfl 2 (by decide) (hts (.fieldLink RX7 22 "HoopLane" "lane" "LHoopLane$Lane;") (by decide +kernel)) (fun _ h => h) rfl hinN rfl (by decide +kernel) rfl rfl (Nat.le_of_ble_eq_true rfl) dX7_init_29 (fun H locs hI => ?_)
    have hI : CI g ((h0, .inr (7, [.ref q1, .ref q2, .ref (bq3 0), .null, .null, .null, .null, .null, .null, .int 0, .int 0])) :: (((([] : va_W) ++ [(q1, rA g.2.1.2.2.2.2 8 (fun _ => none))]) ++ [(q2, rA g.2.1.2.2.2.1 2 (fun _ => none))]) ++ L3 g bq3)) A s.heap H locs := hI
    refine lv_aload_n hx hb dX7_init_32 rfl (lv_at hl 0 rfl) ?_
    refine k_new (ci := 3) (fs := [.null, .null, .null, .null, .int 0, .int 0, .int 0, .int 0, .int 0]) (C := RX3) (T := TX3) (N := 9) hx hb hts hin3 tyX3 tyX3_ok hown (hts (.classLink RX7 15 RX3) (by decide +kernel)) (hts (.instantiable RX3 9) (by decide +kernel)) (hts (.initialized RX3) (by decide +kernel)) hK hA hI rfl (fun j hj => by rcases (show j = 0 ∨ j = 1 ∨ j = 2 ∨ j = 3 ∨ j = 4 ∨ j = 5 ∨ j = 6 ∨ j = 7 ∨ j = 8 by omega) with rfl | rfl | rfl | rfl | rfl | rfl | rfl | rfl | rfl <;> rfl) (Nat.le_of_ble_eq_true rfl) (Nat.le_of_ble_eq_true rfl) dX7_init_33 (fun q4 H hI => ?_)
    refine lv_dup hx hb dX7_init_36 rfl ?_
    refine k_init (ws := ((h0, .inr (7, [.ref q1, .ref q2, .ref (bq3 0), .null, .null, .null, .null, .null, .null, .int 0, .int 0])) :: (((([] : va_W) ++ [(q1, rA g.2.1.2.2.2.2 8 (fun _ => none))]) ++ [(q2, rA g.2.1.2.2.2.1 2 (fun _ => none))]) ++ L3 g bq3))) hA hI (va_runIN (As := []) (rest := [.ref q4, .ref h0]) ⟨hx, hb, hml, hown, hts⟩ (c_X3_init l g q4 H.size) ⟨va_cnB 0 hts gX7_init_X3_init_n21 rfl rfl rfl (hO.2.2.2 _ (List.mem_of_getElem? (i := 0) rfl)) (hts (.initialized RX3) (by decide +kernel)) (by decide +kernel) ⟨Nat.le_of_ble_eq_true rfl, Nat.le_of_ble_eq_true rfl⟩, rfl, (hts (.instanceMethod yX3_init) (by decide +kernel))⟩ (k_pre (ws := ((h0, .inr (7, [.ref q1, .ref q2, .ref (bq3 0), .null, .null, .null, .null, .null, .null, .int 0, .int 0])) :: (((([] : va_W) ++ [(q1, rA g.2.1.2.2.2.2 8 (fun _ => none))]) ++ [(q2, rA g.2.1.2.2.2.1 2 (fun _ => none))]) ++ L3 g bq3))) hK hO hI) rfl rfl hl.1 rfl (lv_room (Nat.le_of_ble_eq_true rfl)) dX7_init_37 ⟨Nat.le_of_ble_eq_true rfl, Nat.le_of_ble_eq_true rfl⟩) (fun w1 H locs hw hI => ?_)
    obtain ⟨bq4, rfl, rfl⟩ := hw
    refine W.widen (k := 12) (n := 104) (Nat.le_refl _) (Nat.le_refl _) ?_
    have hI : CI g ((h0, .inr (7, [.ref q1, .ref q2, .ref (bq3 0), .null, .null, .null, .null, .null, .null, .int 0, .int 0])) :: ((((([] : va_W) ++ [(q1, rA g.2.1.2.2.2.2 8 (fun _ => none))]) ++ [(q2, rA g.2.1.2.2.2.1 2 (fun _ => none))]) ++ L3 g bq3) ++ L3 g bq4)) A s.heap H locs := hI
    refine k_putF (ci := 7) (v := .ref (bq4 0)) (ty := (.object "HoopLane$Lane")) (C := RX7) (T := TX7) (N := 11) hx hb hts hin7 tyX7 tyX7_ok nmX7 hown hK hI rfl 3 (by decide) (hts (.fieldLink RX7 26 "HoopLane" "read" "LHoopLane$Lane;") (by decide +kernel)) (fun _ h => h) rfl hinN rfl (by decide +kernel) rfl rfl (Nat.le_of_ble_eq_true rfl) dX7_init_40 (fun H locs hI => ?_)
    have hI : CI g ((h0, .inr (7, [.ref q1, .ref q2, .ref (bq3 0), .ref (bq4 0), .null, .null, .null, .null, .null, .int 0, .int 0])) :: ((((([] : va_W) ++ [(q1, rA g.2.1.2.2.2.2 8 (fun _ => none))]) ++ [(q2, rA g.2.1.2.2.2.1 2 (fun _ => none))]) ++ L3 g bq3) ++ L3 g bq4)) A s.heap H locs := hI
    refine lv_aload_n hx hb dX7_init_43 rfl (lv_at hl 0 rfl) ?_
    refine k_new (ci := 6) (fs := [.null, .int 0, .int 0, .int 0]) (C := RX6) (T := TX6) (N := 4) hx hb hts hin6 tyX6 tyX6_ok hown (hts (.classLink RX7 29 RX6) (by decide +kernel)) (hts (.instantiable RX6 4) (by decide +kernel)) (hts (.initialized RX6) (by decide +kernel)) hK hA hI rfl (fun j hj => by rcases (show j = 0 ∨ j = 1 ∨ j = 2 ∨ j = 3 by omega) with rfl | rfl | rfl | rfl <;> rfl) (Nat.le_of_ble_eq_true rfl) (Nat.le_of_ble_eq_true rfl) dX7_init_44 (fun q5 H hI => ?_)
    refine lv_dup hx hb dX7_init_47 rfl ?_
    refine k_init (ws := ((h0, .inr (7, [.ref q1, .ref q2, .ref (bq3 0), .ref (bq4 0), .null, .null, .null, .null, .null, .int 0, .int 0])) :: ((((([] : va_W) ++ [(q1, rA g.2.1.2.2.2.2 8 (fun _ => none))]) ++ [(q2, rA g.2.1.2.2.2.1 2 (fun _ => none))]) ++ L3 g bq3) ++ L3 g bq4))) hA hI (va_runIN (As := []) (rest := [.ref q5, .ref h0]) ⟨hx, hb, hml, hown, hts⟩ (c_X6_init l g q5 H.size) ⟨va_cnB 0 hts gX7_init_X6_init_n31 rfl rfl rfl (hO.2.2.2 _ (List.mem_of_getElem? (i := 1) rfl)) (hts (.initialized RX6) (by decide +kernel)) (by decide +kernel) ⟨Nat.le_of_ble_eq_true rfl, Nat.le_of_ble_eq_true rfl⟩, rfl, (hts (.instanceMethod yX6_init) (by decide +kernel))⟩ (k_pre (ws := ((h0, .inr (7, [.ref q1, .ref q2, .ref (bq3 0), .ref (bq4 0), .null, .null, .null, .null, .null, .int 0, .int 0])) :: ((((([] : va_W) ++ [(q1, rA g.2.1.2.2.2.2 8 (fun _ => none))]) ++ [(q2, rA g.2.1.2.2.2.1 2 (fun _ => none))]) ++ L3 g bq3) ++ L3 g bq4))) hK hO hI) rfl rfl hl.1 rfl (lv_room (Nat.le_of_ble_eq_true rfl)) dX7_init_48 ⟨Nat.le_of_ble_eq_true rfl, Nat.le_of_ble_eq_true rfl⟩) (fun w1 H locs hw hI => ?_)
    obtain ⟨bq5, rfl, rfl⟩ := hw
    refine W.widen (k := 14) (n := 208) (Nat.le_refl _) (Nat.le_refl _) ?_
    have hI : CI g ((h0, .inr (7, [.ref q1, .ref q2, .ref (bq3 0), .ref (bq4 0), .null, .null, .null, .null, .null, .int 0, .int 0])) :: (((((([] : va_W) ++ [(q1, rA g.2.1.2.2.2.2 8 (fun _ => none))]) ++ [(q2, rA g.2.1.2.2.2.1 2 (fun _ => none))]) ++ L3 g bq3) ++ L3 g bq4) ++ L6 g bq5)) A s.heap H locs := hI
    refine k_putF (ci := 7) (v := .ref (bq5 0)) (ty := (.object "HoopLane$Tape")) (C := RX7) (T := TX7) (N := 11) hx hb hts hin7 tyX7 tyX7_ok nmX7 hown hK hI rfl 4 (by decide) (hts (.fieldLink RX7 32 "HoopLane" "tape" "LHoopLane$Tape;") (by decide +kernel)) (fun _ h => h) rfl hinN rfl (by decide +kernel) rfl rfl (Nat.le_of_ble_eq_true rfl) dX7_init_51 (fun H locs hI => ?_)
    have hI : CI g ((h0, .inr (7, [.ref q1, .ref q2, .ref (bq3 0), .ref (bq4 0), .ref (bq5 0), .null, .null, .null, .null, .int 0, .int 0])) :: (((((([] : va_W) ++ [(q1, rA g.2.1.2.2.2.2 8 (fun _ => none))]) ++ [(q2, rA g.2.1.2.2.2.1 2 (fun _ => none))]) ++ L3 g bq3) ++ L3 g bq4) ++ L6 g bq5)) A s.heap H locs := hI
    refine lv_aload_n hx hb dX7_init_54 rfl (lv_at hl 0 rfl) ?_
    refine k_new (ci := 0) (fs := [.null, .null, .null, .null, .int 0, .int 0]) (C := RX0) (T := TX0) (N := 6) hx hb hts hin0 tyX0 tyX0_ok hown (hts (.classLink RX7 36 RX0) (by decide +kernel)) (hts (.instantiable RX0 6) (by decide +kernel)) (hts (.initialized RX0) (by decide +kernel)) hK hA hI rfl (fun j hj => by rcases (show j = 0 ∨ j = 1 ∨ j = 2 ∨ j = 3 ∨ j = 4 ∨ j = 5 by omega) with rfl | rfl | rfl | rfl | rfl | rfl <;> rfl) (Nat.le_of_ble_eq_true rfl) (Nat.le_of_ble_eq_true rfl) dX7_init_55 (fun q6 H hI => ?_)
    refine lv_dup hx hb dX7_init_58 rfl ?_
    refine k_init (ws := ((h0, .inr (7, [.ref q1, .ref q2, .ref (bq3 0), .ref (bq4 0), .ref (bq5 0), .null, .null, .null, .null, .int 0, .int 0])) :: (((((([] : va_W) ++ [(q1, rA g.2.1.2.2.2.2 8 (fun _ => none))]) ++ [(q2, rA g.2.1.2.2.2.1 2 (fun _ => none))]) ++ L3 g bq3) ++ L3 g bq4) ++ L6 g bq5))) hA hI (va_runI (As := []) (rest := [.ref q6, .ref h0]) ⟨hx, hb, hml, hown, hts⟩ (c_X0_init l g q6 H.size) (cwI 0 hts gX7_init_X0_init rfl rfl rfl (hts (.initialized RX0) (by decide +kernel)) (hts (.methodLink RX7 38 yX0_init) (by decide +kernel)) (hts (.instanceMethod yX0_init) (by decide +kernel)) rfl (by decide +kernel) ⟨Nat.le_of_ble_eq_true rfl, Nat.le_of_ble_eq_true rfl⟩) (k_pre (ws := ((h0, .inr (7, [.ref q1, .ref q2, .ref (bq3 0), .ref (bq4 0), .ref (bq5 0), .null, .null, .null, .null, .int 0, .int 0])) :: (((((([] : va_W) ++ [(q1, rA g.2.1.2.2.2.2 8 (fun _ => none))]) ++ [(q2, rA g.2.1.2.2.2.1 2 (fun _ => none))]) ++ L3 g bq3) ++ L3 g bq4) ++ L6 g bq5))) hK hO hI) rfl rfl hl.1 rfl (lv_room (Nat.le_of_ble_eq_true rfl)) dX7_init_59 ⟨Nat.le_of_ble_eq_true rfl, Nat.le_of_ble_eq_true rfl⟩) (fun w1 H locs hw hI => ?_)
    obtain ⟨bq6, jq6, rfl, rfl⟩ := hw
    refine W.widen (k := 43) (n := 406) (Nat.le_refl _) (Nat.le_refl _) ?_
    have hI : CI g ((h0, .inr (7, [.ref q1, .ref q2, .ref (bq3 0), .ref (bq4 0), .ref (bq5 0), .null, .null, .null, .null, .int 0, .int 0])) :: ((((((([] : va_W) ++ [(q1, rA g.2.1.2.2.2.2 8 (fun _ => none))]) ++ [(q2, rA g.2.1.2.2.2.1 2 (fun _ => none))]) ++ L3 g bq3) ++ L3 g bq4) ++ L6 g bq5) ++ L0 g bq6 jq6)) A s.heap H locs := hI
    refine k_putF (ci := 7) (v := .ref (bq6 0)) (ty := (.object "HoopLane$Acts")) (C := RX7) (T := TX7) (N := 11) hx hb hts hin7 tyX7 tyX7_ok nmX7 hown hK hI rfl 5 (by decide) (hts (.fieldLink RX7 39 "HoopLane" "acts" "LHoopLane$Acts;") (by decide +kernel)) (fun _ h => h) rfl hinN rfl (by decide +kernel) rfl rfl (Nat.le_of_ble_eq_true rfl) dX7_init_62 (fun H locs hI => ?_)
    have hI : CI g ((h0, .inr (7, [.ref q1, .ref q2, .ref (bq3 0), .ref (bq4 0), .ref (bq5 0), .ref (bq6 0), .null, .null, .null, .int 0, .int 0])) :: ((((((([] : va_W) ++ [(q1, rA g.2.1.2.2.2.2 8 (fun _ => none))]) ++ [(q2, rA g.2.1.2.2.2.1 2 (fun _ => none))]) ++ L3 g bq3) ++ L3 g bq4) ++ L6 g bq5) ++ L0 g bq6 jq6)) A s.heap H locs := hI
    refine lv_aload_n hx hb dX7_init_65 rfl (lv_at hl 0 rfl) ?_
    refine k_new (ci := 4) (fs := [.null, .null, .int 0, .int 0, .int 0]) (C := RX4) (T := TX4) (N := 5) hx hb hts hin4 tyX4 tyX4_ok hown (hts (.classLink RX7 43 RX4) (by decide +kernel)) (hts (.instantiable RX4 5) (by decide +kernel)) (hts (.initialized RX4) (by decide +kernel)) hK hA hI rfl (fun j hj => by rcases (show j = 0 ∨ j = 1 ∨ j = 2 ∨ j = 3 ∨ j = 4 by omega) with rfl | rfl | rfl | rfl | rfl <;> rfl) (Nat.le_of_ble_eq_true rfl) (Nat.le_of_ble_eq_true rfl) dX7_init_66 (fun q7 H hI => ?_)
    refine lv_dup hx hb dX7_init_69 rfl ?_
    refine k_init (ws := ((h0, .inr (7, [.ref q1, .ref q2, .ref (bq3 0), .ref (bq4 0), .ref (bq5 0), .ref (bq6 0), .null, .null, .null, .int 0, .int 0])) :: ((((((([] : va_W) ++ [(q1, rA g.2.1.2.2.2.2 8 (fun _ => none))]) ++ [(q2, rA g.2.1.2.2.2.1 2 (fun _ => none))]) ++ L3 g bq3) ++ L3 g bq4) ++ L6 g bq5) ++ L0 g bq6 jq6))) hA hI (va_runIN (As := []) (rest := [.ref q7, .ref h0]) ⟨hx, hb, hml, hown, hts⟩ (c_X4_init l g q7 H.size) ⟨va_cnB 0 hts gX7_init_X4_init_n45 rfl rfl rfl (hO.2.2.2 _ (List.mem_of_getElem? (i := 2) rfl)) (hts (.initialized RX4) (by decide +kernel)) (by decide +kernel) ⟨Nat.le_of_ble_eq_true rfl, Nat.le_of_ble_eq_true rfl⟩, rfl, (hts (.instanceMethod yX4_init) (by decide +kernel))⟩ (k_pre (ws := ((h0, .inr (7, [.ref q1, .ref q2, .ref (bq3 0), .ref (bq4 0), .ref (bq5 0), .ref (bq6 0), .null, .null, .null, .int 0, .int 0])) :: ((((((([] : va_W) ++ [(q1, rA g.2.1.2.2.2.2 8 (fun _ => none))]) ++ [(q2, rA g.2.1.2.2.2.1 2 (fun _ => none))]) ++ L3 g bq3) ++ L3 g bq4) ++ L6 g bq5) ++ L0 g bq6 jq6))) hK hO hI) rfl rfl hl.1 rfl (lv_room (Nat.le_of_ble_eq_true rfl)) dX7_init_70 ⟨Nat.le_of_ble_eq_true rfl, Nat.le_of_ble_eq_true rfl⟩) (fun w1 H locs hw hI => ?_)
    obtain ⟨bq7, rfl, rfl⟩ := hw
    refine W.widen (k := 46) (n := 2791) (Nat.le_refl _) (Nat.le_refl _) ?_
    have hI : CI g ((h0, .inr (7, [.ref q1, .ref q2, .ref (bq3 0), .ref (bq4 0), .ref (bq5 0), .ref (bq6 0), .null, .null, .null, .int 0, .int 0])) :: (((((((([] : va_W) ++ [(q1, rA g.2.1.2.2.2.2 8 (fun _ => none))]) ++ [(q2, rA g.2.1.2.2.2.1 2 (fun _ => none))]) ++ L3 g bq3) ++ L3 g bq4) ++ L6 g bq5) ++ L0 g bq6 jq6) ++ L4 g bq7)) A s.heap H locs := hI
    refine k_putF (ci := 7) (v := .ref (bq7 0)) (ty := (.object "HoopLane$Paths")) (C := RX7) (T := TX7) (N := 11) hx hb hts hin7 tyX7 tyX7_ok nmX7 hown hK hI rfl 6 (by decide) (hts (.fieldLink RX7 46 "HoopLane" "paths" "LHoopLane$Paths;") (by decide +kernel)) (fun _ h => h) rfl hinN rfl (by decide +kernel) rfl rfl (Nat.le_of_ble_eq_true rfl) dX7_init_73 (fun H locs hI => ?_)
    have hI : CI g ((h0, .inr (7, [.ref q1, .ref q2, .ref (bq3 0), .ref (bq4 0), .ref (bq5 0), .ref (bq6 0), .ref (bq7 0), .null, .null, .int 0, .int 0])) :: (((((((([] : va_W) ++ [(q1, rA g.2.1.2.2.2.2 8 (fun _ => none))]) ++ [(q2, rA g.2.1.2.2.2.1 2 (fun _ => none))]) ++ L3 g bq3) ++ L3 g bq4) ++ L6 g bq5) ++ L0 g bq6 jq6) ++ L4 g bq7)) A s.heap H locs := hI
    refine lv_aload_n hx hb dX7_init_76 rfl (lv_at hl 0 rfl) ?_
    refine k_new (ci := 1) (fs := [.null, .int 0, .int 0, .int 0, .int 0, .int 0]) (C := RX1) (T := TX1) (N := 6) hx hb hts hin1 tyX1 tyX1_ok hown (hts (.classLink RX7 50 RX1) (by decide +kernel)) (hts (.instantiable RX1 6) (by decide +kernel)) (hts (.initialized RX1) (by decide +kernel)) hK hA hI rfl (fun j hj => by rcases (show j = 0 ∨ j = 1 ∨ j = 2 ∨ j = 3 ∨ j = 4 ∨ j = 5 by omega) with rfl | rfl | rfl | rfl | rfl | rfl <;> rfl) (Nat.le_of_ble_eq_true rfl) (Nat.le_of_ble_eq_true rfl) dX7_init_77 (fun q8 H hI => ?_)
    refine lv_dup hx hb dX7_init_80 rfl ?_
    refine k_init (ws := ((h0, .inr (7, [.ref q1, .ref q2, .ref (bq3 0), .ref (bq4 0), .ref (bq5 0), .ref (bq6 0), .ref (bq7 0), .null, .null, .int 0, .int 0])) :: (((((((([] : va_W) ++ [(q1, rA g.2.1.2.2.2.2 8 (fun _ => none))]) ++ [(q2, rA g.2.1.2.2.2.1 2 (fun _ => none))]) ++ L3 g bq3) ++ L3 g bq4) ++ L6 g bq5) ++ L0 g bq6 jq6) ++ L4 g bq7))) hA hI (va_runIN (As := []) (rest := [.ref q8, .ref h0]) ⟨hx, hb, hml, hown, hts⟩ (c_X1_init l g q8 H.size) ⟨va_cnB 0 hts gX7_init_X1_init_n52 rfl rfl rfl (hO.2.2.2 _ (List.mem_of_getElem? (i := 3) rfl)) (hts (.initialized RX1) (by decide +kernel)) (by decide +kernel) ⟨Nat.le_of_ble_eq_true rfl, Nat.le_of_ble_eq_true rfl⟩, rfl, (hts (.instanceMethod yX1_init) (by decide +kernel))⟩ (k_pre (ws := ((h0, .inr (7, [.ref q1, .ref q2, .ref (bq3 0), .ref (bq4 0), .ref (bq5 0), .ref (bq6 0), .ref (bq7 0), .null, .null, .int 0, .int 0])) :: (((((((([] : va_W) ++ [(q1, rA g.2.1.2.2.2.2 8 (fun _ => none))]) ++ [(q2, rA g.2.1.2.2.2.1 2 (fun _ => none))]) ++ L3 g bq3) ++ L3 g bq4) ++ L6 g bq5) ++ L0 g bq6 jq6) ++ L4 g bq7))) hK hO hI) rfl rfl hl.1 rfl (lv_room (Nat.le_of_ble_eq_true rfl)) dX7_init_81 ⟨Nat.le_of_ble_eq_true rfl, Nat.le_of_ble_eq_true rfl⟩) (fun w1 H locs hw hI => ?_)
    obtain ⟨bq8, rfl, rfl⟩ := hw
    refine W.widen (k := 48) (n := 2813) (Nat.le_refl _) (Nat.le_refl _) ?_
    have hI : CI g ((h0, .inr (7, [.ref q1, .ref q2, .ref (bq3 0), .ref (bq4 0), .ref (bq5 0), .ref (bq6 0), .ref (bq7 0), .null, .null, .int 0, .int 0])) :: ((((((((([] : va_W) ++ [(q1, rA g.2.1.2.2.2.2 8 (fun _ => none))]) ++ [(q2, rA g.2.1.2.2.2.1 2 (fun _ => none))]) ++ L3 g bq3) ++ L3 g bq4) ++ L6 g bq5) ++ L0 g bq6 jq6) ++ L4 g bq7) ++ L1 g bq8)) A s.heap H locs := hI
    refine k_putF (ci := 7) (v := .ref (bq8 0)) (ty := (.object "HoopLane$Asks")) (C := RX7) (T := TX7) (N := 11) hx hb hts hin7 tyX7 tyX7_ok nmX7 hown hK hI rfl 7 (by decide) (hts (.fieldLink RX7 53 "HoopLane" "asks" "LHoopLane$Asks;") (by decide +kernel)) (fun _ h => h) rfl hinN rfl (by decide +kernel) rfl rfl (Nat.le_of_ble_eq_true rfl) dX7_init_84 (fun H locs hI => ?_)
    have hI : CI g ((h0, .inr (7, [.ref q1, .ref q2, .ref (bq3 0), .ref (bq4 0), .ref (bq5 0), .ref (bq6 0), .ref (bq7 0), .ref (bq8 0), .null, .int 0, .int 0])) :: ((((((((([] : va_W) ++ [(q1, rA g.2.1.2.2.2.2 8 (fun _ => none))]) ++ [(q2, rA g.2.1.2.2.2.1 2 (fun _ => none))]) ++ L3 g bq3) ++ L3 g bq4) ++ L6 g bq5) ++ L0 g bq6 jq6) ++ L4 g bq7) ++ L1 g bq8)) A s.heap H locs := hI
    refine lv_aload_n hx hb dX7_init_87 rfl (lv_at hl 0 rfl) ?_
    refine k_new (ci := 2) (fs := [.int 0, .int 0, .int 0, .int 0]) (C := RX2) (T := TX2) (N := 4) hx hb hts hin2 tyX2 tyX2_ok hown (hts (.classLink RX7 57 RX2) (by decide +kernel)) (hts (.instantiable RX2 4) (by decide +kernel)) (hts (.initialized RX2) (by decide +kernel)) hK hA hI rfl (fun j hj => by rcases (show j = 0 ∨ j = 1 ∨ j = 2 ∨ j = 3 by omega) with rfl | rfl | rfl | rfl <;> rfl) (Nat.le_of_ble_eq_true rfl) (Nat.le_of_ble_eq_true rfl) dX7_init_88 (fun q9 H hI => ?_)
    refine lv_dup hx hb dX7_init_91 rfl ?_
    refine k_init (ws := ((h0, .inr (7, [.ref q1, .ref q2, .ref (bq3 0), .ref (bq4 0), .ref (bq5 0), .ref (bq6 0), .ref (bq7 0), .ref (bq8 0), .null, .int 0, .int 0])) :: ((((((((([] : va_W) ++ [(q1, rA g.2.1.2.2.2.2 8 (fun _ => none))]) ++ [(q2, rA g.2.1.2.2.2.1 2 (fun _ => none))]) ++ L3 g bq3) ++ L3 g bq4) ++ L6 g bq5) ++ L0 g bq6 jq6) ++ L4 g bq7) ++ L1 g bq8))) hA hI (va_runIN (As := []) (rest := [.ref q9, .ref h0]) ⟨hx, hb, hml, hown, hts⟩ (c_X2_init l g q9 H.size) ⟨va_cnB 0 hts gX7_init_X2_init_n59 rfl rfl rfl (hO.2.2.2 _ (List.mem_of_getElem? (i := 4) rfl)) (hts (.initialized RX2) (by decide +kernel)) (by decide +kernel) ⟨Nat.le_of_ble_eq_true rfl, Nat.le_of_ble_eq_true rfl⟩, rfl, (hts (.instanceMethod yX2_init) (by decide +kernel))⟩ (k_pre (ws := ((h0, .inr (7, [.ref q1, .ref q2, .ref (bq3 0), .ref (bq4 0), .ref (bq5 0), .ref (bq6 0), .ref (bq7 0), .ref (bq8 0), .null, .int 0, .int 0])) :: ((((((((([] : va_W) ++ [(q1, rA g.2.1.2.2.2.2 8 (fun _ => none))]) ++ [(q2, rA g.2.1.2.2.2.1 2 (fun _ => none))]) ++ L3 g bq3) ++ L3 g bq4) ++ L6 g bq5) ++ L0 g bq6 jq6) ++ L4 g bq7) ++ L1 g bq8))) hK hO hI) rfl rfl hl.1 rfl (lv_room (Nat.le_of_ble_eq_true rfl)) dX7_init_92 ⟨Nat.le_of_ble_eq_true rfl, Nat.le_of_ble_eq_true rfl⟩) (fun w1 H locs hw hI => ?_)
    have hw : w1 = _ := hw
    subst hw
    refine W.widen (k := 49) (n := 2817) (Nat.le_refl _) (Nat.le_refl _) ?_
    have hI : CI g ((h0, .inr (7, [.ref q1, .ref q2, .ref (bq3 0), .ref (bq4 0), .ref (bq5 0), .ref (bq6 0), .ref (bq7 0), .ref (bq8 0), .null, .int 0, .int 0])) :: (((((((((([] : va_W) ++ [(q1, rA g.2.1.2.2.2.2 8 (fun _ => none))]) ++ [(q2, rA g.2.1.2.2.2.1 2 (fun _ => none))]) ++ L3 g bq3) ++ L3 g bq4) ++ L6 g bq5) ++ L0 g bq6 jq6) ++ L4 g bq7) ++ L1 g bq8) ++ [(q9, eH)])) A s.heap H locs := hI
    refine k_putF (ci := 7) (v := .ref q9) (ty := (.object "HoopLane$Hoop")) (C := RX7) (T := TX7) (N := 11) hx hb hts hin7 tyX7 tyX7_ok nmX7 hown hK hI rfl 8 (by decide) (hts (.fieldLink RX7 60 "HoopLane" "trial" "LHoopLane$Hoop;") (by decide +kernel)) (fun _ h => h) rfl hinN rfl (by decide +kernel) rfl rfl (Nat.le_of_ble_eq_true rfl) dX7_init_95 (fun H locs hI => ?_)
    have hI : CI g ((h0, .inr (7, [.ref q1, .ref q2, .ref (bq3 0), .ref (bq4 0), .ref (bq5 0), .ref (bq6 0), .ref (bq7 0), .ref (bq8 0), .ref q9, .int 0, .int 0])) :: (((((((((([] : va_W) ++ [(q1, rA g.2.1.2.2.2.2 8 (fun _ => none))]) ++ [(q2, rA g.2.1.2.2.2.1 2 (fun _ => none))]) ++ L3 g bq3) ++ L3 g bq4) ++ L6 g bq5) ++ L0 g bq6 jq6) ++ L4 g bq7) ++ L1 g bq8) ++ [(q9, eH)])) A s.heap H locs := hI
    refine lv_aload_n hx hb dX7_init_98 rfl (lv_at hl 0 rfl) ?_
    refine lv_iconst (v := (0 : Int32)) hx hb dX7_init_99 (by decide) ?_
    refine k_put (ci := 7) (v := .int 0) (ty := .int) (C := RX7) (T := TX7) (N := 11) hx hb hts hin7 tyX7 tyX7_ok nmX7 hown hK hI rfl 9 (by decide) (hts (.fieldLink RX7 64 "HoopLane" "fault" "I") (by decide +kernel)) (fun _ h => h) rfl (by decide +kernel) rfl rfl (Nat.le_of_ble_eq_true rfl) dX7_init_100 (fun H locs hI => ?_)
    have hI : CI g ((h0, .inr (7, [.ref q1, .ref q2, .ref (bq3 0), .ref (bq4 0), .ref (bq5 0), .ref (bq6 0), .ref (bq7 0), .ref (bq8 0), .ref q9, .int 0, .int 0])) :: (((((((((([] : va_W) ++ [(q1, rA g.2.1.2.2.2.2 8 (fun _ => none))]) ++ [(q2, rA g.2.1.2.2.2.1 2 (fun _ => none))]) ++ L3 g bq3) ++ L3 g bq4) ++ L6 g bq5) ++ L0 g bq6 jq6) ++ L4 g bq7) ++ L1 g bq8) ++ [(q9, eH)])) A s.heap H locs := hI
    refine lv_aload_n hx hb dX7_init_103 rfl (lv_at hl 0 rfl) ?_
    refine lv_iconst (v := (0 : Int32)) hx hb dX7_init_104 (by decide) ?_
    refine k_put (ci := 7) (v := .int 0) (ty := .int) (C := RX7) (T := TX7) (N := 11) hx hb hts hin7 tyX7 tyX7_ok nmX7 hown hK hI rfl 10 (by decide) (hts (.fieldLink RX7 68 "HoopLane" "status" "I") (by decide +kernel)) (fun _ h => h) rfl (by decide +kernel) rfl rfl (Nat.le_of_ble_eq_true rfl) dX7_init_105 (fun H locs hI => ?_)
    have hI : CI g ((h0, .inr (7, [.ref q1, .ref q2, .ref (bq3 0), .ref (bq4 0), .ref (bq5 0), .ref (bq6 0), .ref (bq7 0), .ref (bq8 0), .ref q9, .int 0, .int 0])) :: (((((((((([] : va_W) ++ [(q1, rA g.2.1.2.2.2.2 8 (fun _ => none))]) ++ [(q2, rA g.2.1.2.2.2.1 2 (fun _ => none))]) ++ L3 g bq3) ++ L3 g bq4) ++ L6 g bq5) ++ L0 g bq6 jq6) ++ L4 g bq7) ++ L1 g bq8) ++ [(q9, eH)])) A s.heap H locs := hI
    refine lv_iconst (v := (0 : Int32)) hx hb dX7_init_108 (by decide) ?_
    refine lv_istore_n (lv' := [(1, .int 0), (0, .ref h0)]) hx hb dX7_init_109 rfl hl (by decide) rfl (fun ls hl => ?_)
    have loop2 : ∀ (rj : Nat → Nat → Nat) (n k : Nat) (P : Nat → va_W) (ij : Nat → Nat → Nat) (f : Nat → Option Nat) (H : Heap) (locs : List Loc) (ls : Array Slot), n + k = 2 → (∀ j, j < k → f j = some (ij j 0) ∧ P j = L3 g (ij j)) → CI g ((h0, .inr (7, [.ref q1, .ref q2, .ref (bq3 0), .ref (bq4 0), .ref (bq5 0), .ref (bq6 0), .ref (bq7 0), .ref (bq8 0), .ref q9, .int 0, .int 0])) :: (q1, rA g.2.1.2.2.2.2 8 (fun h => some (rj h 0))) :: (q2, rA g.2.1.2.2.2.1 2 f) :: ((((((((L3 g bq3 ++ L3 g bq4) ++ L6 g bq5) ++ L0 g bq6 jq6) ++ L4 g bq7) ++ L1 g bq8) ++ [(q9, eH)]) ++ pl 8 (fun j => L5 g (rj j))) ++ pl k P)) A s.heap H locs → lv_has ls 2 [(1, .int (nI k)), (0, .ref h0)] → W p l e (headSpec wsX7_init rm_X7_init).room s m args below meth c H locs (65 + 5 * k) (3161 + 47 * k) (MQ below (va_Qv (Sh7 g h0) (CPost g A) A) args s 75 3255 A) (F0 m 137 ls []) := by
      intro rj n
      induction n with
      | zero =>
        intro k P ij f H locs ls hk hP hI hl
        have hkN : k = 2 := by omega
        subst hkN
        refine lv_iload_n hx hb dX7_init_137 rfl (lv_at hl 0 rfl) ?_
        refine lv_iconst (v := (2 : Int32)) hx hb dX7_init_138 (by decide) ?_
        refine lv_icmp_ge (tgt := 161) hx hb dX7_init_139 (by decide) (fun _ => ?_) (fun cn => absurd (show (2 : Int32) ≤ nI 2 by decide) cn)
        have hI := CI_rA2 hI (fun j hj0 => (hP j hj0).1)
        have e1 : pl 2 P = pl 2 (fun j => L3 g (ij j)) := pl_cg 2 (fun j hj0 => (hP j hj0).2)
        rw [e1] at hI
        exact W.vret hx hb hr (fun t ht hW => ⟨⟨_, rfl, (⟨q1, q2, q9, bq3, bq4, bq5, bq6, jq6, bq7, bq8, rj, ij, rfl⟩ : Sh7 g h0 _), by rw [ht]; exact hI.1, hI.2.1⟩, hI.2.2.F ht⟩) hI.2.2.2.2 dX7_init_161
      | succ n ih =>
        intro k P ij f H locs ls hk hP hI hl
        refine lv_iload_n hx hb dX7_init_137 rfl (lv_at hl 0 rfl) ?_
        refine lv_iconst (v := (2 : Int32)) hx hb dX7_init_138 (by decide) ?_
        refine lv_icmp_ge (tgt := 161) hx hb dX7_init_139 (by decide) (fun cy => absurd cy (nI_ge (b := 2) (by omega) (by decide))) (fun _ => ?_)
        refine lv_aload_n hx hb dX7_init_142 rfl (lv_at hl 1 rfl) ?_
        refine k_get (ci := 7) (fs := [.ref q1, .ref q2, .ref (bq3 0), .ref (bq4 0), .ref (bq5 0), .ref (bq6 0), .ref (bq7 0), .ref (bq8 0), .ref q9, .int 0, .int 0]) (v := .ref q2) (C := RX7) (T := TX7) (N := 11) hx hb hts hin7 hown hK hI rfl 1 (by decide) (hts (.fieldLink RX7 17 "HoopLane" "images" "[LHoopLane$Lane;") (by decide +kernel)) (fun _ h => h) rfl dX7_init_143 ?_
        refine lv_iload_n hx hb dX7_init_146 rfl (lv_at hl 0 rfl) ?_
        refine k_new (ci := 3) (fs := [.null, .null, .null, .null, .int 0, .int 0, .int 0, .int 0, .int 0]) (C := RX3) (T := TX3) (N := 9) hx hb hts hin3 tyX3 tyX3_ok hown (hts (.classLink RX7 15 RX3) (by decide +kernel)) (hts (.instantiable RX3 9) (by decide +kernel)) (hts (.initialized RX3) (by decide +kernel)) hK hA hI rfl (fun j hj => by rcases (show j = 0 ∨ j = 1 ∨ j = 2 ∨ j = 3 ∨ j = 4 ∨ j = 5 ∨ j = 6 ∨ j = 7 ∨ j = 8 by omega) with rfl | rfl | rfl | rfl | rfl | rfl | rfl | rfl | rfl <;> rfl) (by show 65 + 5 * k + 1 ≤ 75; omega) (by show 3161 + 47 * k + 9 ≤ 3255; omega) dX7_init_147 (fun q178 H hI => ?_)
        refine lv_dup hx hb dX7_init_150 rfl ?_
        refine k_init (ws := ((h0, .inr (7, [.ref q1, .ref q2, .ref (bq3 0), .ref (bq4 0), .ref (bq5 0), .ref (bq6 0), .ref (bq7 0), .ref (bq8 0), .ref q9, .int 0, .int 0])) :: (q1, rA g.2.1.2.2.2.2 8 (fun h => some (rj h 0))) :: (q2, rA g.2.1.2.2.2.1 2 f) :: ((((((((L3 g bq3 ++ L3 g bq4) ++ L6 g bq5) ++ L0 g bq6 jq6) ++ L4 g bq7) ++ L1 g bq8) ++ [(q9, eH)]) ++ pl 8 (fun j => L5 g (rj j))) ++ pl k P))) hA hI (va_runIN (As := []) (rest := [.ref q178, .int (nI k), .ref q2]) ⟨hx, hb, hml, hown, hts⟩ (c_X3_init l g q178 H.size) ⟨va_cnB 0 hts gX7_init_X3_init_n21 rfl rfl rfl (hO.2.2.2 _ (List.mem_of_getElem? (i := 0) rfl)) (hts (.initialized RX3) (by decide +kernel)) (by decide +kernel) ⟨Nat.le_of_ble_eq_true rfl, Nat.le_of_ble_eq_true rfl⟩, rfl, (hts (.instanceMethod yX3_init) (by decide +kernel))⟩ (k_pre (ws := ((h0, .inr (7, [.ref q1, .ref q2, .ref (bq3 0), .ref (bq4 0), .ref (bq5 0), .ref (bq6 0), .ref (bq7 0), .ref (bq8 0), .ref q9, .int 0, .int 0])) :: (q1, rA g.2.1.2.2.2.2 8 (fun h => some (rj h 0))) :: (q2, rA g.2.1.2.2.2.1 2 f) :: ((((((((L3 g bq3 ++ L3 g bq4) ++ L6 g bq5) ++ L0 g bq6 jq6) ++ L4 g bq7) ++ L1 g bq8) ++ [(q9, eH)]) ++ pl 8 (fun j => L5 g (rj j))) ++ pl k P))) hK hO hI) rfl rfl hl.1 rfl (lv_room (Nat.le_of_ble_eq_true rfl)) dX7_init_151 ⟨(by show 65 + 5 * k + 1 + 4 ≤ 75; omega), (by show 3161 + 47 * k + 9 + 38 ≤ 3255; omega)⟩) (fun w1 H locs hw hI => ?_)
        obtain ⟨bq178, rfl, rfl⟩ := hw
        have hI : CI g ((h0, .inr (7, [.ref q1, .ref q2, .ref (bq3 0), .ref (bq4 0), .ref (bq5 0), .ref (bq6 0), .ref (bq7 0), .ref (bq8 0), .ref q9, .int 0, .int 0])) :: (q1, rA g.2.1.2.2.2.2 8 (fun h => some (rj h 0))) :: (q2, rA g.2.1.2.2.2.1 2 f) :: (((((((((L3 g bq3 ++ L3 g bq4) ++ L6 g bq5) ++ L0 g bq6 jq6) ++ L4 g bq7) ++ L1 g bq8) ++ [(q9, eH)]) ++ pl 8 (fun j => L5 g (rj j))) ++ pl k P) ++ (((bq178 0), .inr (3, [.ref (bq178 1), .ref (bq178 2), .ref (bq178 3), .ref (bq178 4), .int 0, .int 0, .int 0, .int 0, .int 0])) :: ([(bq178 1, zA g 24), (bq178 2, zA g 5), (bq178 3, zA g 5), (bq178 4, eH)] : va_W)))) A s.heap H locs := hI
        refine k_ast2 hx hb hK hI (t0 := 3) (r := (RX3, TX3, 9)) rfl rfl (vpn (n := k) (by omega) (by decide)) dX7_init_154 (fun H locs hI => ?_)
        refine lv_iinc (v := nI k + (1 : Int32)) (lv' := [(1, .int (nI k + (1 : Int32))), (0, .ref h0)]) hx hb dX7_init_155 hl (k := 0) rfl rfl (by decide) rfl (fun ls hl => ?_)
        refine lv_goto (tgt := 137) hx hb dX7_init_158 (by decide) ?_
        refine W.widen (k := 65 + 5 * (k + 1)) (n := 3161 + 47 * (k + 1)) (by omega) (by omega) ?_
        refine ih (k + 1) (upP P k (L3 g bq178)) (upP ij k bq178) (va_up f k (some (bq178 0))) H locs ls (by omega) (fun j hj0 => ?_) ?_ (by rw [← nI_1]; exact hl)
        · by_cases z : j = k
          · subst z; rw [va_up_self, upP_s, upP_s]; exact ⟨rfl, rfl⟩
          · rw [va_up_ne _ _ z, upP_n z, upP_n z]; exact hP j (by omega)
        · rw [nI_c (by omega)] at hI
          rw [pl_up, ← List.append_assoc]
          exact hI
    have loop1 : ∀ (n k : Nat) (P : Nat → va_W) (rj : Nat → Nat → Nat) (f : Nat → Option Nat) (H : Heap) (locs : List Loc) (ls : Array Slot), n + k = 8 → (∀ j, j < k → f j = some (rj j 0) ∧ P j = L5 g (rj j)) → CI g ((h0, .inr (7, [.ref q1, .ref q2, .ref (bq3 0), .ref (bq4 0), .ref (bq5 0), .ref (bq6 0), .ref (bq7 0), .ref (bq8 0), .ref q9, .int 0, .int 0])) :: (q1, rA g.2.1.2.2.2.2 8 f) :: (((q2, rA g.2.1.2.2.2.1 2 (fun _ => none)) :: ((((((L3 g bq3 ++ L3 g bq4) ++ L6 g bq5) ++ L0 g bq6 jq6) ++ L4 g bq7) ++ L1 g bq8) ++ [(q9, eH)])) ++ pl k P)) A s.heap H locs → lv_has ls 2 [(1, .int (nI k)), (0, .ref h0)] → W p l e (headSpec wsX7_init rm_X7_init).room s m args below meth c H locs (49 + 2 * k) (2817 + 43 * k) (MQ below (va_Qv (Sh7 g h0) (CPost g A) A) args s 75 3255 A) (F0 m 110 ls []) := by
      intro n
      induction n with
      | zero =>
        intro k P rj f H locs ls hk hP hI hl
        have hkN : k = 8 := by omega
        subst hkN
        refine lv_iload_n hx hb dX7_init_110 rfl (lv_at hl 0 rfl) ?_
        refine lv_bipush (v := (8 : Int32)) hx hb dX7_init_111 (by decide) ?_
        refine lv_icmp_ge (tgt := 135) hx hb dX7_init_113 (by decide) (fun _ => ?_) (fun cn => absurd (show (8 : Int32) ≤ nI 8 by decide) cn)
        have hI := CI_rA1 hI (fun j hj0 => (hP j hj0).1)
        have e1 : pl 8 P = pl 8 (fun j => L5 g (rj j)) := pl_cg 8 (fun j hj0 => (hP j hj0).2)
        rw [e1] at hI
        refine lv_iconst (v := (0 : Int32)) hx hb dX7_init_135 (by decide) ?_
        refine lv_istore_n (lv' := [(1, .int 0), (0, .ref h0)]) hx hb dX7_init_136 rfl hl (by decide) rfl (fun ls hl => ?_)
        have hI : CI g ((h0, .inr (7, [.ref q1, .ref q2, .ref (bq3 0), .ref (bq4 0), .ref (bq5 0), .ref (bq6 0), .ref (bq7 0), .ref (bq8 0), .ref q9, .int 0, .int 0])) :: (q1, rA g.2.1.2.2.2.2 8 (fun h => some (rj h 0))) :: (q2, rA g.2.1.2.2.2.1 2 (fun _ => none)) :: (((((((L3 g bq3 ++ L3 g bq4) ++ L6 g bq5) ++ L0 g bq6 jq6) ++ L4 g bq7) ++ L1 g bq8) ++ [(q9, eH)]) ++ pl 8 (fun j => L5 g (rj j)))) A s.heap H locs := hI
        refine loop2 rj 2 0 (fun _ => []) (fun _ _ => 0) (fun _ => none) H locs ls (by omega) (fun j hj0 => absurd hj0 (Nat.not_lt_zero j)) ?_ hl
        rw [pl_0, List.append_nil]
        exact hI
      | succ n ih =>
        intro k P rj f H locs ls hk hP hI hl
        refine lv_iload_n hx hb dX7_init_110 rfl (lv_at hl 0 rfl) ?_
        refine lv_bipush (v := (8 : Int32)) hx hb dX7_init_111 (by decide) ?_
        refine lv_icmp_ge (tgt := 135) hx hb dX7_init_113 (by decide) (fun cy => absurd cy (nI_ge (b := 8) (by omega) (by decide))) (fun _ => ?_)
        refine lv_aload_n hx hb dX7_init_116 rfl (lv_at hl 1 rfl) ?_
        refine k_get (ci := 7) (fs := [.ref q1, .ref q2, .ref (bq3 0), .ref (bq4 0), .ref (bq5 0), .ref (bq6 0), .ref (bq7 0), .ref (bq8 0), .ref q9, .int 0, .int 0]) (v := .ref q1) (C := RX7) (T := TX7) (N := 11) hx hb hts hin7 hown hK hI rfl 0 (by decide) (hts (.fieldLink RX7 11 "HoopLane" "rows" "[LHoopLane$Row;") (by decide +kernel)) (fun _ h => h) rfl dX7_init_117 ?_
        refine lv_iload_n hx hb dX7_init_120 rfl (lv_at hl 0 rfl) ?_
        refine k_new (ci := 5) (fs := [.null, .int 0, .int 0]) (C := RX5) (T := TX5) (N := 3) hx hb hts hin5 tyX5 tyX5_ok hown (hts (.classLink RX7 9 RX5) (by decide +kernel)) (hts (.instantiable RX5 3) (by decide +kernel)) (hts (.initialized RX5) (by decide +kernel)) hK hA hI rfl (fun j hj => by rcases (show j = 0 ∨ j = 1 ∨ j = 2 by omega) with rfl | rfl | rfl <;> rfl) (by show 49 + 2 * k + 1 ≤ 75; omega) (by show 2817 + 43 * k + 3 ≤ 3255; omega) dX7_init_121 (fun q151 H hI => ?_)
        refine lv_dup hx hb dX7_init_124 rfl ?_
        refine k_init (ws := ((h0, .inr (7, [.ref q1, .ref q2, .ref (bq3 0), .ref (bq4 0), .ref (bq5 0), .ref (bq6 0), .ref (bq7 0), .ref (bq8 0), .ref q9, .int 0, .int 0])) :: (q1, rA g.2.1.2.2.2.2 8 f) :: (((q2, rA g.2.1.2.2.2.1 2 (fun _ => none)) :: ((((((L3 g bq3 ++ L3 g bq4) ++ L6 g bq5) ++ L0 g bq6 jq6) ++ L4 g bq7) ++ L1 g bq8) ++ [(q9, eH)])) ++ pl k P))) hA hI (va_runIN (As := []) (rest := [.ref q151, .int (nI k), .ref q1]) ⟨hx, hb, hml, hown, hts⟩ (c_X5_init l g q151 H.size) ⟨va_cnB 0 hts gX7_init_X5_init_n71 rfl rfl rfl (hO.2.2.2 _ (List.mem_of_getElem? (i := 5) rfl)) (hts (.initialized RX5) (by decide +kernel)) (by decide +kernel) ⟨Nat.le_of_ble_eq_true rfl, Nat.le_of_ble_eq_true rfl⟩, rfl, (hts (.instanceMethod yX5_init) (by decide +kernel))⟩ (k_pre (ws := ((h0, .inr (7, [.ref q1, .ref q2, .ref (bq3 0), .ref (bq4 0), .ref (bq5 0), .ref (bq6 0), .ref (bq7 0), .ref (bq8 0), .ref q9, .int 0, .int 0])) :: (q1, rA g.2.1.2.2.2.2 8 f) :: (((q2, rA g.2.1.2.2.2.1 2 (fun _ => none)) :: ((((((L3 g bq3 ++ L3 g bq4) ++ L6 g bq5) ++ L0 g bq6 jq6) ++ L4 g bq7) ++ L1 g bq8) ++ [(q9, eH)])) ++ pl k P))) hK hO hI) rfl rfl hl.1 rfl (lv_room (Nat.le_of_ble_eq_true rfl)) dX7_init_125 ⟨(by show 49 + 2 * k + 1 + 1 ≤ 75; omega), (by show 2817 + 43 * k + 3 + 40 ≤ 3255; omega)⟩) (fun w1 H locs hw hI => ?_)
        obtain ⟨bq151, rfl, rfl⟩ := hw
        have hI : CI g ((h0, .inr (7, [.ref q1, .ref q2, .ref (bq3 0), .ref (bq4 0), .ref (bq5 0), .ref (bq6 0), .ref (bq7 0), .ref (bq8 0), .ref q9, .int 0, .int 0])) :: (q1, rA g.2.1.2.2.2.2 8 f) :: ((((q2, rA g.2.1.2.2.2.1 2 (fun _ => none)) :: ((((((L3 g bq3 ++ L3 g bq4) ++ L6 g bq5) ++ L0 g bq6 jq6) ++ L4 g bq7) ++ L1 g bq8) ++ [(q9, eH)])) ++ pl k P) ++ (((bq151 0), .inr (5, [.ref (bq151 1), .int (-1), .int 0])) :: ([(bq151 1, zA g 40)] : va_W)))) A s.heap H locs := hI
        refine k_ast1 hx hb hK hI (t0 := 4) (r := (RX5, TX5, 3)) rfl rfl (vpn (n := k) (by omega) (by decide)) dX7_init_128 (fun H locs hI => ?_)
        refine lv_iinc (v := nI k + (1 : Int32)) (lv' := [(1, .int (nI k + (1 : Int32))), (0, .ref h0)]) hx hb dX7_init_129 hl (k := 0) rfl rfl (by decide) rfl (fun ls hl => ?_)
        refine lv_goto (tgt := 110) hx hb dX7_init_132 (by decide) ?_
        refine W.widen (k := 49 + 2 * (k + 1)) (n := 2817 + 43 * (k + 1)) (by omega) (by omega) ?_
        refine ih (k + 1) (upP P k (L5 g bq151)) (upP rj k bq151) (va_up f k (some (bq151 0))) H locs ls (by omega) (fun j hj0 => ?_) ?_ (by rw [← nI_1]; exact hl)
        · by_cases z : j = k
          · subst z; rw [va_up_self, upP_s, upP_s]; exact ⟨rfl, rfl⟩
          · rw [va_up_ne _ _ z, upP_n z, upP_n z]; exact hP j (by omega)
        · rw [nI_c (by omega)] at hI
          rw [pl_up, ← List.append_assoc]
          exact hI
    have hI : CI g ((h0, .inr (7, [.ref q1, .ref q2, .ref (bq3 0), .ref (bq4 0), .ref (bq5 0), .ref (bq6 0), .ref (bq7 0), .ref (bq8 0), .ref q9, .int 0, .int 0])) :: (q1, rA g.2.1.2.2.2.2 8 (fun _ => none)) :: ((q2, rA g.2.1.2.2.2.1 2 (fun _ => none)) :: ((((((L3 g bq3 ++ L3 g bq4) ++ L6 g bq5) ++ L0 g bq6 jq6) ++ L4 g bq7) ++ L1 g bq8) ++ [(q9, eH)]))) A s.heap H locs := hI
    refine loop1 8 0 (fun _ => []) (fun _ _ => 0) (fun _ => none) H locs ls (by omega) (fun j hj0 => absurd hj0 (Nat.not_lt_zero j)) ?_ hl
    rw [pl_0, List.append_nil]
    exact hI
  exact hgo s.heap [] hI
