/-! constructors -/
def Sh2 (_ : GP) (q : Nat) (w : va_W) : Prop := w = [(q, eH)]
def L5 (g : GP) (b : Nat → Nat) : va_W := [(b 0, .inr (5, [.ref (b 1), .int (-1), .int 0])), (b 1, zA g 40)]
def Sh5 (g : GP) (q : Nat) (w : va_W) : Prop := ∃ b : Nat → Nat, b 0 = q ∧ w = L5 g b
def L6 (g : GP) (b : Nat → Nat) : va_W := [(b 0, .inr (6, [.ref (b 1), .int 0, .int 0, .int 0])), (b 1, zA g 100)]
def Sh6 (g : GP) (q : Nat) (w : va_W) : Prop := ∃ b : Nat → Nat, b 0 = q ∧ w = L6 g b
def L1 (g : GP) (b : Nat → Nat) : va_W := [(b 0, .inr (1, [.ref (b 1), .int 0, .int 0, .int 0, .int 0, .int 0])), (b 1, zA g 16)]
def Sh1 (g : GP) (q : Nat) (w : va_W) : Prop := ∃ b : Nat → Nat, b 0 = q ∧ w = L1 g b
def L4 (g : GP) (b : Nat → Nat) : va_W := [(b 0, .inr (4, [.ref (b 1), .ref (b 2), .int 0, .int 8000000, .int 0])), (b 1, zA g 2376), (b 2, eH)]
def Sh4 (g : GP) (q : Nat) (w : va_W) : Prop := ∃ b : Nat → Nat, b 0 = q ∧ w = L4 g b
def L3 (g : GP) (b : Nat → Nat) : va_W := [(b 0, .inr (3, [.ref (b 1), .ref (b 2), .ref (b 3), .ref (b 4), .int 0, .int 0, .int 0, .int 0, .int 0])), (b 1, zA g 24), (b 2, zA g 5), (b 3, zA g 5), (b 4, eH)]
def Sh3 (g : GP) (q : Nat) (w : va_W) : Prop := ∃ b : Nat → Nat, b 0 = q ∧ w = L3 g b
def L0 (g : GP) (b hj : Nat → Nat) : va_W := (b 0, .inr (0, [.ref (b 1), .ref (b 2), .ref (b 3), .ref (b 4), .int 0, .int 0])) :: (b 1, rA g.2.1.2.2.1 24 (fun h => some (hj h))) :: ([(b 2, zA g 24), (b 3, zA g 24), (b 4, zA g 24)] ++ pl 24 (fun j => [(hj j, eH)]))
def Sh0 (g : GP) (q : Nat) (w : va_W) : Prop := ∃ b hj : Nat → Nat, b 0 = q ∧ w = L0 g b hj
def rm_X2_init : Room := { frames := 1, cells := 0, slots := 0, locals := 12 }
set_option maxHeartbeats 4000000 in
set_option maxRecDepth 100000 in
theorem c_X2_init (l : Launch) (g : GP) (h0 sz : Nat) : Met l yX2_init wsX2_init rm_X2_init (va_Pc [.ref h0] (CPre g [(h0, (.inr (2, [.int 0, .int 0, .int 0, .int 0])))] sz)) (va_Qv (Sh2 g h0) (CPost g (va_A [(h0, (.inr (2, [.int 0, .int 0, .int 0, .int 0])))] sz)) (va_A [(h0, (.inr (2, [.int 0, .int 0, .int 0, .int 0])))] sz)) 0 0 (va_A [(h0, (.inr (2, [.int 0, .int 0, .int 0, .int 0])))] sz) := by
  refine Met.ofW (cc := cX2_init) (maxL := 1) (ret := none) (by decide) rfl ?_
  intro p e s m args below meth c s₁ B hml hv
  obtain ⟨ha, hsz, hP, hK, hD0, hO⟩ := hv
  have hx := B.exec
  have hb := B.bytes
  have hr := B.returns
  have hts := atoms_spec (ws := wsX2_init) B.pre
  have hown : s.vm.findClass RX2 = some m.cls := findClass_of_methodNamed B.named
  have hlocks := B.notSynchronized
  have hin0 : meth.name = "<init>" := (name_of_methodNamed B.named B.method).1
  subst hsz
  have hA : ∀ q : Nat, s.heap.size ≤ q → va_A [(h0, (.inr (2, [.int 0, .int 0, .int 0, .int 0])))] s.heap.size q := fun q h => Or.inr h
  have hI : CI g ((h0, (.inr (2, [.int 0, .int 0, .int 0, .int 0]))) :: ([] : va_W)) (va_A [(h0, (.inr (2, [.int 0, .int 0, .int 0, .int 0])))] s.heap.size) s.heap s.heap [] := ⟨hP, hD0.self (sz := s.heap.size), va_S.rf⟩
  generalize va_A [(h0, (.inr (2, [.int 0, .int 0, .int 0, .int 0])))] s.heap.size = A at hA hI ⊢
  have hl := lv_entry ([.ref h0]) (n := 1) (Nat.le_of_ble_eq_true rfl)
  have hent : entryFrame m args 1 = F0 m 0 ((lg_sl ([.ref h0]) ++ List.replicate (1 - (lg_sl ([.ref h0])).length) Slot.unset).toArray) [] := by rw [ha, lg_entry_eq]
  rw [hent]
  generalize (lg_sl ([.ref h0]) ++ List.replicate (1 - (lg_sl ([.ref h0])).length) Slot.unset).toArray = ls at hl ⊢
  have hl : lv_has ls 1 [(0, .ref h0)] := hl
  have hgo : ∀ (H : Heap) (locs : List Loc), CI g ((h0, (.inr (2, [.int 0, .int 0, .int 0, .int 0]))) :: ([] : va_W)) A s.heap H locs → W p l e (headSpec wsX2_init rm_X2_init).room s m args below meth c H locs 0 0 (MQ below (va_Qv (Sh2 g h0) (CPost g A) A) args s 0 0 A) (F0 m 0 ls []) := by
    intro H locs hI
    have hin2 : ∀ w ∈ wsX20, w ∈ wsX2_init := by decide +kernel
    refine lv_aload_n hx hb dX2_init_0 rfl (lv_at hl 0 rfl) ?_
    refine W.objInit hx hb hown (hts (.methodLink RX2 3 objectInit) (by decide +kernel)) (hts (.instanceMethod objectInit) (by decide +kernel)) (hts (.code objectInit ⟨#[0xb1]⟩ 1 none) (by decide +kernel)) rfl (by rw [hml]; exact hl.1) rfl dX2_init_1 (Nat.le_of_ble_eq_true rfl) (Nat.le_of_ble_eq_true rfl) ?_
    refine W.eq (g2 := F0 m 4 ls []) rfl ?_
    refine lv_aload_n hx hb dX2_init_4 rfl (lv_at hl 0 rfl) ?_
    refine lv_iconst (v := (0 : Int32)) hx hb dX2_init_5 (by decide) ?_
    refine k_put (ci := 2) (v := .int 0) (ty := .int) (C := RX2) (T := TX2) (N := 4) hx hb hts hin2 tyX2 tyX2_ok nmX2 hown hK hI rfl 0 (by decide) (hts (.fieldLink RX2 9 "HoopLane$Hoop" "yard" "I") (by decide +kernel)) (fun _ h => h) rfl (by decide +kernel) rfl rfl (Nat.le_of_ble_eq_true rfl) dX2_init_6 (fun H locs hI => ?_)
    have hI : CI g ((h0, .inr (2, [.int 0, .int 0, .int 0, .int 0])) :: ([] : va_W)) A s.heap H locs := hI
    refine lv_aload_n hx hb dX2_init_9 rfl (lv_at hl 0 rfl) ?_
    refine lv_iconst (v := (0 : Int32)) hx hb dX2_init_10 (by decide) ?_
    refine k_put (ci := 2) (v := .int 0) (ty := .int) (C := RX2) (T := TX2) (N := 4) hx hb hts hin2 tyX2 tyX2_ok nmX2 hown hK hI rfl 1 (by decide) (hts (.fieldLink RX2 15 "HoopLane$Hoop" "pace" "I") (by decide +kernel)) (fun _ h => h) rfl (by decide +kernel) rfl rfl (Nat.le_of_ble_eq_true rfl) dX2_init_11 (fun H locs hI => ?_)
    have hI : CI g ((h0, .inr (2, [.int 0, .int 0, .int 0, .int 0])) :: ([] : va_W)) A s.heap H locs := hI
    refine lv_aload_n hx hb dX2_init_14 rfl (lv_at hl 0 rfl) ?_
    refine lv_iconst (v := (0 : Int32)) hx hb dX2_init_15 (by decide) ?_
    refine k_put (ci := 2) (v := .int 0) (ty := .int) (C := RX2) (T := TX2) (N := 4) hx hb hts hin2 tyX2 tyX2_ok nmX2 hown hK hI rfl 2 (by decide) (hts (.fieldLink RX2 18 "HoopLane$Hoop" "lean" "I") (by decide +kernel)) (fun _ h => h) rfl (by decide +kernel) rfl rfl (Nat.le_of_ble_eq_true rfl) dX2_init_16 (fun H locs hI => ?_)
    have hI : CI g ((h0, .inr (2, [.int 0, .int 0, .int 0, .int 0])) :: ([] : va_W)) A s.heap H locs := hI
    refine lv_aload_n hx hb dX2_init_19 rfl (lv_at hl 0 rfl) ?_
    refine lv_iconst (v := (0 : Int32)) hx hb dX2_init_20 (by decide) ?_
    refine k_put (ci := 2) (v := .int 0) (ty := .int) (C := RX2) (T := TX2) (N := 4) hx hb hts hin2 tyX2 tyX2_ok nmX2 hown hK hI rfl 3 (by decide) (hts (.fieldLink RX2 21 "HoopLane$Hoop" "end" "I") (by decide +kernel)) (fun _ h => h) rfl (by decide +kernel) rfl rfl (Nat.le_of_ble_eq_true rfl) dX2_init_21 (fun H locs hI => ?_)
    have hI : CI g ((h0, .inr (2, [.int 0, .int 0, .int 0, .int 0])) :: ([] : va_W)) A s.heap H locs := hI
    exact W.vret hx hb hr (fun t ht hW => ⟨⟨_, rfl, (rfl : Sh2 g h0 _), by rw [ht]; exact hI.1, hI.2.1⟩, hI.2.2.F ht⟩) hI.2.2.2.2 dX2_init_24
  exact hgo s.heap [] hI
def rm_X5_init : Room := { frames := 1, cells := 1, slots := 40, locals := 12 }
set_option maxHeartbeats 4000000 in
set_option maxRecDepth 100000 in
theorem c_X5_init (l : Launch) (g : GP) (h0 sz : Nat) : Met l yX5_init wsX5_init rm_X5_init (va_Pc [.ref h0] (CPre g [(h0, (.inr (5, [.null, .int 0, .int 0])))] sz)) (va_Qv (Sh5 g h0) (CPost g (va_A [(h0, (.inr (5, [.null, .int 0, .int 0])))] sz)) (va_A [(h0, (.inr (5, [.null, .int 0, .int 0])))] sz)) 1 40 (va_A [(h0, (.inr (5, [.null, .int 0, .int 0])))] sz) := by
  refine Met.ofW (cc := cX5_init) (maxL := 1) (ret := none) (by decide) rfl ?_
  intro p e s m args below meth c s₁ B hml hv
  obtain ⟨ha, hsz, hP, hK, hD0, hO⟩ := hv
  have hx := B.exec
  have hb := B.bytes
  have hr := B.returns
  have hts := atoms_spec (ws := wsX5_init) B.pre
  have hown : s.vm.findClass RX5 = some m.cls := findClass_of_methodNamed B.named
  have hlocks := B.notSynchronized
  have hin0 : meth.name = "<init>" := (name_of_methodNamed B.named B.method).1
  subst hsz
  have hA : ∀ q : Nat, s.heap.size ≤ q → va_A [(h0, (.inr (5, [.null, .int 0, .int 0])))] s.heap.size q := fun q h => Or.inr h
  have hI : CI g ((h0, (.inr (5, [.null, .int 0, .int 0]))) :: ([] : va_W)) (va_A [(h0, (.inr (5, [.null, .int 0, .int 0])))] s.heap.size) s.heap s.heap [] := ⟨hP, hD0.self (sz := s.heap.size), va_S.rf⟩
  generalize va_A [(h0, (.inr (5, [.null, .int 0, .int 0])))] s.heap.size = A at hA hI ⊢
  have hl := lv_entry ([.ref h0]) (n := 1) (Nat.le_of_ble_eq_true rfl)
  have hent : entryFrame m args 1 = F0 m 0 ((lg_sl ([.ref h0]) ++ List.replicate (1 - (lg_sl ([.ref h0])).length) Slot.unset).toArray) [] := by rw [ha, lg_entry_eq]
  rw [hent]
  generalize (lg_sl ([.ref h0]) ++ List.replicate (1 - (lg_sl ([.ref h0])).length) Slot.unset).toArray = ls at hl ⊢
  have hl : lv_has ls 1 [(0, .ref h0)] := hl
  have hgo : ∀ (H : Heap) (locs : List Loc), CI g ((h0, (.inr (5, [.null, .int 0, .int 0]))) :: ([] : va_W)) A s.heap H locs → W p l e (headSpec wsX5_init rm_X5_init).room s m args below meth c H locs 0 0 (MQ below (va_Qv (Sh5 g h0) (CPost g A) A) args s 1 40 A) (F0 m 0 ls []) := by
    intro H locs hI
    have hin5 : ∀ w ∈ wsX50, w ∈ wsX5_init := by decide +kernel
    refine lv_aload_n hx hb dX5_init_0 rfl (lv_at hl 0 rfl) ?_
    refine W.objInit hx hb hown (hts (.methodLink RX5 3 objectInit) (by decide +kernel)) (hts (.instanceMethod objectInit) (by decide +kernel)) (hts (.code objectInit ⟨#[0xb1]⟩ 1 none) (by decide +kernel)) rfl (by rw [hml]; exact hl.1) rfl dX5_init_1 (Nat.le_of_ble_eq_true rfl) (Nat.le_of_ble_eq_true rfl) ?_
    refine W.eq (g2 := F0 m 4 ls []) rfl ?_
    refine lv_aload_n hx hb dX5_init_4 rfl (lv_at hl 0 rfl) ?_
    refine lv_bipush (v := (40 : Int32)) hx hb dX5_init_5 (by decide) ?_
    refine k_newa (N' := 40) hx hb (hts (.arrayClass .int) (by decide +kernel)) hK hA hI (by decide) rfl (by decide) (Nat.le_of_ble_eq_true rfl) (Nat.le_of_ble_eq_true rfl) dX5_init_7 (fun q1 H hI => ?_)
    refine W.widen (k := 1) (n := 40) (Nat.le_refl _) (Nat.le_refl _) ?_
    have hI : CI g ((h0, .inr (5, [.null, .int 0, .int 0])) :: (([] : va_W) ++ [(q1, zA g 40)])) A s.heap H locs := hI
    refine k_putF (ci := 5) (v := .ref q1) (ty := (.array .int)) (C := RX5) (T := TX5) (N := 3) hx hb hts hin5 tyX5 tyX5_ok nmX5 hown hK hI rfl 0 (by decide) (hts (.fieldLink RX5 9 "HoopLane$Row" "items" "[I") (by decide +kernel)) (fun _ h => h) rfl hin0 rfl (by decide +kernel) rfl rfl (Nat.le_of_ble_eq_true rfl) dX5_init_9 (fun H locs hI => ?_)
    have hI : CI g ((h0, .inr (5, [.ref q1, .int 0, .int 0])) :: (([] : va_W) ++ [(q1, zA g 40)])) A s.heap H locs := hI
    refine lv_aload_n hx hb dX5_init_12 rfl (lv_at hl 0 rfl) ?_
    refine lv_iconst (v := (-1 : Int32)) hx hb dX5_init_13 (by decide) ?_
    refine k_put (ci := 5) (v := .int (-1)) (ty := .int) (C := RX5) (T := TX5) (N := 3) hx hb hts hin5 tyX5 tyX5_ok nmX5 hown hK hI rfl 1 (by decide) (hts (.fieldLink RX5 15 "HoopLane$Row" "width" "I") (by decide +kernel)) (fun _ h => h) rfl (by decide +kernel) rfl rfl (Nat.le_of_ble_eq_true rfl) dX5_init_14 (fun H locs hI => ?_)
    have hI : CI g ((h0, .inr (5, [.ref q1, .int (-1), .int 0])) :: (([] : va_W) ++ [(q1, zA g 40)])) A s.heap H locs := hI
    refine lv_aload_n hx hb dX5_init_17 rfl (lv_at hl 0 rfl) ?_
    refine lv_iconst (v := (0 : Int32)) hx hb dX5_init_18 (by decide) ?_
    refine k_put (ci := 5) (v := .int 0) (ty := .int) (C := RX5) (T := TX5) (N := 3) hx hb hts hin5 tyX5 tyX5_ok nmX5 hown hK hI rfl 2 (by decide) (hts (.fieldLink RX5 19 "HoopLane$Row" "size" "I") (by decide +kernel)) (fun _ h => h) rfl (by decide +kernel) rfl rfl (Nat.le_of_ble_eq_true rfl) dX5_init_19 (fun H locs hI => ?_)
    have hI : CI g ((h0, .inr (5, [.ref q1, .int (-1), .int 0])) :: (([] : va_W) ++ [(q1, zA g 40)])) A s.heap H locs := hI
    exact W.vret hx hb hr (fun t ht hW => ⟨⟨_, rfl, (⟨(fun k : Nat => ([h0, q1] : List Nat).getD k 0), rfl, rfl⟩ : Sh5 g h0 _), by rw [ht]; exact hI.1, hI.2.1⟩, hI.2.2.F ht⟩) hI.2.2.2.2 dX5_init_22
  exact hgo s.heap [] hI
def rm_X6_init : Room := { frames := 1, cells := 1, slots := 100, locals := 12 }
set_option maxHeartbeats 4000000 in
set_option maxRecDepth 100000 in
theorem c_X6_init (l : Launch) (g : GP) (h0 sz : Nat) : Met l yX6_init wsX6_init rm_X6_init (va_Pc [.ref h0] (CPre g [(h0, (.inr (6, [.null, .int 0, .int 0, .int 0])))] sz)) (va_Qv (Sh6 g h0) (CPost g (va_A [(h0, (.inr (6, [.null, .int 0, .int 0, .int 0])))] sz)) (va_A [(h0, (.inr (6, [.null, .int 0, .int 0, .int 0])))] sz)) 1 100 (va_A [(h0, (.inr (6, [.null, .int 0, .int 0, .int 0])))] sz) := by
  refine Met.ofW (cc := cX6_init) (maxL := 1) (ret := none) (by decide) rfl ?_
  intro p e s m args below meth c s₁ B hml hv
  obtain ⟨ha, hsz, hP, hK, hD0, hO⟩ := hv
  have hx := B.exec
  have hb := B.bytes
  have hr := B.returns
  have hts := atoms_spec (ws := wsX6_init) B.pre
  have hown : s.vm.findClass RX6 = some m.cls := findClass_of_methodNamed B.named
  have hlocks := B.notSynchronized
  have hin0 : meth.name = "<init>" := (name_of_methodNamed B.named B.method).1
  subst hsz
  have hA : ∀ q : Nat, s.heap.size ≤ q → va_A [(h0, (.inr (6, [.null, .int 0, .int 0, .int 0])))] s.heap.size q := fun q h => Or.inr h
  have hI : CI g ((h0, (.inr (6, [.null, .int 0, .int 0, .int 0]))) :: ([] : va_W)) (va_A [(h0, (.inr (6, [.null, .int 0, .int 0, .int 0])))] s.heap.size) s.heap s.heap [] := ⟨hP, hD0.self (sz := s.heap.size), va_S.rf⟩
  generalize va_A [(h0, (.inr (6, [.null, .int 0, .int 0, .int 0])))] s.heap.size = A at hA hI ⊢
  have hl := lv_entry ([.ref h0]) (n := 1) (Nat.le_of_ble_eq_true rfl)
  have hent : entryFrame m args 1 = F0 m 0 ((lg_sl ([.ref h0]) ++ List.replicate (1 - (lg_sl ([.ref h0])).length) Slot.unset).toArray) [] := by rw [ha, lg_entry_eq]
  rw [hent]
  generalize (lg_sl ([.ref h0]) ++ List.replicate (1 - (lg_sl ([.ref h0])).length) Slot.unset).toArray = ls at hl ⊢
  have hl : lv_has ls 1 [(0, .ref h0)] := hl
  have hgo : ∀ (H : Heap) (locs : List Loc), CI g ((h0, (.inr (6, [.null, .int 0, .int 0, .int 0]))) :: ([] : va_W)) A s.heap H locs → W p l e (headSpec wsX6_init rm_X6_init).room s m args below meth c H locs 0 0 (MQ below (va_Qv (Sh6 g h0) (CPost g A) A) args s 1 100 A) (F0 m 0 ls []) := by
    intro H locs hI
    have hin6 : ∀ w ∈ wsX60, w ∈ wsX6_init := by decide +kernel
    refine lv_aload_n hx hb dX6_init_0 rfl (lv_at hl 0 rfl) ?_
    refine W.objInit hx hb hown (hts (.methodLink RX6 3 objectInit) (by decide +kernel)) (hts (.instanceMethod objectInit) (by decide +kernel)) (hts (.code objectInit ⟨#[0xb1]⟩ 1 none) (by decide +kernel)) rfl (by rw [hml]; exact hl.1) rfl dX6_init_1 (Nat.le_of_ble_eq_true rfl) (Nat.le_of_ble_eq_true rfl) ?_
    refine W.eq (g2 := F0 m 4 ls []) rfl ?_
    refine lv_aload_n hx hb dX6_init_4 rfl (lv_at hl 0 rfl) ?_
    refine lv_bipush (v := (100 : Int32)) hx hb dX6_init_5 (by decide) ?_
    refine k_newa (N' := 100) hx hb (hts (.arrayClass .int) (by decide +kernel)) hK hA hI (by decide) rfl (by decide) (Nat.le_of_ble_eq_true rfl) (Nat.le_of_ble_eq_true rfl) dX6_init_7 (fun q1 H hI => ?_)
    refine W.widen (k := 1) (n := 100) (Nat.le_refl _) (Nat.le_refl _) ?_
    have hI : CI g ((h0, .inr (6, [.null, .int 0, .int 0, .int 0])) :: (([] : va_W) ++ [(q1, zA g 100)])) A s.heap H locs := hI
    refine k_putF (ci := 6) (v := .ref q1) (ty := (.array .int)) (C := RX6) (T := TX6) (N := 4) hx hb hts hin6 tyX6 tyX6_ok nmX6 hown hK hI rfl 0 (by decide) (hts (.fieldLink RX6 9 "HoopLane$Tape" "bytes" "[I") (by decide +kernel)) (fun _ h => h) rfl hin0 rfl (by decide +kernel) rfl rfl (Nat.le_of_ble_eq_true rfl) dX6_init_9 (fun H locs hI => ?_)
    have hI : CI g ((h0, .inr (6, [.ref q1, .int 0, .int 0, .int 0])) :: (([] : va_W) ++ [(q1, zA g 100)])) A s.heap H locs := hI
    refine lv_aload_n hx hb dX6_init_12 rfl (lv_at hl 0 rfl) ?_
    refine lv_iconst (v := (0 : Int32)) hx hb dX6_init_13 (by decide) ?_
    refine k_put (ci := 6) (v := .int 0) (ty := .int) (C := RX6) (T := TX6) (N := 4) hx hb hts hin6 tyX6 tyX6_ok nmX6 hown hK hI rfl 1 (by decide) (hts (.fieldLink RX6 15 "HoopLane$Tape" "size" "I") (by decide +kernel)) (fun _ h => h) rfl (by decide +kernel) rfl rfl (Nat.le_of_ble_eq_true rfl) dX6_init_14 (fun H locs hI => ?_)
    have hI : CI g ((h0, .inr (6, [.ref q1, .int 0, .int 0, .int 0])) :: (([] : va_W) ++ [(q1, zA g 100)])) A s.heap H locs := hI
    refine lv_aload_n hx hb dX6_init_17 rfl (lv_at hl 0 rfl) ?_
    refine lv_iconst (v := (0 : Int32)) hx hb dX6_init_18 (by decide) ?_
    refine k_put (ci := 6) (v := .int 0) (ty := .int) (C := RX6) (T := TX6) (N := 4) hx hb hts hin6 tyX6 tyX6_ok nmX6 hown hK hI rfl 2 (by decide) (hts (.fieldLink RX6 19 "HoopLane$Tape" "at" "I") (by decide +kernel)) (fun _ h => h) rfl (by decide +kernel) rfl rfl (Nat.le_of_ble_eq_true rfl) dX6_init_19 (fun H locs hI => ?_)
    have hI : CI g ((h0, .inr (6, [.ref q1, .int 0, .int 0, .int 0])) :: (([] : va_W) ++ [(q1, zA g 100)])) A s.heap H locs := hI
    refine lv_aload_n hx hb dX6_init_22 rfl (lv_at hl 0 rfl) ?_
    refine lv_iconst (v := (0 : Int32)) hx hb dX6_init_23 (by decide) ?_
    refine k_put (ci := 6) (v := .int 0) (ty := .int) (C := RX6) (T := TX6) (N := 4) hx hb hts hin6 tyX6 tyX6_ok nmX6 hown hK hI rfl 3 (by decide) (hts (.fieldLink RX6 22 "HoopLane$Tape" "fault" "I") (by decide +kernel)) (fun _ h => h) rfl (by decide +kernel) rfl rfl (Nat.le_of_ble_eq_true rfl) dX6_init_24 (fun H locs hI => ?_)
    have hI : CI g ((h0, .inr (6, [.ref q1, .int 0, .int 0, .int 0])) :: (([] : va_W) ++ [(q1, zA g 100)])) A s.heap H locs := hI
    exact W.vret hx hb hr (fun t ht hW => ⟨⟨_, rfl, (⟨(fun k : Nat => ([h0, q1] : List Nat).getD k 0), rfl, rfl⟩ : Sh6 g h0 _), by rw [ht]; exact hI.1, hI.2.1⟩, hI.2.2.F ht⟩) hI.2.2.2.2 dX6_init_27
  exact hgo s.heap [] hI
def rm_X1_init : Room := { frames := 1, cells := 1, slots := 16, locals := 12 }
set_option maxHeartbeats 4000000 in
set_option maxRecDepth 100000 in
theorem c_X1_init (l : Launch) (g : GP) (h0 sz : Nat) : Met l yX1_init wsX1_init rm_X1_init (va_Pc [.ref h0] (CPre g [(h0, (.inr (1, [.null, .int 0, .int 0, .int 0, .int 0, .int 0])))] sz)) (va_Qv (Sh1 g h0) (CPost g (va_A [(h0, (.inr (1, [.null, .int 0, .int 0, .int 0, .int 0, .int 0])))] sz)) (va_A [(h0, (.inr (1, [.null, .int 0, .int 0, .int 0, .int 0, .int 0])))] sz)) 1 16 (va_A [(h0, (.inr (1, [.null, .int 0, .int 0, .int 0, .int 0, .int 0])))] sz) := by
  refine Met.ofW (cc := cX1_init) (maxL := 1) (ret := none) (by decide) rfl ?_
  intro p e s m args below meth c s₁ B hml hv
  obtain ⟨ha, hsz, hP, hK, hD0, hO⟩ := hv
  have hx := B.exec
  have hb := B.bytes
  have hr := B.returns
  have hts := atoms_spec (ws := wsX1_init) B.pre
  have hown : s.vm.findClass RX1 = some m.cls := findClass_of_methodNamed B.named
  have hlocks := B.notSynchronized
  have hin0 : meth.name = "<init>" := (name_of_methodNamed B.named B.method).1
  subst hsz
  have hA : ∀ q : Nat, s.heap.size ≤ q → va_A [(h0, (.inr (1, [.null, .int 0, .int 0, .int 0, .int 0, .int 0])))] s.heap.size q := fun q h => Or.inr h
  have hI : CI g ((h0, (.inr (1, [.null, .int 0, .int 0, .int 0, .int 0, .int 0]))) :: ([] : va_W)) (va_A [(h0, (.inr (1, [.null, .int 0, .int 0, .int 0, .int 0, .int 0])))] s.heap.size) s.heap s.heap [] := ⟨hP, hD0.self (sz := s.heap.size), va_S.rf⟩
  generalize va_A [(h0, (.inr (1, [.null, .int 0, .int 0, .int 0, .int 0, .int 0])))] s.heap.size = A at hA hI ⊢
  have hl := lv_entry ([.ref h0]) (n := 1) (Nat.le_of_ble_eq_true rfl)
  have hent : entryFrame m args 1 = F0 m 0 ((lg_sl ([.ref h0]) ++ List.replicate (1 - (lg_sl ([.ref h0])).length) Slot.unset).toArray) [] := by rw [ha, lg_entry_eq]
  rw [hent]
  generalize (lg_sl ([.ref h0]) ++ List.replicate (1 - (lg_sl ([.ref h0])).length) Slot.unset).toArray = ls at hl ⊢
  have hl : lv_has ls 1 [(0, .ref h0)] := hl
  have hgo : ∀ (H : Heap) (locs : List Loc), CI g ((h0, (.inr (1, [.null, .int 0, .int 0, .int 0, .int 0, .int 0]))) :: ([] : va_W)) A s.heap H locs → W p l e (headSpec wsX1_init rm_X1_init).room s m args below meth c H locs 0 0 (MQ below (va_Qv (Sh1 g h0) (CPost g A) A) args s 1 16 A) (F0 m 0 ls []) := by
    intro H locs hI
    have hin1 : ∀ w ∈ wsX10, w ∈ wsX1_init := by decide +kernel
    refine lv_aload_n hx hb dX1_init_0 rfl (lv_at hl 0 rfl) ?_
    refine W.objInit hx hb hown (hts (.methodLink RX1 3 objectInit) (by decide +kernel)) (hts (.instanceMethod objectInit) (by decide +kernel)) (hts (.code objectInit ⟨#[0xb1]⟩ 1 none) (by decide +kernel)) rfl (by rw [hml]; exact hl.1) rfl dX1_init_1 (Nat.le_of_ble_eq_true rfl) (Nat.le_of_ble_eq_true rfl) ?_
    refine W.eq (g2 := F0 m 4 ls []) rfl ?_
    refine lv_aload_n hx hb dX1_init_4 rfl (lv_at hl 0 rfl) ?_
    refine lv_bipush (v := (16 : Int32)) hx hb dX1_init_5 (by decide) ?_
    refine k_newa (N' := 16) hx hb (hts (.arrayClass .int) (by decide +kernel)) hK hA hI (by decide) rfl (by decide) (Nat.le_of_ble_eq_true rfl) (Nat.le_of_ble_eq_true rfl) dX1_init_7 (fun q1 H hI => ?_)
    refine W.widen (k := 1) (n := 16) (Nat.le_refl _) (Nat.le_refl _) ?_
    have hI : CI g ((h0, .inr (1, [.null, .int 0, .int 0, .int 0, .int 0, .int 0])) :: (([] : va_W) ++ [(q1, zA g 16)])) A s.heap H locs := hI
    refine k_putF (ci := 1) (v := .ref q1) (ty := (.array .int)) (C := RX1) (T := TX1) (N := 6) hx hb hts hin1 tyX1 tyX1_ok nmX1 hown hK hI rfl 0 (by decide) (hts (.fieldLink RX1 9 "HoopLane$Asks" "trace" "[I") (by decide +kernel)) (fun _ h => h) rfl hin0 rfl (by decide +kernel) rfl rfl (Nat.le_of_ble_eq_true rfl) dX1_init_9 (fun H locs hI => ?_)
    have hI : CI g ((h0, .inr (1, [.ref q1, .int 0, .int 0, .int 0, .int 0, .int 0])) :: (([] : va_W) ++ [(q1, zA g 16)])) A s.heap H locs := hI
    refine lv_aload_n hx hb dX1_init_12 rfl (lv_at hl 0 rfl) ?_
    refine lv_iconst (v := (0 : Int32)) hx hb dX1_init_13 (by decide) ?_
    refine k_put (ci := 1) (v := .int 0) (ty := .int) (C := RX1) (T := TX1) (N := 6) hx hb hts hin1 tyX1 tyX1_ok nmX1 hown hK hI rfl 1 (by decide) (hts (.fieldLink RX1 15 "HoopLane$Asks" "bodies" "I") (by decide +kernel)) (fun _ h => h) rfl (by decide +kernel) rfl rfl (Nat.le_of_ble_eq_true rfl) dX1_init_14 (fun H locs hI => ?_)
    have hI : CI g ((h0, .inr (1, [.ref q1, .int 0, .int 0, .int 0, .int 0, .int 0])) :: (([] : va_W) ++ [(q1, zA g 16)])) A s.heap H locs := hI
    refine lv_aload_n hx hb dX1_init_17 rfl (lv_at hl 0 rfl) ?_
    refine lv_iconst (v := (0 : Int32)) hx hb dX1_init_18 (by decide) ?_
    refine k_put (ci := 1) (v := .int 0) (ty := .int) (C := RX1) (T := TX1) (N := 6) hx hb hts hin1 tyX1 tyX1_ok nmX1 hown hK hI rfl 2 (by decide) (hts (.fieldLink RX1 19 "HoopLane$Asks" "kind" "I") (by decide +kernel)) (fun _ h => h) rfl (by decide +kernel) rfl rfl (Nat.le_of_ble_eq_true rfl) dX1_init_19 (fun H locs hI => ?_)
    have hI : CI g ((h0, .inr (1, [.ref q1, .int 0, .int 0, .int 0, .int 0, .int 0])) :: (([] : va_W) ++ [(q1, zA g 16)])) A s.heap H locs := hI
    refine lv_aload_n hx hb dX1_init_22 rfl (lv_at hl 0 rfl) ?_
    refine lv_iconst (v := (0 : Int32)) hx hb dX1_init_23 (by decide) ?_
    refine k_put (ci := 1) (v := .int 0) (ty := .int) (C := RX1) (T := TX1) (N := 6) hx hb hts hin1 tyX1 tyX1_ok nmX1 hown hK hI rfl 3 (by decide) (hts (.fieldLink RX1 22 "HoopLane$Asks" "number" "I") (by decide +kernel)) (fun _ h => h) rfl (by decide +kernel) rfl rfl (Nat.le_of_ble_eq_true rfl) dX1_init_24 (fun H locs hI => ?_)
    have hI : CI g ((h0, .inr (1, [.ref q1, .int 0, .int 0, .int 0, .int 0, .int 0])) :: (([] : va_W) ++ [(q1, zA g 16)])) A s.heap H locs := hI
    refine lv_aload_n hx hb dX1_init_27 rfl (lv_at hl 0 rfl) ?_
    refine lv_iconst (v := (0 : Int32)) hx hb dX1_init_28 (by decide) ?_
    refine k_put (ci := 1) (v := .int 0) (ty := .int) (C := RX1) (T := TX1) (N := 6) hx hb hts hin1 tyX1 tyX1_ok nmX1 hown hK hI rfl 4 (by decide) (hts (.fieldLink RX1 25 "HoopLane$Asks" "force" "I") (by decide +kernel)) (fun _ h => h) rfl (by decide +kernel) rfl rfl (Nat.le_of_ble_eq_true rfl) dX1_init_29 (fun H locs hI => ?_)
    have hI : CI g ((h0, .inr (1, [.ref q1, .int 0, .int 0, .int 0, .int 0, .int 0])) :: (([] : va_W) ++ [(q1, zA g 16)])) A s.heap H locs := hI
    refine lv_aload_n hx hb dX1_init_32 rfl (lv_at hl 0 rfl) ?_
    refine lv_iconst (v := (0 : Int32)) hx hb dX1_init_33 (by decide) ?_
    refine k_put (ci := 1) (v := .int 0) (ty := .int) (C := RX1) (T := TX1) (N := 6) hx hb hts hin1 tyX1 tyX1_ok nmX1 hown hK hI rfl 5 (by decide) (hts (.fieldLink RX1 28 "HoopLane$Asks" "pace" "I") (by decide +kernel)) (fun _ h => h) rfl (by decide +kernel) rfl rfl (Nat.le_of_ble_eq_true rfl) dX1_init_34 (fun H locs hI => ?_)
    have hI : CI g ((h0, .inr (1, [.ref q1, .int 0, .int 0, .int 0, .int 0, .int 0])) :: (([] : va_W) ++ [(q1, zA g 16)])) A s.heap H locs := hI
    exact W.vret hx hb hr (fun t ht hW => ⟨⟨_, rfl, (⟨(fun k : Nat => ([h0, q1] : List Nat).getD k 0), rfl, rfl⟩ : Sh1 g h0 _), by rw [ht]; exact hI.1, hI.2.1⟩, hI.2.2.F ht⟩) hI.2.2.2.2 dX1_init_37
  exact hgo s.heap [] hI
def rm_X4_init : Room := { frames := 2, cells := 2, slots := 2380, locals := 40 }
set_option maxHeartbeats 4000000 in
set_option maxRecDepth 100000 in
theorem c_X4_init (l : Launch) (g : GP) (h0 sz : Nat) : Met l yX4_init wsX4_init rm_X4_init (va_Pc [.ref h0] (CPre g [(h0, (.inr (4, [.null, .null, .int 0, .int 0, .int 0])))] sz)) (va_Qv (Sh4 g h0) (CPost g (va_A [(h0, (.inr (4, [.null, .null, .int 0, .int 0, .int 0])))] sz)) (va_A [(h0, (.inr (4, [.null, .null, .int 0, .int 0, .int 0])))] sz)) 2 2380 (va_A [(h0, (.inr (4, [.null, .null, .int 0, .int 0, .int 0])))] sz) := by
  refine Met.ofW (cc := cX4_init) (maxL := 1) (ret := none) (by decide) rfl ?_
  intro p e s m args below meth c s₁ B hml hv
  obtain ⟨ha, hsz, hP, hK, hD0, hO⟩ := hv
  have hx := B.exec
  have hb := B.bytes
  have hr := B.returns
  have hts := atoms_spec (ws := wsX4_init) B.pre
  have hown : s.vm.findClass RX4 = some m.cls := findClass_of_methodNamed B.named
  have hlocks := B.notSynchronized
  have hin0 : meth.name = "<init>" := (name_of_methodNamed B.named B.method).1
  subst hsz
  have hA : ∀ q : Nat, s.heap.size ≤ q → va_A [(h0, (.inr (4, [.null, .null, .int 0, .int 0, .int 0])))] s.heap.size q := fun q h => Or.inr h
  have hI : CI g ((h0, (.inr (4, [.null, .null, .int 0, .int 0, .int 0]))) :: ([] : va_W)) (va_A [(h0, (.inr (4, [.null, .null, .int 0, .int 0, .int 0])))] s.heap.size) s.heap s.heap [] := ⟨hP, hD0.self (sz := s.heap.size), va_S.rf⟩
  generalize va_A [(h0, (.inr (4, [.null, .null, .int 0, .int 0, .int 0])))] s.heap.size = A at hA hI ⊢
  have hl := lv_entry ([.ref h0]) (n := 1) (Nat.le_of_ble_eq_true rfl)
  have hent : entryFrame m args 1 = F0 m 0 ((lg_sl ([.ref h0]) ++ List.replicate (1 - (lg_sl ([.ref h0])).length) Slot.unset).toArray) [] := by rw [ha, lg_entry_eq]
  rw [hent]
  generalize (lg_sl ([.ref h0]) ++ List.replicate (1 - (lg_sl ([.ref h0])).length) Slot.unset).toArray = ls at hl ⊢
  have hl : lv_has ls 1 [(0, .ref h0)] := hl
  have hgo : ∀ (H : Heap) (locs : List Loc), CI g ((h0, (.inr (4, [.null, .null, .int 0, .int 0, .int 0]))) :: ([] : va_W)) A s.heap H locs → W p l e (headSpec wsX4_init rm_X4_init).room s m args below meth c H locs 0 0 (MQ below (va_Qv (Sh4 g h0) (CPost g A) A) args s 2 2380 A) (F0 m 0 ls []) := by
    intro H locs hI
    have hin2 : ∀ w ∈ wsX20, w ∈ wsX4_init := by decide +kernel
    have hin4 : ∀ w ∈ wsX40, w ∈ wsX4_init := by decide +kernel
    refine lv_aload_n hx hb dX4_init_0 rfl (lv_at hl 0 rfl) ?_
    refine W.objInit hx hb hown (hts (.methodLink RX4 5 objectInit) (by decide +kernel)) (hts (.instanceMethod objectInit) (by decide +kernel)) (hts (.code objectInit ⟨#[0xb1]⟩ 1 none) (by decide +kernel)) rfl (by rw [hml]; exact hl.1) rfl dX4_init_1 (Nat.le_of_ble_eq_true rfl) (Nat.le_of_ble_eq_true rfl) ?_
    refine W.eq (g2 := F0 m 4 ls []) rfl ?_
    refine lv_aload_n hx hb dX4_init_4 rfl (lv_at hl 0 rfl) ?_
    refine lv_sipush (v := (2376 : Int32)) hx hb dX4_init_5 (by decide) ?_
    refine k_newa (N' := 2376) hx hb (hts (.arrayClass .int) (by decide +kernel)) hK hA hI (by decide) rfl (by decide) (Nat.le_of_ble_eq_true rfl) (Nat.le_of_ble_eq_true rfl) dX4_init_8 (fun q1 H hI => ?_)
    refine W.widen (k := 1) (n := 2376) (Nat.le_refl _) (Nat.le_refl _) ?_
    have hI : CI g ((h0, .inr (4, [.null, .null, .int 0, .int 0, .int 0])) :: (([] : va_W) ++ [(q1, zA g 2376)])) A s.heap H locs := hI
    refine k_putF (ci := 4) (v := .ref q1) (ty := (.array .int)) (C := RX4) (T := TX4) (N := 5) hx hb hts hin4 tyX4 tyX4_ok nmX4 hown hK hI rfl 0 (by decide) (hts (.fieldLink RX4 11 "HoopLane$Paths" "least" "[I") (by decide +kernel)) (fun _ h => h) rfl hin0 rfl (by decide +kernel) rfl rfl (Nat.le_of_ble_eq_true rfl) dX4_init_10 (fun H locs hI => ?_)
    have hI : CI g ((h0, .inr (4, [.ref q1, .null, .int 0, .int 0, .int 0])) :: (([] : va_W) ++ [(q1, zA g 2376)])) A s.heap H locs := hI
    refine lv_aload_n hx hb dX4_init_13 rfl (lv_at hl 0 rfl) ?_
    refine k_new (ci := 2) (fs := [.int 0, .int 0, .int 0, .int 0]) (C := RX2) (T := TX2) (N := 4) hx hb hts hin2 tyX2 tyX2_ok hown (hts (.classLink RX4 15 RX2) (by decide +kernel)) (hts (.instantiable RX2 4) (by decide +kernel)) (hts (.initialized RX2) (by decide +kernel)) hK hA hI rfl (fun j hj => by rcases (show j = 0 ∨ j = 1 ∨ j = 2 ∨ j = 3 by omega) with rfl | rfl | rfl | rfl <;> rfl) (Nat.le_of_ble_eq_true rfl) (Nat.le_of_ble_eq_true rfl) dX4_init_14 (fun q2 H hI => ?_)
    refine lv_dup hx hb dX4_init_17 rfl ?_
    refine k_init (ws := ((h0, .inr (4, [.ref q1, .null, .int 0, .int 0, .int 0])) :: (([] : va_W) ++ [(q1, zA g 2376)]))) hA hI (va_runIN (As := []) (rest := [.ref q2, .ref h0]) ⟨hx, hb, hml, hown, hts⟩ (c_X2_init l g q2 H.size) ⟨va_cnB 0 hts gX4_init_X2_init_n17 rfl rfl rfl (hO.2.2.2 _ (List.mem_of_getElem? (i := 8) rfl)) (hts (.initialized RX2) (by decide +kernel)) (by decide +kernel) ⟨Nat.le_of_ble_eq_true rfl, Nat.le_of_ble_eq_true rfl⟩, rfl, (hts (.instanceMethod yX2_init) (by decide +kernel))⟩ (k_pre (ws := ((h0, .inr (4, [.ref q1, .null, .int 0, .int 0, .int 0])) :: (([] : va_W) ++ [(q1, zA g 2376)]))) hK hO hI) rfl rfl hl.1 rfl (lv_room (Nat.le_of_ble_eq_true rfl)) dX4_init_18 ⟨Nat.le_of_ble_eq_true rfl, Nat.le_of_ble_eq_true rfl⟩) (fun w1 H locs hw hI => ?_)
    have hw : w1 = _ := hw
    subst hw
    refine W.widen (k := 2) (n := 2380) (Nat.le_refl _) (Nat.le_refl _) ?_
    have hI : CI g ((h0, .inr (4, [.ref q1, .null, .int 0, .int 0, .int 0])) :: ((([] : va_W) ++ [(q1, zA g 2376)]) ++ [(q2, eH)])) A s.heap H locs := hI
    refine k_putF (ci := 4) (v := .ref q2) (ty := (.object "HoopLane$Hoop")) (C := RX4) (T := TX4) (N := 5) hx hb hts hin4 tyX4 tyX4_ok nmX4 hown hK hI rfl 1 (by decide) (hts (.fieldLink RX4 18 "HoopLane$Paths" "trial" "LHoopLane$Hoop;") (by decide +kernel)) (fun _ h => h) rfl hin0 rfl (by decide +kernel) rfl rfl (Nat.le_of_ble_eq_true rfl) dX4_init_21 (fun H locs hI => ?_)
    have hI : CI g ((h0, .inr (4, [.ref q1, .ref q2, .int 0, .int 0, .int 0])) :: ((([] : va_W) ++ [(q1, zA g 2376)]) ++ [(q2, eH)])) A s.heap H locs := hI
    refine lv_aload_n hx hb dX4_init_24 rfl (lv_at hl 0 rfl) ?_
    refine lv_iconst (v := (0 : Int32)) hx hb dX4_init_25 (by decide) ?_
    refine k_put (ci := 4) (v := .int 0) (ty := .int) (C := RX4) (T := TX4) (N := 5) hx hb hts hin4 tyX4 tyX4_ok nmX4 hown hK hI rfl 2 (by decide) (hts (.fieldLink RX4 22 "HoopLane$Paths" "start" "I") (by decide +kernel)) (fun _ h => h) rfl (by decide +kernel) rfl rfl (Nat.le_of_ble_eq_true rfl) dX4_init_26 (fun H locs hI => ?_)
    have hI : CI g ((h0, .inr (4, [.ref q1, .ref q2, .int 0, .int 0, .int 0])) :: ((([] : va_W) ++ [(q1, zA g 2376)]) ++ [(q2, eH)])) A s.heap H locs := hI
    refine lv_aload_n hx hb dX4_init_29 rfl (lv_at hl 0 rfl) ?_
    refine lv_ldc (v := (8000000 : Int32)) hx hb hown (hts (.constant RX4 26 (8000000)) (by decide +kernel)) dX4_init_30 ?_
    refine k_put (ci := 4) (v := .int 8000000) (ty := .int) (C := RX4) (T := TX4) (N := 5) hx hb hts hin4 tyX4 tyX4_ok nmX4 hown hK hI rfl 3 (by decide) (hts (.fieldLink RX4 27 "HoopLane$Paths" "home" "I") (by decide +kernel)) (fun _ h => h) rfl (by decide +kernel) rfl rfl (Nat.le_of_ble_eq_true rfl) dX4_init_32 (fun H locs hI => ?_)
    have hI : CI g ((h0, .inr (4, [.ref q1, .ref q2, .int 0, .int 8000000, .int 0])) :: ((([] : va_W) ++ [(q1, zA g 2376)]) ++ [(q2, eH)])) A s.heap H locs := hI
    refine lv_aload_n hx hb dX4_init_35 rfl (lv_at hl 0 rfl) ?_
    refine lv_iconst (v := (0 : Int32)) hx hb dX4_init_36 (by decide) ?_
    refine k_put (ci := 4) (v := .int 0) (ty := .int) (C := RX4) (T := TX4) (N := 5) hx hb hts hin4 tyX4 tyX4_ok nmX4 hown hK hI rfl 4 (by decide) (hts (.fieldLink RX4 30 "HoopLane$Paths" "falls" "I") (by decide +kernel)) (fun _ h => h) rfl (by decide +kernel) rfl rfl (Nat.le_of_ble_eq_true rfl) dX4_init_37 (fun H locs hI => ?_)
    have hI : CI g ((h0, .inr (4, [.ref q1, .ref q2, .int 0, .int 8000000, .int 0])) :: ((([] : va_W) ++ [(q1, zA g 2376)]) ++ [(q2, eH)])) A s.heap H locs := hI
    exact W.vret hx hb hr (fun t ht hW => ⟨⟨_, rfl, (⟨(fun k : Nat => ([h0, q1, q2] : List Nat).getD k 0), rfl, rfl⟩ : Sh4 g h0 _), by rw [ht]; exact hI.1, hI.2.1⟩, hI.2.2.F ht⟩) hI.2.2.2.2 dX4_init_40
  exact hgo s.heap [] hI
def rm_X3_init : Room := { frames := 2, cells := 4, slots := 38, locals := 40 }
set_option maxHeartbeats 4000000 in
set_option maxRecDepth 100000 in
theorem c_X3_init (l : Launch) (g : GP) (h0 sz : Nat) : Met l yX3_init wsX3_init rm_X3_init (va_Pc [.ref h0] (CPre g [(h0, (.inr (3, [.null, .null, .null, .null, .int 0, .int 0, .int 0, .int 0, .int 0])))] sz)) (va_Qv (Sh3 g h0) (CPost g (va_A [(h0, (.inr (3, [.null, .null, .null, .null, .int 0, .int 0, .int 0, .int 0, .int 0])))] sz)) (va_A [(h0, (.inr (3, [.null, .null, .null, .null, .int 0, .int 0, .int 0, .int 0, .int 0])))] sz)) 4 38 (va_A [(h0, (.inr (3, [.null, .null, .null, .null, .int 0, .int 0, .int 0, .int 0, .int 0])))] sz) := by
  refine Met.ofW (cc := cX3_init) (maxL := 1) (ret := none) (by decide) rfl ?_
  intro p e s m args below meth c s₁ B hml hv
  obtain ⟨ha, hsz, hP, hK, hD0, hO⟩ := hv
  have hx := B.exec
  have hb := B.bytes
  have hr := B.returns
  have hts := atoms_spec (ws := wsX3_init) B.pre
  have hown : s.vm.findClass RX3 = some m.cls := findClass_of_methodNamed B.named
  have hlocks := B.notSynchronized
  have hin0 : meth.name = "<init>" := (name_of_methodNamed B.named B.method).1
  subst hsz
  have hA : ∀ q : Nat, s.heap.size ≤ q → va_A [(h0, (.inr (3, [.null, .null, .null, .null, .int 0, .int 0, .int 0, .int 0, .int 0])))] s.heap.size q := fun q h => Or.inr h
  have hI : CI g ((h0, (.inr (3, [.null, .null, .null, .null, .int 0, .int 0, .int 0, .int 0, .int 0]))) :: ([] : va_W)) (va_A [(h0, (.inr (3, [.null, .null, .null, .null, .int 0, .int 0, .int 0, .int 0, .int 0])))] s.heap.size) s.heap s.heap [] := ⟨hP, hD0.self (sz := s.heap.size), va_S.rf⟩
  generalize va_A [(h0, (.inr (3, [.null, .null, .null, .null, .int 0, .int 0, .int 0, .int 0, .int 0])))] s.heap.size = A at hA hI ⊢
  have hl := lv_entry ([.ref h0]) (n := 1) (Nat.le_of_ble_eq_true rfl)
  have hent : entryFrame m args 1 = F0 m 0 ((lg_sl ([.ref h0]) ++ List.replicate (1 - (lg_sl ([.ref h0])).length) Slot.unset).toArray) [] := by rw [ha, lg_entry_eq]
  rw [hent]
  generalize (lg_sl ([.ref h0]) ++ List.replicate (1 - (lg_sl ([.ref h0])).length) Slot.unset).toArray = ls at hl ⊢
  have hl : lv_has ls 1 [(0, .ref h0)] := hl
  have hgo : ∀ (H : Heap) (locs : List Loc), CI g ((h0, (.inr (3, [.null, .null, .null, .null, .int 0, .int 0, .int 0, .int 0, .int 0]))) :: ([] : va_W)) A s.heap H locs → W p l e (headSpec wsX3_init rm_X3_init).room s m args below meth c H locs 0 0 (MQ below (va_Qv (Sh3 g h0) (CPost g A) A) args s 4 38 A) (F0 m 0 ls []) := by
    intro H locs hI
    have hin2 : ∀ w ∈ wsX20, w ∈ wsX3_init := by decide +kernel
    have hin3 : ∀ w ∈ wsX30, w ∈ wsX3_init := by decide +kernel
    refine lv_aload_n hx hb dX3_init_0 rfl (lv_at hl 0 rfl) ?_
    refine W.objInit hx hb hown (hts (.methodLink RX3 3 objectInit) (by decide +kernel)) (hts (.instanceMethod objectInit) (by decide +kernel)) (hts (.code objectInit ⟨#[0xb1]⟩ 1 none) (by decide +kernel)) rfl (by rw [hml]; exact hl.1) rfl dX3_init_1 (Nat.le_of_ble_eq_true rfl) (Nat.le_of_ble_eq_true rfl) ?_
    refine W.eq (g2 := F0 m 4 ls []) rfl ?_
    refine lv_aload_n hx hb dX3_init_4 rfl (lv_at hl 0 rfl) ?_
    refine lv_bipush (v := (24 : Int32)) hx hb dX3_init_5 (by decide) ?_
    refine k_newa (N' := 24) hx hb (hts (.arrayClass .int) (by decide +kernel)) hK hA hI (by decide) rfl (by decide) (Nat.le_of_ble_eq_true rfl) (Nat.le_of_ble_eq_true rfl) dX3_init_7 (fun q1 H hI => ?_)
    refine W.widen (k := 1) (n := 24) (Nat.le_refl _) (Nat.le_refl _) ?_
    have hI : CI g ((h0, .inr (3, [.null, .null, .null, .null, .int 0, .int 0, .int 0, .int 0, .int 0])) :: (([] : va_W) ++ [(q1, zA g 24)])) A s.heap H locs := hI
    refine k_putF (ci := 3) (v := .ref q1) (ty := (.array .int)) (C := RX3) (T := TX3) (N := 9) hx hb hts hin3 tyX3 tyX3_ok nmX3 hown hK hI rfl 0 (by decide) (hts (.fieldLink RX3 9 "HoopLane$Lane" "grounds" "[I") (by decide +kernel)) (fun _ h => h) rfl hin0 rfl (by decide +kernel) rfl rfl (Nat.le_of_ble_eq_true rfl) dX3_init_9 (fun H locs hI => ?_)
    have hI : CI g ((h0, .inr (3, [.ref q1, .null, .null, .null, .int 0, .int 0, .int 0, .int 0, .int 0])) :: (([] : va_W) ++ [(q1, zA g 24)])) A s.heap H locs := hI
    refine lv_aload_n hx hb dX3_init_12 rfl (lv_at hl 0 rfl) ?_
    refine lv_iconst (v := (5 : Int32)) hx hb dX3_init_13 (by decide) ?_
    refine k_newa (N' := 5) hx hb (hts (.arrayClass .int) (by decide +kernel)) hK hA hI (by decide) rfl (by decide) (Nat.le_of_ble_eq_true rfl) (Nat.le_of_ble_eq_true rfl) dX3_init_14 (fun q2 H hI => ?_)
    refine W.widen (k := 2) (n := 29) (Nat.le_refl _) (Nat.le_refl _) ?_
    have hI : CI g ((h0, .inr (3, [.ref q1, .null, .null, .null, .int 0, .int 0, .int 0, .int 0, .int 0])) :: ((([] : va_W) ++ [(q1, zA g 24)]) ++ [(q2, zA g 5)])) A s.heap H locs := hI
    refine k_putF (ci := 3) (v := .ref q2) (ty := (.array .int)) (C := RX3) (T := TX3) (N := 9) hx hb hts hin3 tyX3 tyX3_ok nmX3 hown hK hI rfl 1 (by decide) (hts (.fieldLink RX3 15 "HoopLane$Lane" "kinds" "[I") (by decide +kernel)) (fun _ h => h) rfl hin0 rfl (by decide +kernel) rfl rfl (Nat.le_of_ble_eq_true rfl) dX3_init_16 (fun H locs hI => ?_)
    have hI : CI g ((h0, .inr (3, [.ref q1, .ref q2, .null, .null, .int 0, .int 0, .int 0, .int 0, .int 0])) :: ((([] : va_W) ++ [(q1, zA g 24)]) ++ [(q2, zA g 5)])) A s.heap H locs := hI
    refine lv_aload_n hx hb dX3_init_19 rfl (lv_at hl 0 rfl) ?_
    refine lv_iconst (v := (5 : Int32)) hx hb dX3_init_20 (by decide) ?_
    refine k_newa (N' := 5) hx hb (hts (.arrayClass .int) (by decide +kernel)) hK hA hI (by decide) rfl (by decide) (Nat.le_of_ble_eq_true rfl) (Nat.le_of_ble_eq_true rfl) dX3_init_21 (fun q3 H hI => ?_)
    refine W.widen (k := 3) (n := 34) (Nat.le_refl _) (Nat.le_refl _) ?_
    have hI : CI g ((h0, .inr (3, [.ref q1, .ref q2, .null, .null, .int 0, .int 0, .int 0, .int 0, .int 0])) :: (((([] : va_W) ++ [(q1, zA g 24)]) ++ [(q2, zA g 5)]) ++ [(q3, zA g 5)])) A s.heap H locs := hI
    refine k_putF (ci := 3) (v := .ref q3) (ty := (.array .int)) (C := RX3) (T := TX3) (N := 9) hx hb hts hin3 tyX3 tyX3_ok nmX3 hown hK hI rfl 2 (by decide) (hts (.fieldLink RX3 18 "HoopLane$Lane" "forces" "[I") (by decide +kernel)) (fun _ h => h) rfl hin0 rfl (by decide +kernel) rfl rfl (Nat.le_of_ble_eq_true rfl) dX3_init_23 (fun H locs hI => ?_)
    have hI : CI g ((h0, .inr (3, [.ref q1, .ref q2, .ref q3, .null, .int 0, .int 0, .int 0, .int 0, .int 0])) :: (((([] : va_W) ++ [(q1, zA g 24)]) ++ [(q2, zA g 5)]) ++ [(q3, zA g 5)])) A s.heap H locs := hI
    refine lv_aload_n hx hb dX3_init_26 rfl (lv_at hl 0 rfl) ?_
    refine k_new (ci := 2) (fs := [.int 0, .int 0, .int 0, .int 0]) (C := RX2) (T := TX2) (N := 4) hx hb hts hin2 tyX2 tyX2_ok hown (hts (.classLink RX3 21 RX2) (by decide +kernel)) (hts (.instantiable RX2 4) (by decide +kernel)) (hts (.initialized RX2) (by decide +kernel)) hK hA hI rfl (fun j hj => by rcases (show j = 0 ∨ j = 1 ∨ j = 2 ∨ j = 3 by omega) with rfl | rfl | rfl | rfl <;> rfl) (Nat.le_of_ble_eq_true rfl) (Nat.le_of_ble_eq_true rfl) dX3_init_27 (fun q4 H hI => ?_)
    refine lv_dup hx hb dX3_init_30 rfl ?_
    refine k_init (ws := ((h0, .inr (3, [.ref q1, .ref q2, .ref q3, .null, .int 0, .int 0, .int 0, .int 0, .int 0])) :: (((([] : va_W) ++ [(q1, zA g 24)]) ++ [(q2, zA g 5)]) ++ [(q3, zA g 5)]))) hA hI (va_runIN (As := []) (rest := [.ref q4, .ref h0]) ⟨hx, hb, hml, hown, hts⟩ (c_X2_init l g q4 H.size) ⟨va_cnB 0 hts gX3_init_X2_init_n23 rfl rfl rfl (hO.2.2.2 _ (List.mem_of_getElem? (i := 7) rfl)) (hts (.initialized RX2) (by decide +kernel)) (by decide +kernel) ⟨Nat.le_of_ble_eq_true rfl, Nat.le_of_ble_eq_true rfl⟩, rfl, (hts (.instanceMethod yX2_init) (by decide +kernel))⟩ (k_pre (ws := ((h0, .inr (3, [.ref q1, .ref q2, .ref q3, .null, .int 0, .int 0, .int 0, .int 0, .int 0])) :: (((([] : va_W) ++ [(q1, zA g 24)]) ++ [(q2, zA g 5)]) ++ [(q3, zA g 5)]))) hK hO hI) rfl rfl hl.1 rfl (lv_room (Nat.le_of_ble_eq_true rfl)) dX3_init_31 ⟨Nat.le_of_ble_eq_true rfl, Nat.le_of_ble_eq_true rfl⟩) (fun w1 H locs hw hI => ?_)
    have hw : w1 = _ := hw
    subst hw
    refine W.widen (k := 4) (n := 38) (Nat.le_refl _) (Nat.le_refl _) ?_
    have hI : CI g ((h0, .inr (3, [.ref q1, .ref q2, .ref q3, .null, .int 0, .int 0, .int 0, .int 0, .int 0])) :: ((((([] : va_W) ++ [(q1, zA g 24)]) ++ [(q2, zA g 5)]) ++ [(q3, zA g 5)]) ++ [(q4, eH)])) A s.heap H locs := hI
    refine k_putF (ci := 3) (v := .ref q4) (ty := (.object "HoopLane$Hoop")) (C := RX3) (T := TX3) (N := 9) hx hb hts hin3 tyX3 tyX3_ok nmX3 hown hK hI rfl 3 (by decide) (hts (.fieldLink RX3 24 "HoopLane$Lane" "hoop" "LHoopLane$Hoop;") (by decide +kernel)) (fun _ h => h) rfl hin0 rfl (by decide +kernel) rfl rfl (Nat.le_of_ble_eq_true rfl) dX3_init_34 (fun H locs hI => ?_)
    have hI : CI g ((h0, .inr (3, [.ref q1, .ref q2, .ref q3, .ref q4, .int 0, .int 0, .int 0, .int 0, .int 0])) :: ((((([] : va_W) ++ [(q1, zA g 24)]) ++ [(q2, zA g 5)]) ++ [(q3, zA g 5)]) ++ [(q4, eH)])) A s.heap H locs := hI
    refine lv_aload_n hx hb dX3_init_37 rfl (lv_at hl 0 rfl) ?_
    refine lv_iconst (v := (0 : Int32)) hx hb dX3_init_38 (by decide) ?_
    refine k_put (ci := 3) (v := .int 0) (ty := .int) (C := RX3) (T := TX3) (N := 9) hx hb hts hin3 tyX3 tyX3_ok nmX3 hown hK hI rfl 4 (by decide) (hts (.fieldLink RX3 28 "HoopLane$Lane" "yards" "I") (by decide +kernel)) (fun _ h => h) rfl (by decide +kernel) rfl rfl (Nat.le_of_ble_eq_true rfl) dX3_init_39 (fun H locs hI => ?_)
    have hI : CI g ((h0, .inr (3, [.ref q1, .ref q2, .ref q3, .ref q4, .int 0, .int 0, .int 0, .int 0, .int 0])) :: ((((([] : va_W) ++ [(q1, zA g 24)]) ++ [(q2, zA g 5)]) ++ [(q3, zA g 5)]) ++ [(q4, eH)])) A s.heap H locs := hI
    refine lv_aload_n hx hb dX3_init_42 rfl (lv_at hl 0 rfl) ?_
    refine lv_iconst (v := (0 : Int32)) hx hb dX3_init_43 (by decide) ?_
    refine k_put (ci := 3) (v := .int 0) (ty := .int) (C := RX3) (T := TX3) (N := 9) hx hb hts hin3 tyX3 tyX3_ok nmX3 hown hK hI rfl 5 (by decide) (hts (.fieldLink RX3 32 "HoopLane$Lane" "taps" "I") (by decide +kernel)) (fun _ h => h) rfl (by decide +kernel) rfl rfl (Nat.le_of_ble_eq_true rfl) dX3_init_44 (fun H locs hI => ?_)
    have hI : CI g ((h0, .inr (3, [.ref q1, .ref q2, .ref q3, .ref q4, .int 0, .int 0, .int 0, .int 0, .int 0])) :: ((((([] : va_W) ++ [(q1, zA g 24)]) ++ [(q2, zA g 5)]) ++ [(q3, zA g 5)]) ++ [(q4, eH)])) A s.heap H locs := hI
    refine lv_aload_n hx hb dX3_init_47 rfl (lv_at hl 0 rfl) ?_
    refine lv_iconst (v := (0 : Int32)) hx hb dX3_init_48 (by decide) ?_
    refine k_put (ci := 3) (v := .int 0) (ty := .int) (C := RX3) (T := TX3) (N := 9) hx hb hts hin3 tyX3 tyX3_ok nmX3 hown hK hI rfl 6 (by decide) (hts (.fieldLink RX3 35 "HoopLane$Lane" "holds" "I") (by decide +kernel)) (fun _ h => h) rfl (by decide +kernel) rfl rfl (Nat.le_of_ble_eq_true rfl) dX3_init_49 (fun H locs hI => ?_)
    have hI : CI g ((h0, .inr (3, [.ref q1, .ref q2, .ref q3, .ref q4, .int 0, .int 0, .int 0, .int 0, .int 0])) :: ((((([] : va_W) ++ [(q1, zA g 24)]) ++ [(q2, zA g 5)]) ++ [(q3, zA g 5)]) ++ [(q4, eH)])) A s.heap H locs := hI
    refine lv_aload_n hx hb dX3_init_52 rfl (lv_at hl 0 rfl) ?_
    refine lv_iconst (v := (0 : Int32)) hx hb dX3_init_53 (by decide) ?_
    refine k_put (ci := 3) (v := .int 0) (ty := .int) (C := RX3) (T := TX3) (N := 9) hx hb hts hin3 tyX3 tyX3_ok nmX3 hown hK hI rfl 7 (by decide) (hts (.fieldLink RX3 38 "HoopLane$Lane" "drag" "I") (by decide +kernel)) (fun _ h => h) rfl (by decide +kernel) rfl rfl (Nat.le_of_ble_eq_true rfl) dX3_init_54 (fun H locs hI => ?_)
    have hI : CI g ((h0, .inr (3, [.ref q1, .ref q2, .ref q3, .ref q4, .int 0, .int 0, .int 0, .int 0, .int 0])) :: ((((([] : va_W) ++ [(q1, zA g 24)]) ++ [(q2, zA g 5)]) ++ [(q3, zA g 5)]) ++ [(q4, eH)])) A s.heap H locs := hI
    refine lv_aload_n hx hb dX3_init_57 rfl (lv_at hl 0 rfl) ?_
    refine lv_iconst (v := (0 : Int32)) hx hb dX3_init_58 (by decide) ?_
    refine k_put (ci := 3) (v := .int 0) (ty := .int) (C := RX3) (T := TX3) (N := 9) hx hb hts hin3 tyX3 tyX3_ok nmX3 hown hK hI rfl 8 (by decide) (hts (.fieldLink RX3 41 "HoopLane$Lane" "moment" "I") (by decide +kernel)) (fun _ h => h) rfl (by decide +kernel) rfl rfl (Nat.le_of_ble_eq_true rfl) dX3_init_59 (fun H locs hI => ?_)
    have hI : CI g ((h0, .inr (3, [.ref q1, .ref q2, .ref q3, .ref q4, .int 0, .int 0, .int 0, .int 0, .int 0])) :: ((((([] : va_W) ++ [(q1, zA g 24)]) ++ [(q2, zA g 5)]) ++ [(q3, zA g 5)]) ++ [(q4, eH)])) A s.heap H locs := hI
    exact W.vret hx hb hr (fun t ht hW => ⟨⟨_, rfl, (⟨(fun k : Nat => ([h0, q1, q2, q3, q4] : List Nat).getD k 0), rfl, rfl⟩ : Sh3 g h0 _), by rw [ht]; exact hI.1, hI.2.1⟩, hI.2.2.F ht⟩) hI.2.2.2.2 dX3_init_62
  exact hgo s.heap [] hI
