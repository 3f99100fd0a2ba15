/-! constructors with loops -/
def rm_X0_init : Room := { frames := 2, cells := 28, slots := 192, locals := 40 }
set_option maxHeartbeats 4000000 in
set_option maxRecDepth 100000 in
theorem c_X0_init (l : Launch) (g : GP) (h0 sz : Nat) : Met l yX0_init wsX0_init rm_X0_init (va_Pc [.ref h0] (CPre g [(h0, (.inr (0, [.null, .null, .null, .null, .int 0, .int 0])))] sz)) (va_Qv (Sh0 g h0) (CPost g (va_A [(h0, (.inr (0, [.null, .null, .null, .null, .int 0, .int 0])))] sz)) (va_A [(h0, (.inr (0, [.null, .null, .null, .null, .int 0, .int 0])))] sz)) 28 192 (va_A [(h0, (.inr (0, [.null, .null, .null, .null, .int 0, .int 0])))] sz) := by
  refine Met.ofW (cc := cX0_init) (maxL := 2) (ret := none) (by decide) rfl ?_
  intro p e s m args below meth c s₁ B hml hv
  obtain ⟨ha, hsz, hP, hK, hD0, hO⟩ := hv
  have hx := B.exec
  have hb := B.bytes
  have hr := B.returns
  have hts := atoms_spec (ws := wsX0_init) B.pre
  have hown : s.vm.findClass RX0 = some m.cls := findClass_of_methodNamed B.named
  have hlocks := B.notSynchronized
  have hinN : meth.name = "<init>" := (name_of_methodNamed B.named B.method).1
  subst hsz
  have hA : ∀ q : Nat, s.heap.size ≤ q → va_A [(h0, (.inr (0, [.null, .null, .null, .null, .int 0, .int 0])))] s.heap.size q := fun q h => Or.inr h
  have hI : CI g ((h0, (.inr (0, [.null, .null, .null, .null, .int 0, .int 0]))) :: ([] : va_W)) (va_A [(h0, (.inr (0, [.null, .null, .null, .null, .int 0, .int 0])))] s.heap.size) s.heap s.heap [] := ⟨hP, hD0.self (sz := s.heap.size), va_S.rf⟩
  generalize va_A [(h0, (.inr (0, [.null, .null, .null, .null, .int 0, .int 0])))] s.heap.size = A at hA hI ⊢
  have hl := lv_entry ([.ref h0]) (n := 2) (Nat.le_of_ble_eq_true rfl)
  have hent : entryFrame m args 2 = F0 m 0 ((lg_sl ([.ref h0]) ++ List.replicate (2 - (lg_sl ([.ref h0])).length) Slot.unset).toArray) [] := by rw [ha, lg_entry_eq]
  rw [hent]
  generalize (lg_sl ([.ref h0]) ++ List.replicate (2 - (lg_sl ([.ref h0])).length) Slot.unset).toArray = ls at hl ⊢
  have hl : lv_has ls 2 [(0, .ref h0)] := hl
  have hgo : ∀ (H : Heap) (locs : List Loc), CI g ((h0, (.inr (0, [.null, .null, .null, .null, .int 0, .int 0]))) :: ([] : va_W)) A s.heap H locs → W p l e (headSpec wsX0_init rm_X0_init).room s m args below meth c H locs 0 0 (MQ below (va_Qv (Sh0 g h0) (CPost g A) A) args s 28 192 A) (F0 m 0 ls []) := by
    intro H locs hI
    have hin0 : ∀ w ∈ wsX00, w ∈ wsX0_init := by decide +kernel
    have hin2 : ∀ w ∈ wsX20, w ∈ wsX0_init := by decide +kernel
    refine lv_aload_n hx hb dX0_init_0 rfl (lv_at hl 0 rfl) ?_
    refine W.objInit hx hb hown (hts (.methodLink RX0 3 objectInit) (by decide +kernel)) (hts (.instanceMethod objectInit) (by decide +kernel)) (hts (.code objectInit ⟨#[0xb1]⟩ 1 none) (by decide +kernel)) rfl (by rw [hml]; exact hl.1) rfl dX0_init_1 (Nat.le_of_ble_eq_true rfl) (Nat.le_of_ble_eq_true rfl) ?_
    refine W.eq (g2 := F0 m 4 ls []) rfl ?_
    refine lv_aload_n hx hb dX0_init_4 rfl (lv_at hl 0 rfl) ?_
    refine lv_bipush (v := (24 : Int32)) hx hb dX0_init_5 (by decide) ?_
    refine k_newq (N' := 24) (C := RX2) hx hb hown (hts (.classLink RX0 9 RX2) (by decide +kernel)) hO.1 hK (t := 2) (cG := g.2.1.2.2.1) rfl hA hI (by decide) rfl (by decide) (Nat.le_of_ble_eq_true rfl) (Nat.le_of_ble_eq_true rfl) dX0_init_7 (fun q1 H hI => ?_)
    refine W.widen (k := 1) (n := 24) (Nat.le_refl _) (Nat.le_refl _) ?_
    have hI : CI g ((h0, .inr (0, [.null, .null, .null, .null, .int 0, .int 0])) :: (([] : va_W) ++ [(q1, rA g.2.1.2.2.1 24 (fun _ => none))])) A s.heap H locs := hI
    refine k_putF (ci := 0) (v := .ref q1) (ty := (.array (.object "HoopLane$Hoop"))) (C := RX0) (T := TX0) (N := 6) hx hb hts hin0 tyX0 tyX0_ok nmX0 hown hK hI rfl 0 (by decide) (hts (.fieldLink RX0 11 "HoopLane$Acts" "hoops" "[LHoopLane$Hoop;") (by decide +kernel)) (fun _ h => h) rfl hinN rfl (by decide +kernel) rfl rfl (Nat.le_of_ble_eq_true rfl) dX0_init_10 (fun H locs hI => ?_)
    have hI : CI g ((h0, .inr (0, [.ref q1, .null, .null, .null, .int 0, .int 0])) :: (([] : va_W) ++ [(q1, rA g.2.1.2.2.1 24 (fun _ => none))])) A s.heap H locs := hI
    refine lv_aload_n hx hb dX0_init_13 rfl (lv_at hl 0 rfl) ?_
    refine lv_bipush (v := (24 : Int32)) hx hb dX0_init_14 (by decide) ?_
    refine k_newa (N' := 24) hx hb (hts (.arrayClass .int) (by decide +kernel)) hK hA hI (by decide) rfl (by decide) (Nat.le_of_ble_eq_true rfl) (Nat.le_of_ble_eq_true rfl) dX0_init_16 (fun q2 H hI => ?_)
    refine W.widen (k := 2) (n := 48) (Nat.le_refl _) (Nat.le_refl _) ?_
    have hI : CI g ((h0, .inr (0, [.ref q1, .null, .null, .null, .int 0, .int 0])) :: ((([] : va_W) ++ [(q1, rA g.2.1.2.2.1 24 (fun _ => none))]) ++ [(q2, zA g 24)])) A s.heap H locs := hI
    refine k_putF (ci := 0) (v := .ref q2) (ty := (.array .int)) (C := RX0) (T := TX0) (N := 6) hx hb hts hin0 tyX0 tyX0_ok nmX0 hown hK hI rfl 1 (by decide) (hts (.fieldLink RX0 17 "HoopLane$Acts" "moments" "[I") (by decide +kernel)) (fun _ h => h) rfl hinN rfl (by decide +kernel) rfl rfl (Nat.le_of_ble_eq_true rfl) dX0_init_18 (fun H locs hI => ?_)
    have hI : CI g ((h0, .inr (0, [.ref q1, .ref q2, .null, .null, .int 0, .int 0])) :: ((([] : va_W) ++ [(q1, rA g.2.1.2.2.1 24 (fun _ => none))]) ++ [(q2, zA g 24)])) A s.heap H locs := hI
    refine lv_aload_n hx hb dX0_init_21 rfl (lv_at hl 0 rfl) ?_
    refine lv_bipush (v := (24 : Int32)) hx hb dX0_init_22 (by decide) ?_
    refine k_newa (N' := 24) hx hb (hts (.arrayClass .int) (by decide +kernel)) hK hA hI (by decide) rfl (by decide) (Nat.le_of_ble_eq_true rfl) (Nat.le_of_ble_eq_true rfl) dX0_init_24 (fun q3 H hI => ?_)
    refine W.widen (k := 3) (n := 72) (Nat.le_refl _) (Nat.le_refl _) ?_
    have hI : CI g ((h0, .inr (0, [.ref q1, .ref q2, .null, .null, .int 0, .int 0])) :: (((([] : va_W) ++ [(q1, rA g.2.1.2.2.1 24 (fun _ => none))]) ++ [(q2, zA g 24)]) ++ [(q3, zA g 24)])) A s.heap H locs := hI
    refine k_putF (ci := 0) (v := .ref q3) (ty := (.array .int)) (C := RX0) (T := TX0) (N := 6) hx hb hts hin0 tyX0 tyX0_ok nmX0 hown hK hI rfl 2 (by decide) (hts (.fieldLink RX0 21 "HoopLane$Acts" "yards" "[I") (by decide +kernel)) (fun _ h => h) rfl hinN rfl (by decide +kernel) rfl rfl (Nat.le_of_ble_eq_true rfl) dX0_init_26 (fun H locs hI => ?_)
    have hI : CI g ((h0, .inr (0, [.ref q1, .ref q2, .ref q3, .null, .int 0, .int 0])) :: (((([] : va_W) ++ [(q1, rA g.2.1.2.2.1 24 (fun _ => none))]) ++ [(q2, zA g 24)]) ++ [(q3, zA g 24)])) A s.heap H locs := hI
    refine lv_aload_n hx hb dX0_init_29 rfl (lv_at hl 0 rfl) ?_
    refine lv_bipush (v := (24 : Int32)) hx hb dX0_init_30 (by decide) ?_
    refine k_newa (N' := 24) hx hb (hts (.arrayClass .int) (by decide +kernel)) hK hA hI (by decide) rfl (by decide) (Nat.le_of_ble_eq_true rfl) (Nat.le_of_ble_eq_true rfl) dX0_init_32 (fun q4 H hI => ?_)
    refine W.widen (k := 4) (n := 96) (Nat.le_refl _) (Nat.le_refl _) ?_
    have hI : CI g ((h0, .inr (0, [.ref q1, .ref q2, .ref q3, .null, .int 0, .int 0])) :: ((((([] : va_W) ++ [(q1, rA g.2.1.2.2.1 24 (fun _ => none))]) ++ [(q2, zA g 24)]) ++ [(q3, zA g 24)]) ++ [(q4, zA g 24)])) A s.heap H locs := hI
    refine k_putF (ci := 0) (v := .ref q4) (ty := (.array .int)) (C := RX0) (T := TX0) (N := 6) hx hb hts hin0 tyX0 tyX0_ok nmX0 hown hK hI rfl 3 (by decide) (hts (.fieldLink RX0 24 "HoopLane$Acts" "grounds" "[I") (by decide +kernel)) (fun _ h => h) rfl hinN rfl (by decide +kernel) rfl rfl (Nat.le_of_ble_eq_true rfl) dX0_init_34 (fun H locs hI => ?_)
    have hI : CI g ((h0, .inr (0, [.ref q1, .ref q2, .ref q3, .ref q4, .int 0, .int 0])) :: ((((([] : va_W) ++ [(q1, rA g.2.1.2.2.1 24 (fun _ => none))]) ++ [(q2, zA g 24)]) ++ [(q3, zA g 24)]) ++ [(q4, zA g 24)])) A s.heap H locs := hI
    refine lv_aload_n hx hb dX0_init_37 rfl (lv_at hl 0 rfl) ?_
    refine lv_iconst (v := (0 : Int32)) hx hb dX0_init_38 (by decide) ?_
    refine k_put (ci := 0) (v := .int 0) (ty := .int) (C := RX0) (T := TX0) (N := 6) hx hb hts hin0 tyX0 tyX0_ok nmX0 hown hK hI rfl 4 (by decide) (hts (.fieldLink RX0 27 "HoopLane$Acts" "next" "I") (by decide +kernel)) (fun _ h => h) rfl (by decide +kernel) rfl rfl (Nat.le_of_ble_eq_true rfl) dX0_init_39 (fun H locs hI => ?_)
    have hI : CI g ((h0, .inr (0, [.ref q1, .ref q2, .ref q3, .ref q4, .int 0, .int 0])) :: ((((([] : va_W) ++ [(q1, rA g.2.1.2.2.1 24 (fun _ => none))]) ++ [(q2, zA g 24)]) ++ [(q3, zA g 24)]) ++ [(q4, zA g 24)])) A s.heap H locs := hI
    refine lv_aload_n hx hb dX0_init_42 rfl (lv_at hl 0 rfl) ?_
    refine lv_iconst (v := (0 : Int32)) hx hb dX0_init_43 (by decide) ?_
    refine k_put (ci := 0) (v := .int 0) (ty := .int) (C := RX0) (T := TX0) (N := 6) hx hb hts hin0 tyX0 tyX0_ok nmX0 hown hK hI rfl 5 (by decide) (hts (.fieldLink RX0 31 "HoopLane$Acts" "count" "I") (by decide +kernel)) (fun _ h => h) rfl (by decide +kernel) rfl rfl (Nat.le_of_ble_eq_true rfl) dX0_init_44 (fun H locs hI => ?_)
    have hI : CI g ((h0, .inr (0, [.ref q1, .ref q2, .ref q3, .ref q4, .int 0, .int 0])) :: ((((([] : va_W) ++ [(q1, rA g.2.1.2.2.1 24 (fun _ => none))]) ++ [(q2, zA g 24)]) ++ [(q3, zA g 24)]) ++ [(q4, zA g 24)])) A s.heap H locs := hI
    refine lv_iconst (v := (0 : Int32)) hx hb dX0_init_47 (by decide) ?_
    refine lv_istore_n (lv' := [(1, .int 0), (0, .ref h0)]) hx hb dX0_init_48 rfl hl (by decide) rfl (fun ls hl => ?_)
    have loop : ∀ (n k : Nat) (P : Nat → va_W) (hj : Nat → Nat) (f : Nat → Option Nat) (H : Heap) (locs : List Loc) (ls : Array Slot), n + k = 24 → (∀ j, j < k → f j = some (hj j) ∧ P j = [(hj j, eH)]) → CI g ((h0, .inr (0, [.ref q1, .ref q2, .ref q3, .ref q4, .int 0, .int 0])) :: (q1, rA g.2.1.2.2.1 24 f) :: (([(q2, zA g 24), (q3, zA g 24), (q4, zA g 24)] : va_W) ++ pl k P)) A s.heap H locs → lv_has ls 2 [(1, .int (nI k)), (0, .ref h0)] → W p l e (headSpec wsX0_init rm_X0_init).room s m args below meth c H locs (4 + 1 * k) (96 + 4 * k) (MQ below (va_Qv (Sh0 g h0) (CPost g A) A) args s 28 192 A) (F0 m 49 ls []) := by
      intro n
      induction n with
      | zero =>
        intro k P hj f H locs ls hk hP hI hl
        have hkN : k = 24 := by omega
        subst hkN
        refine lv_iload_n hx hb dX0_init_49 rfl (lv_at hl 0 rfl) ?_
        refine lv_bipush (v := (24 : Int32)) hx hb dX0_init_50 (by decide) ?_
        refine lv_icmp_ge (tgt := 74) hx hb dX0_init_52 (by decide) (fun _ => ?_) (fun cn => absurd (show (24 : Int32) ≤ nI 24 by decide) cn)
        have hI := CI_rA1 hI (fun j hj0 => (hP j hj0).1)
        have e1 : pl 24 P = pl 24 (fun j => [(hj j, eH)]) := pl_cg 24 (fun j hj0 => (hP j hj0).2)
        rw [e1] at hI
        exact W.vret hx hb hr (fun t ht hW => ⟨⟨_, rfl, (⟨(fun k : Nat => ([h0, q1, q2, q3, q4] : List Nat).getD k 0), hj, rfl, rfl⟩ : Sh0 g h0 _), by rw [ht]; exact hI.1, hI.2.1⟩, hI.2.2.F ht⟩) hI.2.2.2.2 dX0_init_74
      | succ n ih =>
        intro k P hj f H locs ls hk hP hI hl
        refine lv_iload_n hx hb dX0_init_49 rfl (lv_at hl 0 rfl) ?_
        refine lv_bipush (v := (24 : Int32)) hx hb dX0_init_50 (by decide) ?_
        refine lv_icmp_ge (tgt := 74) hx hb dX0_init_52 (by decide) (fun cy => absurd cy (nI_ge (b := 24) (by omega) (by decide))) (fun _ => ?_)
        refine lv_aload_n hx hb dX0_init_55 rfl (lv_at hl 1 rfl) ?_
        refine k_get (ci := 0) (fs := [.ref q1, .ref q2, .ref q3, .ref q4, .int 0, .int 0]) (v := .ref q1) (C := RX0) (T := TX0) (N := 6) hx hb hts hin0 hown hK hI rfl 0 (by decide) (hts (.fieldLink RX0 11 "HoopLane$Acts" "hoops" "[LHoopLane$Hoop;") (by decide +kernel)) (fun _ h => h) rfl dX0_init_56 ?_
        refine lv_iload_n hx hb dX0_init_59 rfl (lv_at hl 0 rfl) ?_
        refine k_new (ci := 2) (fs := [.int 0, .int 0, .int 0, .int 0]) (C := RX2) (T := TX2) (N := 4) hx hb hts hin2 tyX2 tyX2_ok hown (hts (.classLink RX0 9 RX2) (by decide +kernel)) (hts (.instantiable RX2 4) (by decide +kernel)) (hts (.initialized RX2) (by decide +kernel)) hK hA hI rfl (fun j hj => by rcases (show j = 0 ∨ j = 1 ∨ j = 2 ∨ j = 3 by omega) with rfl | rfl | rfl | rfl <;> rfl) (by show 4 + 1 * k + 1 ≤ 28; omega) (by show 96 + 4 * k + 4 ≤ 192; omega) dX0_init_60 (fun q90 H hI => ?_)
        refine lv_dup hx hb dX0_init_63 rfl ?_
        refine k_init (ws := ((h0, .inr (0, [.ref q1, .ref q2, .ref q3, .ref q4, .int 0, .int 0])) :: (q1, rA g.2.1.2.2.1 24 f) :: (([(q2, zA g 24), (q3, zA g 24), (q4, zA g 24)] : va_W) ++ pl k P))) hA hI (va_runIN (As := []) (rest := [.ref q90, .int (nI k), .ref q1]) ⟨hx, hb, hml, hown, hts⟩ (c_X2_init l g q90 H.size) ⟨va_cnB 0 hts gX0_init_X2_init_n34 rfl rfl rfl (hO.2.2.2 _ (List.mem_of_getElem? (i := 6) rfl)) (hts (.initialized RX2) (by decide +kernel)) (by decide +kernel) ⟨Nat.le_of_ble_eq_true rfl, Nat.le_of_ble_eq_true rfl⟩, rfl, (hts (.instanceMethod yX2_init) (by decide +kernel))⟩ (k_pre (ws := ((h0, .inr (0, [.ref q1, .ref q2, .ref q3, .ref q4, .int 0, .int 0])) :: (q1, rA g.2.1.2.2.1 24 f) :: (([(q2, zA g 24), (q3, zA g 24), (q4, zA g 24)] : va_W) ++ pl k P))) hK hO hI) rfl rfl hl.1 rfl (lv_room (Nat.le_of_ble_eq_true rfl)) dX0_init_64 ⟨(by show 4 + 1 * k + 1 + 0 ≤ 28; omega), (by show 96 + 4 * k + 4 + 0 ≤ 192; omega)⟩) (fun w1 H locs hw hI => ?_)
        have hw : w1 = _ := hw
        subst hw
        have hI : CI g ((h0, .inr (0, [.ref q1, .ref q2, .ref q3, .ref q4, .int 0, .int 0])) :: (q1, rA g.2.1.2.2.1 24 f) :: ((([(q2, zA g 24), (q3, zA g 24), (q4, zA g 24)] : va_W) ++ pl k P) ++ ((q90, .inr (2, [.int 0, .int 0, .int 0, .int 0])) :: ([] : va_W)))) A s.heap H locs := hI
        refine k_ast1 hx hb hK hI (t0 := 2) (r := (RX2, TX2, 4)) rfl rfl (vpn (n := k) (by omega) (by decide)) dX0_init_67 (fun H locs hI => ?_)
        refine lv_iinc (v := nI k + (1 : Int32)) (lv' := [(1, .int (nI k + (1 : Int32))), (0, .ref h0)]) hx hb dX0_init_68 hl (k := 0) rfl rfl (by decide) rfl (fun ls hl => ?_)
        refine lv_goto (tgt := 49) hx hb dX0_init_71 (by decide) ?_
        refine W.widen (k := 4 + 1 * (k + 1)) (n := 96 + 4 * (k + 1)) (by omega) (by omega) ?_
        refine ih (k + 1) (upP P k ([(q90, eH)])) (upP hj k q90) (va_up f k (some q90)) H locs ls (by omega) (fun j hj0 => ?_) ?_ (by rw [← nI_1]; exact hl)
        · by_cases z : j = k
          · subst z; rw [va_up_self, upP_s, upP_s]; exact ⟨rfl, rfl⟩
          · rw [va_up_ne _ _ z, upP_n z, upP_n z]; exact hP j (by omega)
        · rw [nI_c (by omega)] at hI
          rw [pl_up, ← List.append_assoc]
          exact hI
    have hI : CI g ((h0, .inr (0, [.ref q1, .ref q2, .ref q3, .ref q4, .int 0, .int 0])) :: (q1, rA g.2.1.2.2.1 24 (fun _ => none)) :: (([(q2, zA g 24), (q3, zA g 24), (q4, zA g 24)] : va_W) ++ pl 0 (fun _ => []))) A s.heap H locs := hI
    exact loop 24 0 (fun _ => []) (fun _ => 0) (fun _ => none) H locs ls (by omega) (fun j hj0 => absurd hj0 (Nat.not_lt_zero j)) hI hl
  exact hgo s.heap [] hI
def L7 (g : GP) (h0 q1 q2 q9 : Nat) (bl br bt ba hj bp bk : Nat → Nat) (rj ij : Nat → Nat → Nat) : va_W := (h0, .inr (7, [.ref q1, .ref q2, .ref (bl 0), .ref (br 0), .ref (bt 0), .ref (ba 0), .ref (bp 0), .ref (bk 0), .ref q9, .int 0, .int 0])) :: (q1, rA g.2.1.2.2.2.2 8 (fun h => some (rj h 0))) :: (q2, rA g.2.1.2.2.2.1 2 (fun h => some (ij h 0))) :: ((((((((L3 g bl ++ L3 g br) ++ L6 g bt) ++ L0 g ba hj) ++ L4 g bp) ++ L1 g bk) ++ [(q9, eH)]) ++ pl 8 (fun j => L5 g (rj j))) ++ pl 2 (fun j => L3 g (ij j)))
def Sh7 (g : GP) (q : Nat) (w : va_W) : Prop := ∃ (q1 q2 q9 : Nat) (bl br bt ba hj bp bk : Nat → Nat) (rj ij : Nat → Nat → Nat), w = L7 g q q1 q2 q9 bl br bt ba hj bp bk rj ij
