/-! THE LAW from its entry -/
theorem nest_in : ∀ q ∈ nestL ++ nestC, Cond.methodLinkNest q.1 q.2.1 q.2.2.1 q.2.2.2 ∈ lw_tbl := by
  unfold nestL nestC
  exact List.forall_mem_cons.mpr ⟨(List.mem_of_getElem? (i := 755) (by decide +kernel)), List.forall_mem_cons.mpr ⟨(List.mem_of_getElem? (i := 524) (by decide +kernel)), List.forall_mem_cons.mpr ⟨(List.mem_of_getElem? (i := 495) (by decide +kernel)), List.forall_mem_cons.mpr ⟨(List.mem_of_getElem? (i := 576) (by decide +kernel)), List.forall_mem_cons.mpr ⟨(List.mem_of_getElem? (i := 419) (by decide +kernel)), List.forall_mem_cons.mpr ⟨(List.mem_of_getElem? (i := 94) (by decide +kernel)), List.forall_mem_cons.mpr ⟨(List.mem_of_getElem? (i := 183) (by decide +kernel)), List.forall_mem_cons.mpr ⟨(List.mem_of_getElem? (i := 233) (by decide +kernel)), List.forall_mem_cons.mpr ⟨(List.mem_of_getElem? (i := 259) (by decide +kernel)), List.forall_mem_cons.mpr ⟨(List.mem_of_getElem? (i := 285) (by decide +kernel)), List.forall_mem_cons.mpr ⟨(List.mem_of_getElem? (i := 287) (by decide +kernel)), List.forall_mem_cons.mpr ⟨(List.mem_of_getElem? (i := 210) (by decide +kernel)), List.forall_mem_cons.mpr ⟨(List.mem_of_getElem? (i := 100) (by decide +kernel)), List.forall_mem_cons.mpr ⟨(List.mem_of_getElem? (i := 238) (by decide +kernel)), fun _ h => absurd h List.not_mem_nil⟩⟩⟩⟩⟩⟩⟩⟩⟩⟩⟩⟩⟩⟩
theorem arr_int {args : Array Value} {s : State} (h : (Cond.arrayClass .int).before args s = true) : ∃ cA : ClassId, ArrOfT s cA .int ∧ va_RA s cA .int := by
  obtain ⟨c, k, comp, h1, h2, h3⟩ := Cond.arrayClass_spec h
  exact ⟨c, fun n z => ⟨fun k h => (by cases h), k, h2, comp, h3⟩, h1⟩
theorem arr_bool {args : Array Value} {s : State} (h : (Cond.arrayClass .boolean).before args s = true) : ∃ cA : ClassId, ArrOfT s cA .boolean ∧ va_RA s cA .boolean := by
  obtain ⟨c, k, comp, h1, h2, h3⟩ := Cond.arrayClass_spec h
  exact ⟨c, fun n z => ⟨fun k h => (by cases h), k, h2, comp, h3⟩, h1⟩
theorem arr_obj {args : Array Value} {s : State} {C : String} (h : (Cond.arrayOver (.object C)).before args s = true) : ∃ cA : ClassId, ArrOfT s cA (.object C) ∧ va_RA s cA (.object C) := by
  obtain ⟨comp, c, k, h1, h2, h3, h4, h5⟩ := Cond.arrayOver_spec h
  exact ⟨c, fun n z => ⟨fun k h => (by cases h), k, h3, comp, h4⟩, k, comp, h3, h4, h1, h5⟩
theorem vw_all {s : State} (h : ∀ q ∈ vwCl, ∃ (c : ClassId) (i : Nat → Nat), u_Kn s q.1 q.2.1 q.2.2 c i) : ∃ D : va_G, ∀ (k : Nat) (q : vw_C), vwCl[k]? = some q → u_Kn s q.1 q.2.1 q.2.2 (D.1 k) (D.2 k) := by
  have h1 : ∀ k : Nat, ∃ (c : ClassId) (i : Nat → Nat), ∀ q, vwCl[k]? = some q → u_Kn s q.1 q.2.1 q.2.2 c i := by
    intro k
    rcases Option.eq_none_or_eq_some (vwCl[k]?) with hk | ⟨q0, hk⟩
    · exact ⟨0, fun _ => 0, fun q hq => by rw [hk] at hq; cases hq⟩
    · obtain ⟨c, i, hc⟩ := h q0 (List.mem_of_getElem? hk)
      exact ⟨c, i, fun q hq => by rw [hk] at hq; cases hq; exact hc⟩
  exact ⟨(fun k => Classical.choose (h1 k), fun k => Classical.choose (Classical.choose_spec (h1 k))), fun k q hq => Classical.choose_spec (Classical.choose_spec (h1 k)) q hq⟩
theorem law_world {s : State} {b : Nat} (hts : ∀ w ∈ lw_tbl, w.before #[Value.ref b] s = true) (hgv : (Jvm.Cond.and given_1 narrow_1).before #[Value.ref b] s = true) : ∃ g : GP, va_K g.1 vwCl (gTys g) s ∧ EX g (LA s) s s.heap ∧ AO3 s := by
  have hs := flat_of_before _ hgv
  obtain ⟨D, hD⟩ := vw_all (s := s) (List.forall_mem_cons.mpr ⟨u_known hts inX0 (hts (.instantiable RX0 6) (List.mem_of_getElem? (i := 203) (by decide +kernel))), List.forall_mem_cons.mpr ⟨u_known hts inX1 (hts (.instantiable RX1 6) (List.mem_of_getElem? (i := 258) (by decide +kernel))), List.forall_mem_cons.mpr ⟨u_known hts inX2 (hts (.instantiable RX2 4) (List.mem_of_getElem? (i := 99) (by decide +kernel))), List.forall_mem_cons.mpr ⟨u_known hts inX3 (hts (.instantiable RX3 9) (List.mem_of_getElem? (i := 93) (by decide +kernel))), List.forall_mem_cons.mpr ⟨u_known hts inX4 (hts (.instantiable RX4 5) (List.mem_of_getElem? (i := 232) (by decide +kernel))), List.forall_mem_cons.mpr ⟨u_known hts inX5 (hts (.instantiable RX5 3) (List.mem_of_getElem? (i := 286) (by decide +kernel))), List.forall_mem_cons.mpr ⟨u_known hts inX6 (hts (.instantiable RX6 4) (List.mem_of_getElem? (i := 182) (by decide +kernel))), List.forall_mem_cons.mpr ⟨u_known hts inX7 (hts (.instantiable RX7 11) (List.mem_of_getElem? (i := 82) (by decide +kernel))), List.forall_mem_cons.mpr ⟨u_known hts inX8 (hts (.instantiable RX8 33) (List.mem_of_getElem? (i := 777) (by decide +kernel))), fun _ h => absurd h List.not_mem_nil⟩⟩⟩⟩⟩⟩⟩⟩⟩)
  obtain ⟨cI, aI⟩ := arr_int (hts (.arrayClass .int) (List.mem_of_getElem? (i := 126) (by decide +kernel)))
  obtain ⟨cB, aB⟩ := arr_bool (hts (.arrayClass .boolean) (List.mem_of_getElem? (i := 882) (by decide +kernel)))
  obtain ⟨cH, aH⟩ := arr_obj (hts (.arrayOver (.object "HoopLane$Hoop")) (List.mem_of_getElem? (i := 209) (by decide +kernel)))
  obtain ⟨cL, aL⟩ := arr_obj (hts (.arrayOver (.object "HoopLane$Lane")) (List.mem_of_getElem? (i := 92) (by decide +kernel)))
  obtain ⟨cR, aR⟩ := arr_obj (hts (.arrayOver (.object "HoopLane$Row")) (List.mem_of_getElem? (i := 90) (by decide +kernel)))
  obtain ⟨t0, u0, T0⟩ := va_Tof (args := #[Value.ref b]) (s := s) (tm := (.static "HoopLane$Tape" "GROUNDS" "[C")) (ty := .char) (N := 6) (f := fun j => .int (stF 0 j)) (A := LA s) (by decide) (hs (.arrayOf (.static "HoopLane$Tape" "GROUNDS" "[C") .char) (by decide +kernel)) (va_eqt (hs (.eq (.length (.static "HoopLane$Tape" "GROUNDS" "[C")) (.int 6)) (by decide +kernel))) (fun j hj => by
    match j, hj with
    | 0, _ => exact va_eqt (hs (.eq (.elem (.static "HoopLane$Tape" "GROUNDS" "[C") (.int (Int32.ofNat 0))) (.int (stF 0 0))) (by decide +kernel))
    | 1, _ => exact va_eqt (hs (.eq (.elem (.static "HoopLane$Tape" "GROUNDS" "[C") (.int (Int32.ofNat 1))) (.int (stF 0 1))) (by decide +kernel))
    | 2, _ => exact va_eqt (hs (.eq (.elem (.static "HoopLane$Tape" "GROUNDS" "[C") (.int (Int32.ofNat 2))) (.int (stF 0 2))) (by decide +kernel))
    | 3, _ => exact va_eqt (hs (.eq (.elem (.static "HoopLane$Tape" "GROUNDS" "[C") (.int (Int32.ofNat 3))) (.int (stF 0 3))) (by decide +kernel))
    | 4, _ => exact va_eqt (hs (.eq (.elem (.static "HoopLane$Tape" "GROUNDS" "[C") (.int (Int32.ofNat 4))) (.int (stF 0 4))) (by decide +kernel))
    | 5, _ => exact va_eqt (hs (.eq (.elem (.static "HoopLane$Tape" "GROUNDS" "[C") (.int (Int32.ofNat 5))) (.int (stF 0 5))) (by decide +kernel))
    | j + 6, h => exact absurd h (by omega)) (fun a h => Nat.not_le.mpr h)
  have Z0 : va_Z "HoopLane$Tape" "GROUNDS" "[C" (.ref t0) (LA s) s s.heap := va_Zref (hts (.laysStatic "HoopLane$Tape" "GROUNDS" "[C") (List.mem_of_getElem? (i := 429) (by decide +kernel))) (hts (.initialized "HoopLane$Tape") (List.mem_of_getElem? (i := 71) (by decide +kernel))) u0 (fun a h => Nat.not_le.mpr h)
  obtain ⟨t1, u1, T1⟩ := va_Tof (args := #[Value.ref b]) (s := s) (tm := (.static "HoopLane$Tape" "SORTS" "[C")) (ty := .char) (N := 5) (f := fun j => .int (stF 1 j)) (A := LA s) (by decide) (hs (.arrayOf (.static "HoopLane$Tape" "SORTS" "[C") .char) (by decide +kernel)) (va_eqt (hs (.eq (.length (.static "HoopLane$Tape" "SORTS" "[C")) (.int 5)) (by decide +kernel))) (fun j hj => by
    match j, hj with
    | 0, _ => exact va_eqt (hs (.eq (.elem (.static "HoopLane$Tape" "SORTS" "[C") (.int (Int32.ofNat 0))) (.int (stF 1 0))) (by decide +kernel))
    | 1, _ => exact va_eqt (hs (.eq (.elem (.static "HoopLane$Tape" "SORTS" "[C") (.int (Int32.ofNat 1))) (.int (stF 1 1))) (by decide +kernel))
    | 2, _ => exact va_eqt (hs (.eq (.elem (.static "HoopLane$Tape" "SORTS" "[C") (.int (Int32.ofNat 2))) (.int (stF 1 2))) (by decide +kernel))
    | 3, _ => exact va_eqt (hs (.eq (.elem (.static "HoopLane$Tape" "SORTS" "[C") (.int (Int32.ofNat 3))) (.int (stF 1 3))) (by decide +kernel))
    | 4, _ => exact va_eqt (hs (.eq (.elem (.static "HoopLane$Tape" "SORTS" "[C") (.int (Int32.ofNat 4))) (.int (stF 1 4))) (by decide +kernel))
    | j + 5, h => exact absurd h (by omega)) (fun a h => Nat.not_le.mpr h)
  have Z1 : va_Z "HoopLane$Tape" "SORTS" "[C" (.ref t1) (LA s) s s.heap := va_Zref (hts (.laysStatic "HoopLane$Tape" "SORTS" "[C") (List.mem_of_getElem? (i := 443) (by decide +kernel))) (hts (.initialized "HoopLane$Tape") (List.mem_of_getElem? (i := 71) (by decide +kernel))) u1 (fun a h => Nat.not_le.mpr h)
  obtain ⟨t2, u2, T2⟩ := va_Tof (args := #[Value.ref b]) (s := s) (tm := (.static "HoopLane" "NEAREST" "[I")) (ty := .int) (N := 6) (f := fun j => .int (stF 2 j)) (A := LA s) (by decide) (hs (.arrayOf (.static "HoopLane" "NEAREST" "[I") .int) (by decide +kernel)) (va_eqt (hs (.eq (.length (.static "HoopLane" "NEAREST" "[I")) (.int 6)) (by decide +kernel))) (fun j hj => by
    match j, hj with
    | 0, _ => exact va_eqt (hs (.eq (.elem (.static "HoopLane" "NEAREST" "[I") (.int (Int32.ofNat 0))) (.int (stF 2 0))) (by decide +kernel))
    | 1, _ => exact va_eqt (hs (.eq (.elem (.static "HoopLane" "NEAREST" "[I") (.int (Int32.ofNat 1))) (.int (stF 2 1))) (by decide +kernel))
    | 2, _ => exact va_eqt (hs (.eq (.elem (.static "HoopLane" "NEAREST" "[I") (.int (Int32.ofNat 2))) (.int (stF 2 2))) (by decide +kernel))
    | 3, _ => exact va_eqt (hs (.eq (.elem (.static "HoopLane" "NEAREST" "[I") (.int (Int32.ofNat 3))) (.int (stF 2 3))) (by decide +kernel))
    | 4, _ => exact va_eqt (hs (.eq (.elem (.static "HoopLane" "NEAREST" "[I") (.int (Int32.ofNat 4))) (.int (stF 2 4))) (by decide +kernel))
    | 5, _ => exact va_eqt (hs (.eq (.elem (.static "HoopLane" "NEAREST" "[I") (.int (Int32.ofNat 5))) (.int (stF 2 5))) (by decide +kernel))
    | j + 6, h => exact absurd h (by omega)) (fun a h => Nat.not_le.mpr h)
  have Z2 : va_Z "HoopLane" "NEAREST" "[I" (.ref t2) (LA s) s s.heap := va_Zref (hts (.laysStatic "HoopLane" "NEAREST" "[I") (List.mem_of_getElem? (i := 704) (by decide +kernel))) (hts (.initialized "HoopLane") (List.mem_of_getElem? (i := 68) (by decide +kernel))) u2 (fun a h => Nat.not_le.mpr h)
  refine ⟨(D, (cI, cB, cH, cL, cR), (t0, t1, t2)), ⟨hD, fun k q hk => ?_⟩, ⟨fun q hq => va_Nw.of rfl (hts _ (nest_in q (List.mem_append_left _ hq))), ⟨Z0, T0⟩, ⟨Z1, T1⟩, ⟨Z2, T2⟩⟩, va_AO.of (hts (.arrayOver (.object "HoopLane$Hoop")) (List.mem_of_getElem? (i := 209) (by decide +kernel))), va_AO.of (hts (.arrayOver (.object "HoopLane$Lane")) (List.mem_of_getElem? (i := 92) (by decide +kernel))), va_AO.of (hts (.arrayOver (.object "HoopLane$Row")) (List.mem_of_getElem? (i := 90) (by decide +kernel))), fun q hq => va_Nw.of rfl (hts _ (nest_in q (List.mem_append_right _ hq)))⟩
  match k, hk with
  | 0, hk => have hk : some (cI, FieldType.int) = some q := hk; cases hk; exact aI
  | 1, hk => have hk : some (cB, FieldType.boolean) = some q := hk; cases hk; exact aB
  | 2, hk => have hk : some (cH, FieldType.object "HoopLane$Hoop") = some q := hk; cases hk; exact aH
  | 3, hk => have hk : some (cL, FieldType.object "HoopLane$Lane") = some q := hk; cases hk; exact aL
  | 4, hk => have hk : some (cR, FieldType.object "HoopLane$Row") = some q := hk; cases hk; exact aR
  | k + 5, hk => have hk : (none : Option (ClassId × FieldType)) = some q := hk; cases hk
