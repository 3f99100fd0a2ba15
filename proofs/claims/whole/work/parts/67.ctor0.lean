/-! constructors: the cells that are made -/
def CI (g : GP) (ws : va_W) (A : Nat → Prop) (H0 H : Heap) (locs : List Loc) : Prop := va_P g.1 vwCl ws H ∧ va_D A ws ∧ va_S A H0 H locs
def zA (g : GP) (N : Nat) : va_E := .inl (g.2.1.1, N, .inl (fun _ => 0))
def zB (g : GP) (N : Nat) : va_E := .inl (g.2.1.2.1, N, .inl (fun _ => 0))
def rA (c : ClassId) (N : Nat) (f : Nat → Option Nat) : va_E := .inl (c, N, .inr (.inr (.inr (.inr f))))
def eH : va_E := .inr (2, [.int 0, .int 0, .int 0, .int 0])
def nestC : List (String × Nat × MethodName × String) := [(RX7, 21, yX3_init, RX7), (RX7, 31, yX6_init, RX7), (RX7, 45, yX4_init, RX7), (RX7, 52, yX1_init, RX7), (RX7, 59, yX2_init, RX7), (RX7, 71, yX5_init, RX7), (RX0, 34, yX2_init, RX7), (RX3, 23, yX2_init, RX7), (RX4, 17, yX2_init, RX7)]
def AO3 (U : State) : Prop := va_AO "HoopLane$Hoop" U ∧ va_AO "HoopLane$Lane" U ∧ va_AO "HoopLane$Row" U ∧ ∀ q ∈ nestC, va_Nw (.methodLinkNest q.1 q.2.1 q.2.2.1 q.2.2.2) U
theorem AO3.moved {u U : State} (hW : u.WarmedH U.vm) (h : AO3 u) : AO3 U := ⟨h.1.moved hW.alike, h.2.1.moved hW.alike, h.2.2.1.moved hW.alike, fun q hq => va_Nw.warmM hW (h.2.2.2 q hq)⟩
def CPre (g : GP) (ws : va_W) (sz : Nat) (U : State) : Prop := U.heap.size = sz ∧ va_P g.1 vwCl ws U.heap ∧ va_K g.1 vwCl (gTys g) U ∧ va_D (fun _ => True) ws ∧ AO3 U
def CPost (g : GP) (A : Nat → Prop) (w : va_W) (t : State) : Prop := va_P g.1 vwCl w t.heap ∧ va_D A w
theorem CPre_blind {g : GP} {ws : va_W} {sz : Nat} {av : List Value} : FrameBlind (va_Pc av (CPre g ws sz)) := by
  intro a U gg mk q
  obtain ⟨q0, q1, qP, qK, qD, qO⟩ := q
  have hAl : U.vm.Alike (U.calling gg mk a).vm := Vm.Alike.refl U.vm
  exact ⟨q0, q1, qP, va_K.moved (u := U) (U := U.calling gg mk a) hAl qK, qD, qO.1.moved hAl, qO.2.1.moved hAl, qO.2.2.1.moved hAl, fun q hq => va_Nw.same rfl rfl (qO.2.2.2 q hq)⟩
theorem D_app_r {A : Nat → Prop} {w1 w2 : va_W} (h : va_D A (w1 ++ w2)) : va_D A w2 := by
  have at2 : ∀ (i : Nat) (q : Nat × va_E), w2[i]? = some q → (w1 ++ w2)[w1.length + i]? = some q := fun i q hi => by
    rw [List.getElem?_append_right (Nat.le_add_right _ _), Nat.add_sub_cancel_left]
    exact hi
  refine ⟨fun i j p q hi hj e => ?_, fun k q hk => h.2 _ q (at2 k q hk)⟩
  have := h.1 _ _ p q (at2 i p hi) (at2 j q hj) e
  omega
theorem D_app_l {A : Nat → Prop} {w1 w2 : va_W} (h : va_D A (w1 ++ w2)) : va_D A w1 := by
  have at1 : ∀ (i : Nat) (q : Nat × va_E), w1[i]? = some q → (w1 ++ w2)[i]? = some q := fun i q hi => by
    rw [List.getElem?_append_left (List.getElem?_eq_some_iff.mp hi).1]
    exact hi
  exact ⟨fun i j p q hi hj e => h.1 _ _ p q (at1 i p hi) (at1 j q hj) e, fun k q hk => h.2 _ q (at1 k q hk)⟩
theorem D_app_x {A : Nat → Prop} {w1 w2 : va_W} (h : va_D A (w1 ++ w2)) {i j : Nat} {p q : Nat × va_E} (hi : w1[i]? = some p) (hj : w2[j]? = some q) : p.1 ≠ q.1 := by
  intro e
  have hl := (List.getElem?_eq_some_iff.mp hi).1
  have := h.1 i (w1.length + j) p q (by rw [List.getElem?_append_left hl]; exact hi) (by rw [List.getElem?_append_right (Nat.le_add_right _ _), Nat.add_sub_cancel_left]; exact hj) e
  omega
theorem P_app_l {g : GP} {w1 w2 : va_W} {H : Heap} (h : va_P g.1 vwCl (w1 ++ w2) H) : va_P g.1 vwCl w1 H := fun i q hi => h i q (by
  rw [List.getElem?_append_left (List.getElem?_eq_some_iff.mp hi).1]
  exact hi)
theorem P_app_r {g : GP} {w1 w2 : va_W} {H : Heap} (h : va_P g.1 vwCl (w1 ++ w2) H) : va_P g.1 vwCl w2 H := fun i q hi => h (w1.length + i) q (by
  rw [List.getElem?_append_right (Nat.le_add_right _ _), Nat.add_sub_cancel_left]
  exact hi)
section CT
variable {p : Program} {l : Launch} {e : Env} {R : Room} {s : State} {m : MethodId} {args : Array Value} {below : List Frame} {meth : Method} {c : Code} {H H0 : Heap} {locs : List Loc} {cells slots : Nat} {Q : State → Prop}
variable {cc : ByteArray} {pc : Nat} {ls : Array Slot} {rest : List Value} {g : GP} {A : Nat → Prop} {ws : va_W}
theorem k_newa (hexec : p.tables.exec = Jvm.exec) (hb : c.code = cc) (harr : (Cond.arrayClass .int).before args s = true) (hK : va_K g.1 vwCl (gTys g) s) (hA : ∀ q, H0.size ≤ q → A q) (hI : CI g ws A H0 H locs) {n : Int32} {N' : Nat} (hn : ¬ n < 0) (hN : n.toNatClampNeg = N') (hbytes : N' * 4 ≤ 536870912) (hcells : cells + 1 ≤ R.cells) (hslots : slots + N' ≤ R.slots) (hdg : decode cc pc = .ok (.newarray .int, 2))
    (kk : ∀ (q : Nat) (H1 : Heap), CI g (ws ++ [(q, zA g N')]) A H0 H1 locs → W p l e R s m args below meth c H1 locs (cells + 1) (slots + N') Q (F0 m (pc + 2) ls (.ref q :: rest))) : W p l e R s m args below meth c H locs cells slots Q (F0 m pc ls (.int n :: rest)) := by
  refine va_newa (D := g.1) (atype := .int) (ty := .int) (a0 := (N', .inl (fun _ => 0))) hexec hb harr rfl hK hI.1 hI.2.1 hI.2.2 hA (fun _ => rfl) hn hN hbytes hcells hslots hdg (fun q cA H1 hK1 hP hD hS => ?_)
  have e1 : s.vm.findClass ("[" ++ FieldType.int.toString) = some cA := (hK1.2 5 (cA, .int) rfl).2
  have e2 : s.vm.findClass ("[" ++ FieldType.int.toString) = some g.2.1.1 := (hK.2 0 (g.2.1.1, .int) rfl).2
  have e3 : cA = g.2.1.1 := Option.some.inj (e1.symm.trans e2)
  subst e3
  exact kk q H1 ⟨hP, hD, hS⟩
theorem k_newz (hexec : p.tables.exec = Jvm.exec) (hb : c.code = cc) (harr : (Cond.arrayClass .boolean).before args s = true) (hK : va_K g.1 vwCl (gTys g) s) (hA : ∀ q, H0.size ≤ q → A q) (hI : CI g ws A H0 H locs) {n : Int32} {N' : Nat} (hn : ¬ n < 0) (hN : n.toNatClampNeg = N') (hbytes : N' * 1 ≤ 536870912) (hcells : cells + 1 ≤ R.cells) (hslots : slots + N' ≤ R.slots) (hdg : decode cc pc = .ok (.newarray .boolean, 2))
    (kk : ∀ (q : Nat) (H1 : Heap), CI g (ws ++ [(q, zB g N')]) A H0 H1 locs → W p l e R s m args below meth c H1 locs (cells + 1) (slots + N') Q (F0 m (pc + 2) ls (.ref q :: rest))) : W p l e R s m args below meth c H locs cells slots Q (F0 m pc ls (.int n :: rest)) := by
  refine va_newa (D := g.1) (atype := .boolean) (ty := .boolean) (a0 := (N', .inl (fun _ => 0))) hexec hb harr rfl hK hI.1 hI.2.1 hI.2.2 hA (fun _ => rfl) hn hN hbytes hcells hslots hdg (fun q cA H1 hK1 hP hD hS => ?_)
  have e1 : s.vm.findClass ("[" ++ FieldType.boolean.toString) = some cA := (hK1.2 5 (cA, .boolean) rfl).2
  have e2 : s.vm.findClass ("[" ++ FieldType.boolean.toString) = some g.2.1.2.1 := (hK.2 1 (g.2.1.2.1, .boolean) rfl).2
  have e3 : cA = g.2.1.2.1 := Option.some.inj (e1.symm.trans e2)
  subst e3
  exact kk q H1 ⟨hP, hD, hS⟩
theorem k_newq (hexec : p.tables.exec = Jvm.exec) (hb : c.code = cc) {own C : String} {index t : Nat} {cG : ClassId} (hown : s.vm.findClass own = some m.cls) (hclink : (Cond.classLink own index C).before args s = true) (hover : va_AO C s) (hK : va_K g.1 vwCl (gTys g) s) (ht : (gTys g)[t]? = some (cG, .object C)) (hA : ∀ q, H0.size ≤ q → A q) (hI : CI g ws A H0 H locs) {n : Int32} {N' : Nat} (hn : ¬ n < 0) (hN : n.toNatClampNeg = N') (hbytes : N' * 4 ≤ 536870912) (hcells : cells + 1 ≤ R.cells) (hslots : slots + N' ≤ R.slots) (hdg : decode cc pc = .ok (.anewarray index, 3))
    (kk : ∀ (q : Nat) (H1 : Heap), CI g (ws ++ [(q, rA cG N' (fun _ => none))]) A H0 H1 locs → W p l e R s m args below meth c H1 locs (cells + 1) (slots + N') Q (F0 m (pc + 3) ls (.ref q :: rest))) : W p l e R s m args below meth c H locs cells slots Q (F0 m pc ls (.int n :: rest)) := by
  refine va_newq (D := g.1) hexec hb hown hclink hover hK hI.1 hI.2.1 hI.2.2 hA hn hN hbytes hcells hslots hdg (fun q cA H1 hK1 hP hD hS => ?_)
  obtain ⟨_, _, _, _, _, e1⟩ : va_RA s cA (.object C) := (hK1.2 5 (cA, .object C) rfl).2
  obtain ⟨_, _, _, _, _, e2⟩ : va_RA s cG (.object C) := (hK.2 t (cG, .object C) ht).2
  have e3 : cA = cG := Option.some.inj (e1.symm.trans e2)
  subst e3
  exact kk q H1 ⟨hP, hD, hS⟩
theorem k_new (hexec : p.tables.exec = Jvm.exec) (hb : c.code = cc) {own C : String} {T : u_T} {N ci index : Nat} {Ts : List Cond} (hts : ∀ w ∈ Ts, w.before args s = true) (hin : ∀ w ∈ u_ws C T N, w ∈ Ts) (ty : Nat → FieldType) (hty : ∀ k, k < N → parseFieldDescriptor (T k).2.2.1 = some (ty k)) (hown : s.vm.findClass own = some m.cls) (hcl : (Cond.classLink own index C).before args s = true) (hinst : (Cond.instantiable C N).before args s = true) (hini : (Cond.initialized C).before args s = true)
    (hK : va_K g.1 vwCl (gTys g) s) (hA : ∀ q, H0.size ≤ q → A q) (hI : CI g ws A H0 H locs) (hc : vwCl[ci]? = some (C, T, N)) {fs : List Value} (hfs : ∀ j, j < N → defaultValue (ty j) = vp_V fs j) (hcells : cells + 1 ≤ R.cells) (hslots : slots + N ≤ R.slots) (hdg : decode cc pc = .ok (.new index, 3))
    (kk : ∀ (q : Nat) (H1 : Heap), CI g (ws ++ [(q, .inr (ci, fs))]) A H0 H1 locs → W p l e R s m args below meth c H1 locs (cells + 1) (slots + N) Q (F0 m (pc + 3) ls (.ref q :: rest))) : W p l e R s m args below meth c H locs cells slots Q (F0 m pc ls rest) :=
  va_new (D := g.1) hexec hb hts hin ty hty hown hcl hinst hini hK hI.1 hI.2.1 hI.2.2 hA hc hfs hcells hslots hdg (fun q H1 hP hD hS => kk q H1 ⟨hP, hD, hS⟩)
theorem k_pre {q : Nat} {en : va_E} (hK : va_K g.1 vwCl (gTys g) s) (hO : AO3 s) (hI : CI g (ws ++ [(q, en)]) A H0 H locs) : PreS s H (va_Pc [.ref q] (CPre g [(q, en)] H.size)) (.ref q :: []) :=
  ⟨CPre_blind, fun U hU hW => ⟨rfl, by rw [hU], by rw [hU]; exact P_app_r hI.1, va_K.moved hW.alike hK, (D_app_r hI.2.1).weaken (fun _ _ _ _ => trivial), hO.moved hW⟩⟩
/-- behind a constructor: what it has made stands in place of the last cell -/
theorem k_init {q : Nat} {en : va_E} {st0 : List Value} {a : Array Value} {Sh : va_W → Prop} {mc ms : Nat} (hA : ∀ q, H0.size ≤ q → A q) (hI : CI g (ws ++ [(q, en)]) A H0 H locs) (hr : va_Run p l e R s m args below meth c H locs cells slots mc ms (F0 m pc ls st0) rest (va_Qv Sh (CPost g (va_A [(q, en)] H.size)) (va_A [(q, en)] H.size) a) (va_A [(q, en)] H.size))
    (kk : ∀ (w1 : va_W) (H1 : Heap) (locs1 : List Loc), Sh w1 → CI g (ws ++ w1) A H0 H1 locs1 → W p l e R s m args below meth c H1 locs1 (cells + mc) (slots + ms) Q (F0 m (pc + 3) ls rest)) : W p l e R s m args below meth c H locs cells slots Q (F0 m pc ls st0) := by
  have free : ∀ x, va_A [(q, en)] H.size x → A x := by
    intro x hx
    rcases hx with ⟨k, ee, hk⟩ | hx
    · exact (D_app_r hI.2.1).2 k (x, ee) hk
    · exact hA x (Nat.le_trans hI.2.2.1 hx)
  refine va_callv hr hI.2.2 (fun x _ h => free x h) free (fun u t H1 locs1 ht _ hp hB _ hk hS => kk u H1 locs1 hp ⟨?_, ?_, hS⟩)
  · have hP1 : va_P g.1 vwCl u H1 := by rw [← ht]; exact hB.1
    refine va_P.app (fun i x hi => (P_app_l hI.1 i x hi).kept (hk x.1 (P_app_l hI.1 i x hi).lt (fun z => ?_))) hP1
    rcases z with ⟨k, ee, hz⟩ | hz
    · exact D_app_x hI.2.1 hi hz rfl
    · have := (P_app_l hI.1 i x hi).lt
      omega
  · refine va_D.app (D_app_l hI.2.1) (hB.2.weaken (fun _ y _ h => free y.1 h)) (fun i j x y hi hj exy => ?_)
    rcases hB.2.2 j y hj with ⟨k, ee, hz⟩ | hz
    · exact D_app_x hI.2.1 hi hz exy
    · have := (P_app_l hI.1 i x hi).lt
      omega
theorem k_put (hexec : p.tables.exec = Jvm.exec) (hb : c.code = cc) {own C ref : String} {T : u_T} {N ci index : Nat} {Ts : List Cond} (hts : ∀ w ∈ Ts, w.before args s = true) (hin : ∀ w ∈ u_ws C T N, w ∈ Ts) (ty0 : Nat → FieldType) (hty : ∀ k, k < N → parseFieldDescriptor (T k).2.2.1 = some (ty0 k)) (hnm : ∀ a, a < N → ∀ b, b < N → a ≠ b → (T a).2.1 ≠ (T b).2.1) (hown : s.vm.findClass own = some m.cls) (hK : va_K g.1 vwCl (gTys g) s) {h0 : Nat} {fs : List Value} {tl : va_W} (hI : CI g ((h0, .inr (ci, fs)) :: tl) A H0 H locs) (hc : vwCl[ci]? = some (C, T, N)) (k : Nat) (hk : k < N) (hlink : (Cond.fieldLink own index ref (T k).2.1 (T k).2.2.1).before args s = true) (hsame : ∀ x, s.fieldFound? (T k).1 (T k).2.1 (T k).2.2.1 = some x → s.fieldFound? ref (T k).2.1 (T k).2.2.1 = some x) (hfin : (T k).2.2.2 = false) {ty : FieldType} {v : Value} (hd : parseFieldDescriptor (T k).2.2.1 = some ty) (hn : narrow ty v = v) (hfit : fits ty v = true) (hl : k < fs.length) (hdg : decode cc pc = .ok (.putfield index, 3))
    (kk : ∀ (H1 : Heap) (locs1 : List Loc), CI g ((h0, .inr (ci, fs.set k v)) :: tl) A H0 H1 locs1 → W p l e R s m args below meth c H1 locs1 cells slots Q (F0 m (pc + 3) ls rest)) : W p l e R s m args below meth c H locs cells slots Q (F0 m pc ls (v :: .ref h0 :: rest)) :=
  va_put (D := g.1) hexec hb hts hin ty0 hty hnm hown hK hI.1 hI.2.1 hI.2.2 0 rfl hc k hk hlink hsame hfin hd hn hfit hl hdg (fun H1 locs1 hP hD hS => kk H1 locs1 ⟨hP, hD, hS⟩)
theorem k_putF (hexec : p.tables.exec = Jvm.exec) (hb : c.code = cc) {own C ref : String} {T : u_T} {N ci index : Nat} {Ts : List Cond} (hts : ∀ w ∈ Ts, w.before args s = true) (hin : ∀ w ∈ u_ws C T N, w ∈ Ts) (ty0 : Nat → FieldType) (hty : ∀ k, k < N → parseFieldDescriptor (T k).2.2.1 = some (ty0 k)) (hnm : ∀ a, a < N → ∀ b, b < N → a ≠ b → (T a).2.1 ≠ (T b).2.1) (hown : s.vm.findClass own = some m.cls) (hK : va_K g.1 vwCl (gTys g) s) {h0 : Nat} {fs : List Value} {tl : va_W} (hI : CI g ((h0, .inr (ci, fs)) :: tl) A H0 H locs) (hc : vwCl[ci]? = some (C, T, N)) (k : Nat) (hk : k < N) (hlink : (Cond.fieldLink own index ref (T k).2.1 (T k).2.2.1).before args s = true) (hsame : ∀ x, s.fieldFound? (T k).1 (T k).2.1 (T k).2.2.1 = some x → s.fieldFound? ref (T k).2.1 (T k).2.2.1 = some x) (hfin : (T k).2.2.2 = true) (hin2 : meth.name = "<init>") (hdecl : (T k).1 = own) {ty : FieldType} {v : Value} (hd : parseFieldDescriptor (T k).2.2.1 = some ty) (hn : narrow ty v = v) (hfit : fits ty v = true) (hl : k < fs.length) (hdg : decode cc pc = .ok (.putfield index, 3))
    (kk : ∀ (H1 : Heap) (locs1 : List Loc), CI g ((h0, .inr (ci, fs.set k v)) :: tl) A H0 H1 locs1 → W p l e R s m args below meth c H1 locs1 cells slots Q (F0 m (pc + 3) ls rest)) : W p l e R s m args below meth c H locs cells slots Q (F0 m pc ls (v :: .ref h0 :: rest)) :=
  va_putF (D := g.1) hexec hb hts hin ty0 hty hnm hown hK hI.1 hI.2.1 hI.2.2 0 rfl hc k hk hlink hsame hfin hin2 hdecl hd hn hfit hl hdg (fun H1 locs1 hP hD hS => kk H1 locs1 ⟨hP, hD, hS⟩)
theorem k_ias1 (hexec : p.tables.exec = Jvm.exec) (hb : c.code = cc) (hK : va_K g.1 vwCl (gTys g) s) {o : Nat × va_E} {a N : Nat} {f : Nat → Int32} {tl : va_W} (hI : CI g (o :: (a, .inl (g.2.1.1, N, .inl f)) :: tl) A H0 H locs) {i x : Int32} (hin : vp_in i N) (hdg : decode cc pc = .ok (.iastore, 1))
    (kk : ∀ (H1 : Heap) (locs1 : List Loc), CI g (o :: (a, .inl (g.2.1.1, N, .inl (upd f i.toNatClampNeg x))) :: tl) A H0 H1 locs1 → W p l e R s m args below meth c H1 locs1 cells slots Q (F0 m (pc + 1) ls rest)) : W p l e R s m args below meth c H locs cells slots Q (F0 m pc ls (.int x :: .int i :: .ref a :: rest)) :=
  va_iast (D := g.1) hexec hb hK hI.1 hI.2.1 hI.2.2 1 0 rfl rfl hin hdg (fun H1 locs1 hP hD hS => kk H1 locs1 ⟨hP, hD, hS⟩)
theorem k_ast1 (hexec : p.tables.exec = Jvm.exec) (hb : c.code = cc) (hK : va_K g.1 vwCl (gTys g) s) {o : Nat × va_E} {a N v ci t0 : Nat} {cG : ClassId} {r : vw_C} {f : Nat → Option Nat} {vs : List Value} {tl wt : va_W} (hI : CI g (o :: (a, rA cG N f) :: (tl ++ ((v, .inr (ci, vs)) :: wt))) A H0 H locs) (ht : (gTys g)[t0]? = some (cG, .object r.1)) (hc : vwCl[ci]? = some r) {i : Int32} (hin : vp_in i N) (hdg : decode cc pc = .ok (.aastore, 1))
    (kk : ∀ (H1 : Heap) (locs1 : List Loc), CI g (o :: (a, rA cG N (va_up f i.toNatClampNeg (some v))) :: (tl ++ ((v, .inr (ci, vs)) :: wt))) A H0 H1 locs1 → W p l e R s m args below meth c H1 locs1 cells slots Q (F0 m (pc + 1) ls rest)) : W p l e R s m args below meth c H locs cells slots Q (F0 m pc ls (.ref v :: .int i :: .ref a :: rest)) :=
  va_astq (D := g.1) hexec hb hK hI.1 hI.2.1 hI.2.2 1 t0 (tl.length + 2) ci rfl ht (by
    show (tl ++ ((v, .inr (ci, vs)) :: wt))[tl.length]? = _
    rw [List.getElem?_append_right (Nat.le_refl _), Nat.sub_self]
    rfl) hc hin hdg (fun H1 locs1 hP hD hS => kk H1 locs1 ⟨hP, hD, hS⟩)
theorem k_ast2 (hexec : p.tables.exec = Jvm.exec) (hb : c.code = cc) (hK : va_K g.1 vwCl (gTys g) s) {o o2 : Nat × va_E} {a N v ci t0 : Nat} {cG : ClassId} {r : vw_C} {f : Nat → Option Nat} {vs : List Value} {tl wt : va_W} (hI : CI g (o :: o2 :: (a, rA cG N f) :: (tl ++ ((v, .inr (ci, vs)) :: wt))) A H0 H locs) (ht : (gTys g)[t0]? = some (cG, .object r.1)) (hc : vwCl[ci]? = some r) {i : Int32} (hin : vp_in i N) (hdg : decode cc pc = .ok (.aastore, 1))
    (kk : ∀ (H1 : Heap) (locs1 : List Loc), CI g (o :: o2 :: (a, rA cG N (va_up f i.toNatClampNeg (some v))) :: (tl ++ ((v, .inr (ci, vs)) :: wt))) A H0 H1 locs1 → W p l e R s m args below meth c H1 locs1 cells slots Q (F0 m (pc + 1) ls rest)) : W p l e R s m args below meth c H locs cells slots Q (F0 m pc ls (.ref v :: .int i :: .ref a :: rest)) :=
  va_astq (D := g.1) hexec hb hK hI.1 hI.2.1 hI.2.2 2 t0 (tl.length + 3) ci rfl ht (by
    show (tl ++ ((v, .inr (ci, vs)) :: wt))[tl.length]? = _
    rw [List.getElem?_append_right (Nat.le_refl _), Nat.sub_self]
    rfl) hc hin hdg (fun H1 locs1 hP hD hS => kk H1 locs1 ⟨hP, hD, hS⟩)
theorem k_get (hexec : p.tables.exec = Jvm.exec) (hb : c.code = cc) {own C ref : String} {T : u_T} {N ci index : Nat} {Ts : List Cond} (hts : ∀ w ∈ Ts, w.before args s = true) (hin : ∀ w ∈ u_ws C T N, w ∈ Ts) (hown : s.vm.findClass own = some m.cls) (hK : va_K g.1 vwCl (gTys g) s) {h0 : Nat} {fs : List Value} {tl : va_W} (hI : CI g ((h0, .inr (ci, fs)) :: tl) A H0 H locs) (hc : vwCl[ci]? = some (C, T, N)) (k : Nat) (hk : k < N) (hlink : (Cond.fieldLink own index ref (T k).2.1 (T k).2.2.1).before args s = true) (hsame : ∀ x, s.fieldFound? (T k).1 (T k).2.1 (T k).2.2.1 = some x → s.fieldFound? ref (T k).2.1 (T k).2.2.1 = some x) {v : Value} (hv : fs[k]? = some v) (hdg : decode cc pc = .ok (.getfield index, 3))
    (kk : W p l e R s m args below meth c H locs cells slots Q (F0 m (pc + 3) ls (v :: rest))) : W p l e R s m args below meth c H locs cells slots Q (F0 m pc ls (.ref h0 :: rest)) :=
  va_get (D := g.1) hexec hb hts hin hown hK hI.1 0 rfl hc k hk hlink hsame hv hdg kk
end CT
theorem arrV_cg {cI : ClassId} {N : Nat} {f f' : Nat → Value} (h : ∀ j, j < N → f j = f' j) : arrV cI N f = arrV cI N f' := by
  unfold arrV
  congr 1
  congr 1
  funext j
  exact h j.val j.isLt
theorem rA_at {g : GP} {cl : ClassId} {a N : Nat} {f f' : Nat → Option Nat} {H : Heap} (hf : ∀ j, j < N → f j = f' j) (h : va_at g.1 vwCl (a, rA cl N f) H) : va_at g.1 vwCl (a, rA cl N f') H := by
  have h1 : H[a]? = some (arrV cl N (fun j => va_rf (f j))) := h
  show H[a]? = some (arrV cl N (fun j => va_rf (f' j)))
  rw [h1, arrV_cg (fun j hj => by rw [hf j hj])]
-- pools
def pl (k : Nat) (P : Nat → va_W) : va_W := (List.range k).flatMap P
theorem pl_0 (P : Nat → va_W) : pl 0 P = [] := rfl
theorem pl_s (k : Nat) (P : Nat → va_W) : pl (k + 1) P = pl k P ++ P k := by
  unfold pl
  rw [List.range_succ, List.flatMap_append]
  simp
theorem pl_cg {P P' : Nat → va_W} : ∀ k, (∀ j, j < k → P j = P' j) → pl k P = pl k P'
  | 0, _ => rfl
  | k + 1, h => by rw [pl_s, pl_s, pl_cg k (fun j hj => h j (by omega)), h k (by omega)]
def upP {α : Type} (P : Nat → α) (k : Nat) (w : α) : Nat → α := fun j => if j = k then w else P j
theorem upP_s {α : Type} {P : Nat → α} {k : Nat} {w : α} : upP P k w k = w := by simp [upP]
theorem upP_n {α : Type} {P : Nat → α} {k j : Nat} {w : α} (h : j ≠ k) : upP P k w j = P j := by simp [upP, h]
theorem pl_up (k : Nat) (P : Nat → va_W) (w : va_W) : pl (k + 1) (upP P k w) = pl k P ++ w := by
  rw [pl_s, upP_s, pl_cg k (fun j hj => upP_n (by omega))]
theorem CI_rA1 {g : GP} {o : Nat × va_E} {a N : Nat} {cG : ClassId} {f f' : Nat → Option Nat} {tl : va_W} {A : Nat → Prop} {H0 H : Heap} {locs : List Loc} (hI : CI g (o :: (a, rA cG N f) :: tl) A H0 H locs) (hf : ∀ j, j < N → f j = f' j) : CI g (o :: (a, rA cG N f') :: tl) A H0 H locs := by
  obtain ⟨hP, hD, hS⟩ := hI
  have hD' : va_D A ((o :: (a, rA cG N f) :: tl).set 1 (a, rA cG N f')) := hD.set rfl
  refine ⟨fun k q hk => ?_, hD', hS⟩
  match k, hk with
  | 0, hk => exact hP 0 q hk
  | 1, hk =>
    have e : q = (a, rA cG N f') := (Option.some.inj hk).symm
    rw [e]
    exact rA_at hf (hP 1 _ rfl)
  | k + 2, hk => exact hP (k + 2) q hk
theorem CI_rA2 {g : GP} {o o2 : Nat × va_E} {a N : Nat} {cG : ClassId} {f f' : Nat → Option Nat} {tl : va_W} {A : Nat → Prop} {H0 H : Heap} {locs : List Loc} (hI : CI g (o :: o2 :: (a, rA cG N f) :: tl) A H0 H locs) (hf : ∀ j, j < N → f j = f' j) : CI g (o :: o2 :: (a, rA cG N f') :: tl) A H0 H locs := by
  obtain ⟨hP, hD, hS⟩ := hI
  have hD' : va_D A ((o :: o2 :: (a, rA cG N f) :: tl).set 2 (a, rA cG N f')) := hD.set rfl
  refine ⟨fun k q hk => ?_, hD', hS⟩
  match k, hk with
  | 0, hk => exact hP 0 q hk
  | 1, hk => exact hP 1 q hk
  | 2, hk =>
    have e : q = (a, rA cG N f') := (Option.some.inj hk).symm
    rw [e]
    exact rA_at hf (hP 2 _ rfl)
  | k + 3, hk => exact hP (k + 3) q hk
