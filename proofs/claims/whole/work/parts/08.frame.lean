/-! the worlds: cells by number, what they hold by a function of cell and place -/
abbrev VT : Type := Nat → Nat → Int32
abbrev GP : Type := va_G × (ClassId × ClassId × ClassId × ClassId × ClassId) × (Nat × Nat × Nat)
def gTys (g : GP) : List (ClassId × FieldType) := [(g.2.1.1, .int), (g.2.1.2.1, .boolean), (g.2.1.2.2.1, .object "HoopLane$Hoop"), (g.2.1.2.2.2.1, .object "HoopLane$Lane"), (g.2.1.2.2.2.2, .object "HoopLane$Row")]
def stA (g : GP) (q : Nat) : Nat := match q with
  | 0 => g.2.2.1
  | 1 => g.2.2.2.1
  | _ => g.2.2.2.2
def stF (q : Nat) : Nat → Int32 := match q with
  | 0 => fun j => nI (([102, 100, 117, 114, 115, 119] : List Nat).getD j 0)
  | 1 => fun j => nI (([118, 105, 111, 98, 116] : List Nat).getD j 0)
  | _ => fun j => Int32.ofInt (([-1, 0, 1, 1, 0, 4] : List Int).getD j 0)
def stN (q : Nat) : Nat := match q with
  | 0 => 6
  | 1 => 5
  | _ => 6
def up2 (V : VT) (k j : Nat) (x : Int32) : VT := fun a b => if a = k ∧ b = j then x else V a b
def upc (V : VT) (k : Nat) (f : Nat → Int32) : VT := fun a => if a = k then f else V a
theorem up2_ne {V : VT} {k j : Nat} {x : Int32} {a : Nat} (h : a ≠ k) : up2 V k j x a = V a := by
  funext b; simp [up2, h]
theorem up2_self {V : VT} {k j : Nat} {x : Int32} : up2 V k j x k j = x := by simp [up2]
theorem up2_selfn {V : VT} {k j b : Nat} {x : Int32} (h : b ≠ j) : up2 V k j x k b = V k b := by simp [up2, h]
theorem up2_upd {V : VT} {k j : Nat} {x : Int32} : up2 V k j x k = upd (V k) j x := by
  funext b; simp [up2, upd]
theorem upc_ne {V : VT} {k : Nat} {f : Nat → Int32} {a : Nat} (h : a ≠ k) : upc V k f a = V a := by simp [upc, h]
theorem upc_self {V : VT} {k : Nat} {f : Nat → Int32} : upc V k f k = f := by simp [upc]
def wW (N : Nat) (cf : VT → Nat → va_E) (ad : Nat → Nat) (V : VT) : va_W := (List.range N).map (fun k => (ad k, cf V k))
theorem wW_get {N : Nat} {cf : VT → Nat → va_E} {ad : Nat → Nat} {V : VT} {k : Nat} (h : k < N) : (wW N cf ad V)[k]? = some (ad k, cf V k) := by
  simp [wW, h]
theorem wW_at {N : Nat} {cf : VT → Nat → va_E} {ad : Nat → Nat} {V : VT} {k : Nat} {q : Nat × va_E} (h : (wW N cf ad V)[k]? = some q) : k < N ∧ q = (ad k, cf V k) := by
  have hl : k < N := by
    have := (List.getElem?_eq_some_iff.mp h).1
    simpa [wW] using this
  rw [wW_get hl] at h
  exact ⟨hl, (Option.some.inj h).symm⟩
def loc (cf : VT → Nat → va_E) : Prop := ∀ (V V' : VT) (k : Nat), V k = V' k → cf V k = cf V' k
theorem wW_set {N : Nat} {cf : VT → Nat → va_E} {ad : Nat → Nat} {V V' : VT} {k : Nat} {e : va_E} (hl : loc cf) (hk : k < N) (hV : ∀ a, a ≠ k → V a = V' a) (he : e = cf V' k) : (wW N cf ad V).set k (ad k, e) = wW N cf ad V' := by
  apply List.ext_getElem?
  intro i
  by_cases hi : i = k
  · subst hi
    rw [List.getElem?_set_self (by simpa [wW] using hk), wW_get hk, he]
  · rw [List.getElem?_set_ne (Ne.symm hi)]
    by_cases hn : i < N
    · rw [wW_get hn, wW_get hn, hl V V' i (hV i hi)]
    · rw [List.getElem?_eq_none (by simp [wW]; omega), List.getElem?_eq_none (by simp [wW]; omega)]
theorem wW_D {A : Nat → Prop} {N : Nat} {cf cf' : VT → Nat → va_E} {ad : Nat → Nat} {V V' : VT} (h : va_D A (wW N cf ad V)) : va_D A (wW N cf' ad V') := by
  refine ⟨fun i j x y hi hj hxy => ?_, fun k q hk => ?_⟩
  · obtain ⟨h1, rfl⟩ := wW_at hi
    obtain ⟨h2, rfl⟩ := wW_at hj
    exact h.1 i j _ _ (wW_get h1) (wW_get h2) hxy
  · obtain ⟨h1, rfl⟩ := wW_at hk
    exact h.2 k (ad k, cf V k) (wW_get h1)
def AW (ad : Nat → Nat) (N sz : Nat) : Nat → Prop := fun q => (∃ k, k < N ∧ q = ad k) ∨ sz ≤ q
theorem AW_le {ad : Nat → Nat} {N sz sz' : Nat} (h : sz ≤ sz') : ∀ q, AW ad N sz' q → AW ad N sz q := fun q hq => hq.elim Or.inl (fun h2 => Or.inr (Nat.le_trans h h2))
def nestL : List (String × Nat × MethodName × String) := [(RX1, 58, yX7_isOfKind, RX7), (RX2, 53, yX7_isOut, RX7), (RX3, 54, yX7_isOut, RX7), (RX4, 90, yX7_isOut, RX7), (RX6, 97, yX7_isOut, RX7)]
def EX (g : GP) (A : Nat → Prop) (U : State) (H : Heap) : Prop :=
  (∀ q ∈ nestL, va_Nw (.methodLinkNest q.1 q.2.1 q.2.2.1 q.2.2.2) U) ∧
  (va_Z "HoopLane$Tape" "GROUNDS" "[C" (.ref (stA g 0)) A U H ∧ va_T .char (stA g 0) (stN 0) (fun j => .int (stF 0 j)) A U H) ∧
  (va_Z "HoopLane$Tape" "SORTS" "[C" (.ref (stA g 1)) A U H ∧ va_T .char (stA g 1) (stN 1) (fun j => .int (stF 1 j)) A U H) ∧
  (va_Z "HoopLane" "NEAREST" "[I" (.ref (stA g 2)) A U H ∧ va_T .int (stA g 2) (stN 2) (fun j => .int (stF 2 j)) A U H)
theorem EX.move {g : GP} {A B : Nat → Prop} {s U : State} {H0 H : Heap} (h : EX g A s H0) (hq : ∀ a : Nat, a < H0.size → ¬ A a → H[a]? = H0[a]?) (hW : s.WarmedH U.vm) (hAB : ∀ q, B q → A q) : EX g B U H := by
  obtain ⟨h0, ⟨z0, t0⟩, ⟨z1, t1⟩, ⟨z2, t2⟩⟩ := h
  exact ⟨fun q hm => va_Nw.warmM hW (h0 q hm),
    ⟨((z0.kept hq).narrow hAB).moved hW.alike, ((t0.kept hq).narrow hAB).moved hW.alike⟩,
    ⟨((z1.kept hq).narrow hAB).moved hW.alike, ((t1.kept hq).narrow hAB).moved hW.alike⟩,
    ⟨((z2.kept hq).narrow hAB).moved hW.alike, ((t2.kept hq).narrow hAB).moved hW.alike⟩⟩
def WPre (N : Nat) (cf : VT → Nat → va_E) (ad : Nat → Nat) (g : GP) (V : VT) (sz : Nat) (U : State) : Prop :=
  U.heap.size = sz ∧ va_P g.1 vwCl (wW N cf ad V) U.heap ∧ va_K g.1 vwCl (gTys g) U ∧ va_D (fun _ => True) (wW N cf ad V) ∧ EX g (AW ad N sz) U U.heap
theorem WPre_blind {N : Nat} {cf : VT → Nat → va_E} {ad : Nat → Nat} {g : GP} {V : VT} {sz : Nat} {av : List Value} : FrameBlind (va_Pc av (WPre N cf ad g V sz)) := by
  intro a U gg mk q
  obtain ⟨q0, q1, qP, qK, qD, qE⟩ := q
  refine ⟨q0, q1, qP, va_K.moved (u := U) (U := U.calling gg mk a) (Vm.Alike.refl U.vm) qK, qD, ?_⟩
  obtain ⟨h0, ⟨z0, t0⟩, ⟨z1, t1⟩, ⟨z2, t2⟩⟩ := qE
  have hA : U.vm.Alike (U.calling gg mk a).vm := Vm.Alike.refl U.vm
  exact ⟨fun q hm => va_Nw.same rfl rfl (h0 q hm), ⟨z0.moved hA, t0.moved hA⟩, ⟨z1.moved hA, t1.moved hA⟩, ⟨z2.moved hA, t2.moved hA⟩⟩
def WPost (N : Nat) (cf : VT → Nat → va_E) (ad : Nat → Nat) (g : GP) (V : VT) (t : State) : Prop := va_P g.1 vwCl (wW N cf ad V) t.heap
def WI (g : GP) (N : Nat) (cf : VT → Nat → va_E) (ad : Nat → Nat) (V : VT) (H0 H : Heap) (locs : List Loc) : Prop :=
  va_P g.1 vwCl (wW N cf ad V) H ∧ va_D (AW ad N H0.size) (wW N cf ad V) ∧ va_S (AW ad N H0.size) H0 H locs
theorem WI.start {g : GP} {N : Nat} {cf : VT → Nat → va_E} {ad : Nat → Nat} {V : VT} {sz : Nat} {U : State} (h : WPre N cf ad g V sz U) : WI g N cf ad V U.heap U.heap [] := by
  obtain ⟨-, hP, -, hD, -⟩ := h
  refine ⟨hP, ⟨hD.1, fun k q hk => ?_⟩, va_S.rf⟩
  obtain ⟨h1, rfl⟩ := wW_at hk
  exact Or.inl ⟨k, h1, rfl⟩
section FRAME
variable {p : Program} {l : Launch} {e : Env} {R : Room} {s : State} {m : MethodId} {args : Array Value} {below : List Frame} {meth : Method} {c : Code} {H : Heap} {locs : List Loc} {cells slots : Nat} {Q : State → Prop}
variable {cc : ByteArray} {pc : Nat} {ls : Array Slot} {rest : List Value} {g : GP} {N : Nat} {cf : VT → Nat → va_E} {ad : Nat → Nat} {V : VT}
theorem x_get (hexec : p.tables.exec = Jvm.exec) (hb : c.code = cc) {own ref C : String} {T : u_T} {Nf ci index : Nat} {Ts : List Cond} (hts : ∀ w ∈ Ts, w.before args s = true) (hin : ∀ w ∈ u_ws C T Nf, w ∈ Ts) (hown : s.vm.findClass own = some m.cls) (hK : va_K g.1 vwCl (gTys g) s) (hI : WI g N cf ad V s.heap H locs) {k : Nat} (hk : k < N) {fs : List Value} (he : cf V k = .inr (ci, fs)) (hc : vwCl[ci]? = some (C, T, Nf)) (j : Nat) (hj : j < Nf) (hlink : (Cond.fieldLink own index ref (T j).2.1 (T j).2.2.1).before args s = true) (hsame : ∀ x, s.fieldFound? (T j).1 (T j).2.1 (T j).2.2.1 = some x → s.fieldFound? ref (T j).2.1 (T j).2.2.1 = some x) {v : Value} (hv : fs[j]? = some v) (hdg : decode cc pc = .ok (.getfield index, 3))
    (kk : W p l e R s m args below meth c H locs cells slots Q (F0 m (pc + 3) ls (v :: rest))) : W p l e R s m args below meth c H locs cells slots Q (F0 m pc ls (.ref (ad k) :: rest)) :=
  va_get (D := g.1) hexec hb hts hin hown hK hI.1 k ((wW_get hk).trans (by rw [he])) hc j hj hlink hsame hv hdg kk
theorem x_put (hexec : p.tables.exec = Jvm.exec) (hb : c.code = cc) {own ref C : String} {T : u_T} {Nf ci index : Nat} {Ts : List Cond} (hts : ∀ w ∈ Ts, w.before args s = true) (hin : ∀ w ∈ u_ws C T Nf, w ∈ Ts) (ty0 : Nat → FieldType) (hty : ∀ k, k < Nf → parseFieldDescriptor (T k).2.2.1 = some (ty0 k)) (hnm : ∀ a, a < Nf → ∀ b, b < Nf → a ≠ b → (T a).2.1 ≠ (T b).2.1) (hown : s.vm.findClass own = some m.cls) (hK : va_K g.1 vwCl (gTys g) s) (hI : WI g N cf ad V s.heap H locs) (hlo : loc cf) {k : Nat} (hk : k < N) {fs : List Value} (he : cf V k = .inr (ci, fs)) (hc : vwCl[ci]? = some (C, T, Nf)) (j : Nat) (hj : j < Nf) (hlink : (Cond.fieldLink own index ref (T j).2.1 (T j).2.2.1).before args s = true) (hsame : ∀ x, s.fieldFound? (T j).1 (T j).2.1 (T j).2.2.1 = some x → s.fieldFound? ref (T j).2.1 (T j).2.2.1 = some x) (hfin : (T j).2.2.2 = false) {ty : FieldType} {v : Int32} (hd : parseFieldDescriptor (T j).2.2.1 = some ty) (hn : narrow ty (.int v) = .int v) (hfit : fits ty (.int v) = true) (hl : j < fs.length)
    (he2 : .inr (ci, fs.set j (.int v)) = cf (up2 V k j v) k) (hdg : decode cc pc = .ok (.putfield index, 3))
    (kk : ∀ (H1 : Heap) (locs1 : List Loc), WI g N cf ad (up2 V k j v) s.heap H1 locs1 → W p l e R s m args below meth c H1 locs1 cells slots Q (F0 m (pc + 3) ls rest)) : W p l e R s m args below meth c H locs cells slots Q (F0 m pc ls (.int v :: .ref (ad k) :: rest)) := by
  refine va_put (D := g.1) hexec hb hts hin ty0 hty hnm hown hK hI.1 hI.2.1 hI.2.2 k ((wW_get hk).trans (by rw [he])) hc j hj hlink hsame hfin hd hn hfit hl hdg (fun H1 locs1 hP hD hS => ?_)
  rw [wW_set hlo hk (fun a ha => (up2_ne ha).symm) he2] at hP hD
  exact kk H1 locs1 ⟨hP, hD, hS⟩
theorem x_iald (hexec : p.tables.exec = Jvm.exec) (hb : c.code = cc) (hK : va_K g.1 vwCl (gTys g) s) (hI : WI g N cf ad V s.heap H locs) {k n : Nat} (hk : k < N) {f : Nat → Int32} (he : cf V k = .inl (g.2.1.1, n, .inl f)) {i : Int32} (hin : vp_in i n) (hdg : decode cc pc = .ok (.iaload, 1))
    (kk : W p l e R s m args below meth c H locs cells slots Q (F0 m (pc + 1) ls (.int (f i.toNatClampNeg) :: rest))) : W p l e R s m args below meth c H locs cells slots Q (F0 m pc ls (.int i :: .ref (ad k) :: rest)) :=
  va_iald (D := g.1) hexec hb hK hI.1 k 0 ((wW_get hk).trans (by rw [he])) rfl hin hdg kk
theorem x_zald (hexec : p.tables.exec = Jvm.exec) (hb : c.code = cc) (hK : va_K g.1 vwCl (gTys g) s) (hI : WI g N cf ad V s.heap H locs) {k n : Nat} (hk : k < N) {f : Nat → Int32} (he : cf V k = .inl (g.2.1.2.1, n, .inl f)) {i : Int32} (hin : vp_in i n) (hdg : decode cc pc = .ok (.baload, 1))
    (kk : W p l e R s m args below meth c H locs cells slots Q (F0 m (pc + 1) ls (.int (f i.toNatClampNeg) :: rest))) : W p l e R s m args below meth c H locs cells slots Q (F0 m pc ls (.int i :: .ref (ad k) :: rest)) :=
  va_zald (D := g.1) hexec hb hK hI.1 k 1 ((wW_get hk).trans (by rw [he])) rfl hin hdg kk
theorem x_iast (hexec : p.tables.exec = Jvm.exec) (hb : c.code = cc) (hK : va_K g.1 vwCl (gTys g) s) (hI : WI g N cf ad V s.heap H locs) (hlo : loc cf) {k n : Nat} (hk : k < N) (he : ∀ V, cf V k = .inl (g.2.1.1, n, .inl (V k))) {i x : Int32} (hin : vp_in i n) (hdg : decode cc pc = .ok (.iastore, 1))
    (kk : ∀ (H1 : Heap) (locs1 : List Loc), WI g N cf ad (up2 V k i.toNatClampNeg x) s.heap H1 locs1 → W p l e R s m args below meth c H1 locs1 cells slots Q (F0 m (pc + 1) ls rest)) : W p l e R s m args below meth c H locs cells slots Q (F0 m pc ls (.int x :: .int i :: .ref (ad k) :: rest)) := by
  refine va_iast (D := g.1) hexec hb hK hI.1 hI.2.1 hI.2.2 k 0 ((wW_get hk).trans (by rw [he])) rfl hin hdg (fun H1 locs1 hP hD hS => ?_)
  rw [wW_set hlo hk (fun a ha => (up2_ne ha).symm) (by rw [he, up2_upd])] at hP hD
  exact kk H1 locs1 ⟨hP, hD, hS⟩
theorem x_zast (hexec : p.tables.exec = Jvm.exec) (hb : c.code = cc) (hK : va_K g.1 vwCl (gTys g) s) (hI : WI g N cf ad V s.heap H locs) (hlo : loc cf) {k n : Nat} (hk : k < N) (he : ∀ V, cf V k = .inl (g.2.1.2.1, n, .inl (V k))) {i x : Int32} (hx : vp_nar .boolean x = x) (hin : vp_in i n) (hdg : decode cc pc = .ok (.bastore, 1))
    (kk : ∀ (H1 : Heap) (locs1 : List Loc), WI g N cf ad (up2 V k i.toNatClampNeg x) s.heap H1 locs1 → W p l e R s m args below meth c H1 locs1 cells slots Q (F0 m (pc + 1) ls rest)) : W p l e R s m args below meth c H locs cells slots Q (F0 m pc ls (.int x :: .int i :: .ref (ad k) :: rest)) := by
  refine va_zast (D := g.1) hexec hb hK hI.1 hI.2.1 hI.2.2 k 1 ((wW_get hk).trans (by rw [he])) rfl hin hdg (fun H1 locs1 hP hD hS => ?_)
  rw [wW_set hlo hk (fun a ha => (up2_ne ha).symm) (by rw [he, up2_upd, hx])] at hP hD
  exact kk H1 locs1 ⟨hP, hD, hS⟩
theorem x_aald (hexec : p.tables.exec = Jvm.exec) (hb : c.code = cc) (hK : va_K g.1 vwCl (gTys g) s) (hI : WI g N cf ad V s.heap H locs) {k n : Nat} (hk : k < N) {cA : ClassId} {C : String} {f : Nat → Option Nat} (t0 : Nat) (ht : (gTys g)[t0]? = some (cA, .object C)) (he : cf V k = .inl (cA, n, .inr (.inr (.inr (.inr f))))) {i : Int32} (hin : vp_in i n) {q : Nat} (hq : f i.toNatClampNeg = some q) (hdg : decode cc pc = .ok (.aaload, 1))
    (kk : W p l e R s m args below meth c H locs cells slots Q (F0 m (pc + 1) ls (.ref q :: rest))) : W p l e R s m args below meth c H locs cells slots Q (F0 m pc ls (.int i :: .ref (ad k) :: rest)) :=
  va_aldq (D := g.1) hexec hb hK hI.1 k t0 ((wW_get hk).trans (by rw [he])) ht hin hdg (by rw [hq]; exact kk)
theorem x_alen (hexec : p.tables.exec = Jvm.exec) (hb : c.code = cc) (hK : va_K g.1 vwCl (gTys g) s) (hI : WI g N cf ad V s.heap H locs) {k n : Nat} (hk : k < N) {f : Nat → Int32} (he : cf V k = .inl (g.2.1.1, n, .inl f)) (hdg : decode cc pc = .ok (.arraylength, 1))
    (kk : W p l e R s m args below meth c H locs cells slots Q (F0 m (pc + 1) ls (.int (nI n) :: rest))) : W p l e R s m args below meth c H locs cells slots Q (F0 m pc ls (.ref (ad k) :: rest)) :=
  va_alen (D := g.1) (x := ((n, .inl f) : vp_A)) hexec hb hK hI.1 k 0 ((wW_get hk).trans (by rw [he])) (ty := .int) rfl (v := nI n) rfl hdg kk
theorem x_preS {As : List Value} (hK : va_K g.1 vwCl (gTys g) s) (hE : EX g (AW ad N s.heap.size) s s.heap) (hI : WI g N cf ad V s.heap H locs) : PreS s H (va_Pc As (WPre N cf ad g V H.size)) As := by
  refine ⟨WPre_blind, fun U hU hW => ⟨rfl, by rw [hU], by rw [hU]; exact hI.1, va_K.moved hW.alike hK, hI.2.1.weaken (fun _ _ _ _ => trivial), ?_⟩⟩
  rw [hU]
  exact hE.move hI.2.2.2.1 hW (AW_le hI.2.2.1)
theorem x_preV {As : List Value} {k ci : Nat} {fs : List Value} {q : vw_C} (hK : va_K g.1 vwCl (gTys g) s) (hE : EX g (AW ad N s.heap.size) s s.heap) (hI : WI g N cf ad V s.heap H locs) (hk : k < N) (he : cf V k = .inr (ci, fs)) (hc : vwCl[ci]? = some q) : PreV s H q.1 (ad k) (va_Pc (.ref (ad k) :: As) (WPre N cf ad g V H.size)) As :=
  ⟨WPre_blind, va_recv hK hI.1 hc ((wW_get hk).trans (by rw [he])), (x_preS hK hE hI).2⟩
theorem x_afti {K : Int32 → VT → Prop} {st0 : List Value} {a : Array Value} (hr : va_Run p l e R s m args below meth c H locs cells slots 0 0 (F0 m pc ls st0) rest (va_Qi K (WPost N cf ad g) (AW ad N H.size) a) (AW ad N H.size)) (hI : WI g N cf ad V s.heap H locs)
    (kk : ∀ (r : Int32) (V2 : VT) (H1 : Heap) (locs1 : List Loc), K r V2 → WI g N cf ad V2 s.heap H1 locs1 → W p l e R s m args below meth c H1 locs1 cells slots Q (F0 m (pc + 3) ls (.int r :: rest))) : W p l e R s m args below meth c H locs cells slots Q (F0 m pc ls st0) :=
  va_calli hr hI.2.2 (fun q _ h => AW_le hI.2.2.1 q h) (fun q h => AW_le hI.2.2.1 q h) (fun r u t H1 locs1 ht _ hp hB _ _ hS => kk r u H1 locs1 hp ⟨by rw [← ht]; exact hB, wW_D hI.2.1, hS⟩)
theorem x_aftl {K : Int64 → VT → Prop} {st0 : List Value} {a : Array Value} (hr : va_Run p l e R s m args below meth c H locs cells slots 0 0 (F0 m pc ls st0) rest (va_Ql K (WPost N cf ad g) (AW ad N H.size) a) (AW ad N H.size)) (hI : WI g N cf ad V s.heap H locs)
    (kk : ∀ (r : Int64) (V2 : VT) (H1 : Heap) (locs1 : List Loc), K r V2 → WI g N cf ad V2 s.heap H1 locs1 → W p l e R s m args below meth c H1 locs1 cells slots Q (F0 m (pc + 3) ls (.long r :: rest))) : W p l e R s m args below meth c H locs cells slots Q (F0 m pc ls st0) :=
  va_calll hr hI.2.2 (fun q _ h => AW_le hI.2.2.1 q h) (fun q h => AW_le hI.2.2.1 q h) (fun r u t H1 locs1 ht _ hp hB _ _ hS => kk r u H1 locs1 hp ⟨by rw [← ht]; exact hB, wW_D hI.2.1, hS⟩)
theorem x_aftv {K : VT → Prop} {st0 : List Value} {a : Array Value} (hr : va_Run p l e R s m args below meth c H locs cells slots 0 0 (F0 m pc ls st0) rest (va_Qv K (WPost N cf ad g) (AW ad N H.size) a) (AW ad N H.size)) (hI : WI g N cf ad V s.heap H locs)
    (kk : ∀ (V2 : VT) (H1 : Heap) (locs1 : List Loc), K V2 → WI g N cf ad V2 s.heap H1 locs1 → W p l e R s m args below meth c H1 locs1 cells slots Q (F0 m (pc + 3) ls rest)) : W p l e R s m args below meth c H locs cells slots Q (F0 m pc ls st0) :=
  va_callv hr hI.2.2 (fun q _ h => AW_le hI.2.2.1 q h) (fun q h => AW_le hI.2.2.1 q h) (fun u t H1 locs1 ht _ hp hB _ _ hS => kk u H1 locs1 hp ⟨by rw [← ht]; exact hB, wW_D hI.2.1, hS⟩)
end FRAME
theorem x_reti {g : GP} {N : Nat} {cf : VT → Nat → va_E} {ad : Nat → Nat} {V : VT} {s : State} {H : Heap} {locs : List Loc} {K : Int32 → VT → Prop} {a : Array Value} {v : Int32} (hI : WI g N cf ad V s.heap H locs) (hw : K v V) : ∀ t : State, t.heap = H → s.WarmedH t.vm → va_Qi K (WPost N cf ad g) (AW ad N s.heap.size) a s (.returned (some (.int v))) t := fun t ht _ => ⟨⟨v, V, rfl, hw, by unfold WPost; rw [ht]; exact hI.1⟩, hI.2.2.F ht⟩
theorem x_retl {g : GP} {N : Nat} {cf : VT → Nat → va_E} {ad : Nat → Nat} {V : VT} {s : State} {H : Heap} {locs : List Loc} {K : Int64 → VT → Prop} {a : Array Value} {v : Int64} (hI : WI g N cf ad V s.heap H locs) (hw : K v V) : ∀ t : State, t.heap = H → s.WarmedH t.vm → va_Ql K (WPost N cf ad g) (AW ad N s.heap.size) a s (.returned (some (.long v))) t := fun t ht _ => ⟨⟨v, V, rfl, hw, by unfold WPost; rw [ht]; exact hI.1⟩, hI.2.2.F ht⟩
theorem x_retv {g : GP} {N : Nat} {cf : VT → Nat → va_E} {ad : Nat → Nat} {V : VT} {s : State} {H : Heap} {locs : List Loc} {K : VT → Prop} {a : Array Value} (hI : WI g N cf ad V s.heap H locs) (hw : K V) : ∀ t : State, t.heap = H → s.WarmedH t.vm → va_Qv K (WPost N cf ad g) (AW ad N s.heap.size) a s (.returned none) t := fun t ht _ => ⟨⟨V, rfl, hw, by unfold WPost; rw [ht]; exact hI.1⟩, hI.2.2.F ht⟩
theorem nar_z {v : Int32} (h : v = 0 ∨ v = 1) : narrow .boolean (.int v) = .int v := by rcases h with rfl | rfl <;> rfl
/-! the two shapes: the class's world X (76 cells), the reference's world M (13 cells) -/
def kX (k : Nat) : Nat := if k < 16 then ([7, 13, 12, 6, 9, 0, 11, 9, 9, 9, 4, 9, 2, 1, 9, 2] : List Nat).getD k 99 else if k < 36 then ([3, 9, 9, 9, 2] : List Nat).getD ((k - 16) % 5) 99 else if k < 52 then ([5, 9] : List Nat).getD ((k - 36) % 2) 99 else if k < 76 then 2 else 99
def nX (k : Nat) : Nat := if k < 16 then ([0, 8, 2, 0, 100, 0, 24, 24, 24, 24, 0, 2376, 0, 0, 16, 0] : List Nat).getD k 0 else if k < 36 then ([0, 24, 5, 5, 0] : List Nat).getD ((k - 16) % 5) 0 else if k < 52 then ([0, 40] : List Nat).getD ((k - 36) % 2) 0 else 0
def cX (g : GP) (ad : Nat → Nat) (V : VT) (k : Nat) : va_E := match kX k with
  | 0 => .inr (0, [.ref (ad (k + 1)), .ref (ad (k + 2)), .ref (ad (k + 3)), .ref (ad (k + 4)), .int (V k 4), .int (V k 5)])
  | 1 => .inr (1, [.ref (ad (k + 1)), .int (V k 1), .int (V k 2), .int (V k 3), .int (V k 4), .int (V k 5)])
  | 2 => .inr (2, [.int (V k 0), .int (V k 1), .int (V k 2), .int (V k 3)])
  | 3 => .inr (3, [.ref (ad (k + 1)), .ref (ad (k + 2)), .ref (ad (k + 3)), .ref (ad (k + 4)), .int (V k 4), .int (V k 5), .int (V k 6), .int (V k 7), .int (V k 8)])
  | 4 => .inr (4, [.ref (ad (k + 1)), .ref (ad (k + 2)), .int (V k 2), .int (V k 3), .int (V k 4)])
  | 5 => .inr (5, [.ref (ad (k + 1)), .int (V k 1), .int (V k 2)])
  | 6 => .inr (6, [.ref (ad (k + 1)), .int (V k 1), .int (V k 2), .int (V k 3)])
  | 7 => .inr (7, [.ref (ad (k + 1)), .ref (ad (k + 2)), .ref (ad (k + 16)), .ref (ad (k + 21)), .ref (ad (k + 3)), .ref (ad (k + 5)), .ref (ad (k + 10)), .ref (ad (k + 13)), .ref (ad (k + 15)), .int (V k 9), .int (V k 10)])
  | 9 => .inl (g.2.1.1, nX k, .inl (V k))
  | 11 => .inl (g.2.1.2.2.1, 24, .inr (.inr (.inr (.inr (fun h => some (ad (52 + h)))))))
  | 12 => .inl (g.2.1.2.2.2.1, 2, .inr (.inr (.inr (.inr (fun h => some (ad (26 + 5 * h)))))))
  | _ => .inl (g.2.1.2.2.2.2, 8, .inr (.inr (.inr (.inr (fun h => some (ad (36 + 2 * h)))))))
theorem cX_loc (g : GP) (ad : Nat → Nat) : loc (cX g ad) := by
  intro V V' k h
  unfold cX
  rw [h]
theorem kX_lt {k n : Nat} (h : kX k = n) (hn : n < 99) : k < 76 := by
  rcases Nat.lt_or_ge k 76 with q | q
  · exact q
  · exfalso
    have : kX k = 99 := by
      unfold kX
      rw [if_neg (by omega), if_neg (by omega), if_neg (by omega), if_neg (by omega)]
    omega
def nM (k : Nat) : Nat := ([0, 8, 8, 320, 40, 38, 38, 100, 696, 2640, 2640, 88, 16] : List Nat).getD k 0
def cM (g : GP) (ad : Nat → Nat) (V : VT) (k : Nat) : va_E := match k with
  | 0 => .inr (8, [.ref (ad 1), .ref (ad 2), .ref (ad 3), .ref (ad 4), .int (V 0 4), .ref (ad 5), .ref (ad 6), .ref (ad 7), .int (V 0 8), .int (V 0 9), .int (V 0 10), .int (V 0 11), .int (V 0 12), .int (V 0 13), .int (V 0 14), .int (V 0 15), .int (V 0 16), .int (V 0 17), .int (V 0 18), .int (V 0 19), .int (V 0 20), .ref (ad 8), .int (V 0 22), .int (V 0 23), .int (V 0 24), .int (V 0 25), .int (V 0 26), .int (V 0 27), .ref (ad 9), .ref (ad 10), .ref (ad 11), .ref (ad 12), .int (V 0 32)])
  | 10 => .inl (g.2.1.2.1, 2640, .inl (V 10))
  | n => .inl (g.2.1.1, nM n, .inl (V n))
theorem cM_loc (g : GP) (ad : Nat → Nat) : loc (cM g ad) := by
  intro V V' k h
  unfold cM
  split
  · rw [h]
  · rw [h]
  · rw [h]
