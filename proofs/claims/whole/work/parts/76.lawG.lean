/-! THE LAW: the program's world and the model's, side by side; its calls -/
abbrev LA (s : State) : Nat → Prop := fun q => s.heap.size ≤ q
def LI (g : GP) (s : State) (adx adm : Nat → Nat) (X M : VT) (H : Heap) (locs : List Loc) : Prop :=
  va_P g.1 vwCl (wW 76 (cX g adx) adx X) H ∧ va_P g.1 vwCl (wW 13 (cM g adm) adm M) H ∧ va_D (LA s) (wW 76 (cX g adx) adx X) ∧ va_D (LA s) (wW 13 (cM g adm) adm M) ∧ (∀ i, i < 76 → ∀ j, j < 13 → adx i ≠ adm j) ∧ va_S (LA s) s.heap H locs
theorem l_in {s : State} {N : Nat} {cf : VT → Nat → va_E} {ad : Nat → Nat} {V : VT} {H : Heap} {locs : List Loc} (hD : va_D (LA s) (wW N cf ad V)) (hS : va_S (LA s) s.heap H locs) : ∀ q, AW ad N H.size q → LA s q := by
  intro q h
  rcases h with ⟨k, hk, rfl⟩ | h
  · exact hD.2 k _ (wW_get hk)
  · exact Nat.le_trans hS.1 h
theorem l_kept {g : GP} {N N' : Nat} {cf' : VT → Nat → va_E} {ad ad' : Nat → Nat} {V' : VT} {H H1 : Heap} (hP : va_P g.1 vwCl (wW N' cf' ad' V') H) (ha : ∀ i, i < N → ∀ j, j < N' → ad i ≠ ad' j) (hk : ∀ q : Nat, q < H.size → ¬ AW ad N H.size q → H1[q]? = H[q]?) : va_P g.1 vwCl (wW N' cf' ad' V') H1 := by
  intro k q hq
  have hl := (hP k q hq).lt
  have hq0 := hq
  obtain ⟨h1, rfl⟩ := wW_at hq
  refine (hP k _ hq0).kept (hk _ hl ?_)
  intro z
  rcases z with ⟨i, hi, e⟩ | z
  · exact ha i hi k h1 e.symm
  · exact absurd hl (Nat.not_lt.mpr z)
theorem l_pre {g : GP} {s : State} {N : Nat} {cf : VT → Nat → va_E} {ad : Nat → Nat} {V : VT} {H : Heap} {locs : List Loc} {As : List Value} {ci : Nat} {fs : List Value} {q : vw_C} (hK : va_K g.1 vwCl (gTys g) s) (hE : EX g (LA s) s s.heap) (hP : va_P g.1 vwCl (wW N cf ad V) H) (hD : va_D (LA s) (wW N cf ad V)) (hS : va_S (LA s) s.heap H locs) (h0 : 0 < N) (he : cf V 0 = .inr (ci, fs)) (hc : vwCl[ci]? = some q) : PreV s H q.1 (ad 0) (va_Pc (.ref (ad 0) :: As) (WPre N cf ad g V H.size)) As :=
  ⟨WPre_blind, va_recv hK hP hc ((wW_get h0).trans (by rw [he])), fun U hU hW => ⟨rfl, by rw [hU], by rw [hU]; exact hP, va_K.moved hW.alike hK, hD.weaken (fun _ _ _ _ => trivial), by rw [hU]; exact hE.move hS.2.1 hW (l_in hD hS)⟩⟩
section LAW
variable {p : Program} {l : Launch} {e : Env} {s : State} {m : MethodId} {args : Array Value} {below : List Frame} {meth : Method} {c : Code} {H : Heap} {locs : List Loc} {cells slots : Nat} {Q : State → Prop}
variable {pc : Nat} {ls : Array Slot} {rest : List Value} {g : GP} {adx adm : Nat → Nat} {X M : VT} {b L : Nat} {xs : Nat → Int32} {x : Int32}
theorem l_Xi {K : Int32 → VT → Prop} {st0 : List Value} {a : Array Value} (hI : LI g s adx adm X M H locs) (hr : va_Run p l e room_1 s m args below meth c H locs cells slots 0 0 (F0 m pc ls st0) rest (va_Qi K (WPost 76 (cX g adx) adx g) (AW adx 76 H.size) a) (AW adx 76 H.size))
    (kk : ∀ (r : Int32) (X2 : VT) (H1 : Heap) (locs1 : List Loc), K r X2 → LI g s adx adm X2 M H1 locs1 → W p l e room_1 s m args below meth c H1 locs1 cells slots Q (F0 m (pc + 3) ls (.int r :: rest))) : W p l e room_1 s m args below meth c H locs cells slots Q (F0 m pc ls st0) := by
  obtain ⟨hPx, hPm, hDx, hDm, hap, hS⟩ := hI
  exact va_calli hr hS (fun q _ h => l_in hDx hS q h) (fun q h => l_in hDx hS q h) (fun r u t H1 locs1 ht _ hp hB _ hk hS1 => kk r u H1 locs1 hp ⟨by rw [← ht]; exact hB, l_kept hPm hap hk, wW_D hDx, hDm, hap, hS1⟩)
theorem l_Xl {K : Int64 → VT → Prop} {st0 : List Value} {a : Array Value} (hI : LI g s adx adm X M H locs) (hr : va_Run p l e room_1 s m args below meth c H locs cells slots 0 0 (F0 m pc ls st0) rest (va_Ql K (WPost 76 (cX g adx) adx g) (AW adx 76 H.size) a) (AW adx 76 H.size))
    (kk : ∀ (r : Int64) (X2 : VT) (H1 : Heap) (locs1 : List Loc), K r X2 → LI g s adx adm X2 M H1 locs1 → W p l e room_1 s m args below meth c H1 locs1 cells slots Q (F0 m (pc + 3) ls (.long r :: rest))) : W p l e room_1 s m args below meth c H locs cells slots Q (F0 m pc ls st0) := by
  obtain ⟨hPx, hPm, hDx, hDm, hap, hS⟩ := hI
  exact va_calll hr hS (fun q _ h => l_in hDx hS q h) (fun q h => l_in hDx hS q h) (fun r u t H1 locs1 ht _ hp hB _ hk hS1 => kk r u H1 locs1 hp ⟨by rw [← ht]; exact hB, l_kept hPm hap hk, wW_D hDx, hDm, hap, hS1⟩)
theorem l_Mi {K : Int32 → VT → Prop} {st0 : List Value} {a : Array Value} (hI : LI g s adx adm X M H locs) (hr : va_Run p l e room_1 s m args below meth c H locs cells slots 0 0 (F0 m pc ls st0) rest (va_Qi K (WPost 13 (cM g adm) adm g) (AW adm 13 H.size) a) (AW adm 13 H.size))
    (kk : ∀ (r : Int32) (M2 : VT) (H1 : Heap) (locs1 : List Loc), K r M2 → LI g s adx adm X M2 H1 locs1 → W p l e room_1 s m args below meth c H1 locs1 cells slots Q (F0 m (pc + 3) ls (.int r :: rest))) : W p l e room_1 s m args below meth c H locs cells slots Q (F0 m pc ls st0) := by
  obtain ⟨hPx, hPm, hDx, hDm, hap, hS⟩ := hI
  exact va_calli hr hS (fun q _ h => l_in hDm hS q h) (fun q h => l_in hDm hS q h) (fun r u t H1 locs1 ht _ hp hB _ hk hS1 => kk r u H1 locs1 hp ⟨l_kept hPx (fun i hi j hj e => hap j hj i hi e.symm) hk, by rw [← ht]; exact hB, hDx, wW_D hDm, hap, hS1⟩)
theorem l_Ml {K : Int64 → VT → Prop} {st0 : List Value} {a : Array Value} (hI : LI g s adx adm X M H locs) (hr : va_Run p l e room_1 s m args below meth c H locs cells slots 0 0 (F0 m pc ls st0) rest (va_Ql K (WPost 13 (cM g adm) adm g) (AW adm 13 H.size) a) (AW adm 13 H.size))
    (kk : ∀ (r : Int64) (M2 : VT) (H1 : Heap) (locs1 : List Loc), K r M2 → LI g s adx adm X M2 H1 locs1 → W p l e room_1 s m args below meth c H1 locs1 cells slots Q (F0 m (pc + 3) ls (.long r :: rest))) : W p l e room_1 s m args below meth c H locs cells slots Q (F0 m pc ls st0) := by
  obtain ⟨hPx, hPm, hDx, hDm, hap, hS⟩ := hI
  exact va_calll hr hS (fun q _ h => l_in hDm hS q h) (fun q h => l_in hDm hS q h) (fun r u t H1 locs1 ht _ hp hB _ hk hS1 => kk r u H1 locs1 hp ⟨l_kept hPx (fun i hi j hj e => hap j hj i hi e.symm) hk, by rw [← ht]; exact hB, hDx, wW_D hDm, hap, hS1⟩)
end LAW
def LC (p : Program) (s : State) (m : MethodId) (args : Array Value) (c : Code) (b L : Nat) (xs : Nat → Int32) (g : GP) (adx adm : Nat → Nat) (ls : Array Slot) (x : Int32) (cells slots : Nat) : Prop :=
  (p.tables.exec = Jvm.exec) ∧ (c.code = cL_law) ∧ (c.maxLocals = 4) ∧ (s.vm.findClass RL = some m.cls) ∧ (∀ w ∈ wsL_law, w.before args s = true) ∧ (va_X b L xs s s.heap) ∧ (b < s.heap.size) ∧ (va_K g.1 vwCl (gTys g) s) ∧ (EX g (LA s) s s.heap) ∧ (lv_has ls 4 [(3, .int x), (2, .ref (adm 0)), (1, .ref (adx 0)), (0, .ref b)]) ∧ (∀ k : Nat, k < 6 → vp_in (x + nI k) L) ∧ (cells + 0 ≤ room_1.cells ∧ slots + 0 ≤ room_1.slots)
theorem LC.hx {p : Program} {s : State} {m : MethodId} {args : Array Value} {c : Code} {b L : Nat} {xs : Nat → Int32} {g : GP} {adx adm : Nat → Nat} {ls : Array Slot} {x : Int32} {cells slots : Nat} (C : LC p s m args c b L xs g adx adm ls x cells slots) : p.tables.exec = Jvm.exec := C.1
theorem LC.hb {p : Program} {s : State} {m : MethodId} {args : Array Value} {c : Code} {b L : Nat} {xs : Nat → Int32} {g : GP} {adx adm : Nat → Nat} {ls : Array Slot} {x : Int32} {cells slots : Nat} (C : LC p s m args c b L xs g adx adm ls x cells slots) : c.code = cL_law := C.2.1
theorem LC.hml {p : Program} {s : State} {m : MethodId} {args : Array Value} {c : Code} {b L : Nat} {xs : Nat → Int32} {g : GP} {adx adm : Nat → Nat} {ls : Array Slot} {x : Int32} {cells slots : Nat} (C : LC p s m args c b L xs g adx adm ls x cells slots) : c.maxLocals = 4 := C.2.2.1
theorem LC.hown {p : Program} {s : State} {m : MethodId} {args : Array Value} {c : Code} {b L : Nat} {xs : Nat → Int32} {g : GP} {adx adm : Nat → Nat} {ls : Array Slot} {x : Int32} {cells slots : Nat} (C : LC p s m args c b L xs g adx adm ls x cells slots) : s.vm.findClass RL = some m.cls := C.2.2.2.1
theorem LC.hts {p : Program} {s : State} {m : MethodId} {args : Array Value} {c : Code} {b L : Nat} {xs : Nat → Int32} {g : GP} {adx adm : Nat → Nat} {ls : Array Slot} {x : Int32} {cells slots : Nat} (C : LC p s m args c b L xs g adx adm ls x cells slots) : ∀ w ∈ wsL_law, w.before args s = true := C.2.2.2.2.1
theorem LC.hX {p : Program} {s : State} {m : MethodId} {args : Array Value} {c : Code} {b L : Nat} {xs : Nat → Int32} {g : GP} {adx adm : Nat → Nat} {ls : Array Slot} {x : Int32} {cells slots : Nat} (C : LC p s m args c b L xs g adx adm ls x cells slots) : va_X b L xs s s.heap := C.2.2.2.2.2.1
theorem LC.hbl {p : Program} {s : State} {m : MethodId} {args : Array Value} {c : Code} {b L : Nat} {xs : Nat → Int32} {g : GP} {adx adm : Nat → Nat} {ls : Array Slot} {x : Int32} {cells slots : Nat} (C : LC p s m args c b L xs g adx adm ls x cells slots) : b < s.heap.size := C.2.2.2.2.2.2.1
theorem LC.hK {p : Program} {s : State} {m : MethodId} {args : Array Value} {c : Code} {b L : Nat} {xs : Nat → Int32} {g : GP} {adx adm : Nat → Nat} {ls : Array Slot} {x : Int32} {cells slots : Nat} (C : LC p s m args c b L xs g adx adm ls x cells slots) : va_K g.1 vwCl (gTys g) s := C.2.2.2.2.2.2.2.1
theorem LC.hE {p : Program} {s : State} {m : MethodId} {args : Array Value} {c : Code} {b L : Nat} {xs : Nat → Int32} {g : GP} {adx adm : Nat → Nat} {ls : Array Slot} {x : Int32} {cells slots : Nat} (C : LC p s m args c b L xs g adx adm ls x cells slots) : EX g (LA s) s s.heap := C.2.2.2.2.2.2.2.2.1
theorem LC.hl {p : Program} {s : State} {m : MethodId} {args : Array Value} {c : Code} {b L : Nat} {xs : Nat → Int32} {g : GP} {adx adm : Nat → Nat} {ls : Array Slot} {x : Int32} {cells slots : Nat} (C : LC p s m args c b L xs g adx adm ls x cells slots) : lv_has ls 4 [(3, .int x), (2, .ref (adm 0)), (1, .ref (adx 0)), (0, .ref b)] := C.2.2.2.2.2.2.2.2.2.1
theorem LC.hin {p : Program} {s : State} {m : MethodId} {args : Array Value} {c : Code} {b L : Nat} {xs : Nat → Int32} {g : GP} {adx adm : Nat → Nat} {ls : Array Slot} {x : Int32} {cells slots : Nat} (C : LC p s m args c b L xs g adx adm ls x cells slots) : ∀ k : Nat, k < 6 → vp_in (x + nI k) L := C.2.2.2.2.2.2.2.2.2.2.1
theorem LC.hrm {p : Program} {s : State} {m : MethodId} {args : Array Value} {c : Code} {b L : Nat} {xs : Nat → Int32} {g : GP} {adx adm : Nat → Nat} {ls : Array Slot} {x : Int32} {cells slots : Nat} (C : LC p s m args c b L xs g adx adm ls x cells slots) : cells + 0 ≤ room_1.cells ∧ slots + 0 ≤ room_1.slots := C.2.2.2.2.2.2.2.2.2.2.2
section LAW2
variable {p : Program} {l : Launch} {e : Env} {s : State} {m : MethodId} {args : Array Value} {below : List Frame} {meth : Method} {c : Code} {H : Heap} {locs : List Loc} {cells slots : Nat} {Q : State → Prop}
variable {pc : Nat} {ls : Array Slot} {rest : List Value} {g : GP} {adx adm : Nat → Nat} {X M : VT} {b L : Nat} {xs : Nat → Int32} {x : Int32}
theorem lw_arg (C : LC p s m args c b L xs g adx adm ls x cells slots) (hS : va_S (LA s) s.heap H locs) {n : Int} {v a : Int32} (hv : Int32.ofInt n = v) (hin : vp_in (x + v) L) (ha : a = xs (x + v).toNatClampNeg) (d1 : decode cL_law pc = .ok (.aload_n 0, 1)) (d2 : decode cL_law (pc + 1) = .ok (.iload_n 3, 1)) (d3 : decode cL_law (pc + 2) = .ok (.iconst n, 1)) (d4 : decode cL_law (pc + 3) = .ok (.iadd, 1)) (d5 : decode cL_law (pc + 4) = .ok (.iaload, 1))
    (kk : W p l e room_1 s m args below meth c H locs cells slots Q (F0 m (pc + 5) ls (.int a :: rest))) : W p l e room_1 s m args below meth c H locs cells slots Q (F0 m pc ls rest) := by
  subst ha
  refine lv_aload_n C.hx C.hb d1 rfl (lv_at C.hl 3 rfl) ?_
  refine lv_iload_n C.hx C.hb d2 rfl (lv_at C.hl 0 rfl) ?_
  refine lv_iconst (v := v) C.hx C.hb d3 hv ?_
  refine lv_iadd C.hx C.hb d4 ?_
  exact va_sld C.hx C.hb C.hX C.hbl (Nat.not_le.mpr C.hbl) hS hin d5 kk
theorem lc_row (C : LC p s m args c b L xs g adx adm ls x cells slots) (hI : LI g s adx adm X M H locs) (hR : RR X M) (nx : ∀ (X M : VT) (H : Heap) (locs : List Loc), LI g s adx adm X M H locs → RR X M → W p l e room_1 s m args below meth c H locs cells slots Q (F0 m 1187 ls [])) : W p l e room_1 s m args below meth c H locs cells slots Q (F0 m 184 ls []) := by
  obtain ⟨a1, e1⟩ : ∃ a : Int32, a = xs (x + nI 1).toNatClampNeg := ⟨_, rfl⟩
  obtain ⟨a2, e2⟩ : ∃ a : Int32, a = xs (x + nI 2).toNatClampNeg := ⟨_, rfl⟩
  obtain ⟨a3, e3⟩ : ∃ a : Int32, a = xs (x + nI 3).toNatClampNeg := ⟨_, rfl⟩
  refine lv_aload_n C.hx C.hb dL_law_184 rfl (lv_at C.hl 2 rfl) ?_
  refine lw_arg C hI.2.2.2.2.2 (v := nI 1) (by decide) (C.hin 1 (by decide)) e1 dL_law_185 dL_law_186 dL_law_187 dL_law_188 dL_law_189 ?_
  refine lw_arg C hI.2.2.2.2.2 (v := nI 2) (by decide) (C.hin 2 (by decide)) e2 dL_law_190 dL_law_191 dL_law_192 dL_law_193 dL_law_194 ?_
  refine lw_arg C hI.2.2.2.2.2 (v := nI 3) (by decide) (C.hin 3 (by decide)) e3 dL_law_195 dL_law_196 dL_law_197 dL_law_198 dL_law_199 ?_
  refine l_Xi hI (va_runV (As := [.int a1, .int a2, .int a3]) (rest := []) ⟨C.hx, C.hb, C.hml, C.hown, C.hts⟩ (c_X7_row l g adx H.size X a1 a2 a3 _ (q_row hR a1 a2 a3)) (cwV 3 C.hts gL_law_X7_row rfl rfl rfl (by decide +kernel) ⟨Nat.le_of_ble_eq_true rfl, Nat.le_of_ble_eq_true rfl⟩) (l_pre C.hK C.hE hI.1 hI.2.2.1 hI.2.2.2.2.2 (by decide) (cX_7 (by decide)) rfl) rfl rfl C.hl.1 rfl (lv_room (Nat.le_of_ble_eq_true rfl)) dL_law_200 C.hrm) (fun r X H locs hw hI => ?_)
  refine lv_aload_n C.hx C.hb dL_law_203 rfl (lv_at C.hl 1 rfl) ?_
  refine lw_arg C hI.2.2.2.2.2 (v := nI 1) (by decide) (C.hin 1 (by decide)) e1 dL_law_204 dL_law_205 dL_law_206 dL_law_207 dL_law_208 ?_
  refine lw_arg C hI.2.2.2.2.2 (v := nI 2) (by decide) (C.hin 2 (by decide)) e2 dL_law_209 dL_law_210 dL_law_211 dL_law_212 dL_law_213 ?_
  refine lw_arg C hI.2.2.2.2.2 (v := nI 3) (by decide) (C.hin 3 (by decide)) e3 dL_law_214 dL_law_215 dL_law_216 dL_law_217 dL_law_218 ?_
  refine l_Mi hI (va_runV (As := [.int a1, .int a2, .int a3]) (rest := [.int r]) ⟨C.hx, C.hb, C.hml, C.hown, C.hts⟩ (c_X8_row l g adm H.size M a1 a2 a3 (EQ r X) hw) (cwV 3 C.hts gL_law_X8_row rfl rfl rfl (by decide +kernel) ⟨Nat.le_of_ble_eq_true rfl, Nat.le_of_ble_eq_true rfl⟩) (l_pre C.hK C.hE hI.2.1 hI.2.2.2.1 hI.2.2.2.2.2 (by decide) rfl rfl) rfl rfl C.hl.1 rfl (lv_room (Nat.le_of_ble_eq_true rfl)) dL_law_219 C.hrm) (fun r2 M H locs hw2 hI => ?_)
  obtain ⟨he, hR⟩ := hw2
  exact lv_icmp_eq (tgt := 1187) C.hx C.hb dL_law_222 (by decide) (fun _ => nx _ _ _ _ hI hR) (fun h => absurd he h)
theorem lc_set (C : LC p s m args c b L xs g adx adm ls x cells slots) (hI : LI g s adx adm X M H locs) (hR : RR X M) (nx : ∀ (X M : VT) (H : Heap) (locs : List Loc), LI g s adx adm X M H locs → RR X M → W p l e room_1 s m args below meth c H locs cells slots Q (F0 m 1187 ls [])) : W p l e room_1 s m args below meth c H locs cells slots Q (F0 m 227 ls []) := by
  obtain ⟨a1, e1⟩ : ∃ a : Int32, a = xs (x + nI 1).toNatClampNeg := ⟨_, rfl⟩
  obtain ⟨a2, e2⟩ : ∃ a : Int32, a = xs (x + nI 2).toNatClampNeg := ⟨_, rfl⟩
  obtain ⟨a3, e3⟩ : ∃ a : Int32, a = xs (x + nI 3).toNatClampNeg := ⟨_, rfl⟩
  refine lv_aload_n C.hx C.hb dL_law_227 rfl (lv_at C.hl 2 rfl) ?_
  refine lw_arg C hI.2.2.2.2.2 (v := nI 1) (by decide) (C.hin 1 (by decide)) e1 dL_law_228 dL_law_229 dL_law_230 dL_law_231 dL_law_232 ?_
  refine lw_arg C hI.2.2.2.2.2 (v := nI 2) (by decide) (C.hin 2 (by decide)) e2 dL_law_233 dL_law_234 dL_law_235 dL_law_236 dL_law_237 ?_
  refine lw_arg C hI.2.2.2.2.2 (v := nI 3) (by decide) (C.hin 3 (by decide)) e3 dL_law_238 dL_law_239 dL_law_240 dL_law_241 dL_law_242 ?_
  refine l_Xi hI (va_runV (As := [.int a1, .int a2, .int a3]) (rest := []) ⟨C.hx, C.hb, C.hml, C.hown, C.hts⟩ (c_X7_set l g adx H.size X a1 a2 a3 _ (q_set hR a1 a2 a3)) (cwV 3 C.hts gL_law_X7_set rfl rfl rfl (by decide +kernel) ⟨Nat.le_of_ble_eq_true rfl, Nat.le_of_ble_eq_true rfl⟩) (l_pre C.hK C.hE hI.1 hI.2.2.1 hI.2.2.2.2.2 (by decide) (cX_7 (by decide)) rfl) rfl rfl C.hl.1 rfl (lv_room (Nat.le_of_ble_eq_true rfl)) dL_law_243 C.hrm) (fun r X H locs hw hI => ?_)
  refine lv_aload_n C.hx C.hb dL_law_246 rfl (lv_at C.hl 1 rfl) ?_
  refine lw_arg C hI.2.2.2.2.2 (v := nI 1) (by decide) (C.hin 1 (by decide)) e1 dL_law_247 dL_law_248 dL_law_249 dL_law_250 dL_law_251 ?_
  refine lw_arg C hI.2.2.2.2.2 (v := nI 2) (by decide) (C.hin 2 (by decide)) e2 dL_law_252 dL_law_253 dL_law_254 dL_law_255 dL_law_256 ?_
  refine lw_arg C hI.2.2.2.2.2 (v := nI 3) (by decide) (C.hin 3 (by decide)) e3 dL_law_257 dL_law_258 dL_law_259 dL_law_260 dL_law_261 ?_
  refine l_Mi hI (va_runV (As := [.int a1, .int a2, .int a3]) (rest := [.int r]) ⟨C.hx, C.hb, C.hml, C.hown, C.hts⟩ (c_X8_set l g adm H.size M a1 a2 a3 (EQ r X) hw) (cwV 3 C.hts gL_law_X8_set rfl rfl rfl (by decide +kernel) ⟨Nat.le_of_ble_eq_true rfl, Nat.le_of_ble_eq_true rfl⟩) (l_pre C.hK C.hE hI.2.1 hI.2.2.2.1 hI.2.2.2.2.2 (by decide) rfl rfl) rfl rfl C.hl.1 rfl (lv_room (Nat.le_of_ble_eq_true rfl)) dL_law_262 C.hrm) (fun r2 M H locs hw2 hI => ?_)
  obtain ⟨he, hR⟩ := hw2
  exact lv_icmp_eq (tgt := 1187) C.hx C.hb dL_law_265 (by decide) (fun _ => nx _ _ _ _ hI hR) (fun h => absurd he h)
theorem lc_copy (C : LC p s m args c b L xs g adx adm ls x cells slots) (hI : LI g s adx adm X M H locs) (hR : RR X M) (nx : ∀ (X M : VT) (H : Heap) (locs : List Loc), LI g s adx adm X M H locs → RR X M → W p l e room_1 s m args below meth c H locs cells slots Q (F0 m 1187 ls [])) : W p l e room_1 s m args below meth c H locs cells slots Q (F0 m 270 ls []) := by
  obtain ⟨a1, e1⟩ : ∃ a : Int32, a = xs (x + nI 1).toNatClampNeg := ⟨_, rfl⟩
  obtain ⟨a2, e2⟩ : ∃ a : Int32, a = xs (x + nI 2).toNatClampNeg := ⟨_, rfl⟩
  obtain ⟨a3, e3⟩ : ∃ a : Int32, a = xs (x + nI 3).toNatClampNeg := ⟨_, rfl⟩
  obtain ⟨a4, e4⟩ : ∃ a : Int32, a = xs (x + nI 4).toNatClampNeg := ⟨_, rfl⟩
  obtain ⟨a5, e5⟩ : ∃ a : Int32, a = xs (x + nI 5).toNatClampNeg := ⟨_, rfl⟩
  refine lv_aload_n C.hx C.hb dL_law_270 rfl (lv_at C.hl 2 rfl) ?_
  refine lw_arg C hI.2.2.2.2.2 (v := nI 1) (by decide) (C.hin 1 (by decide)) e1 dL_law_271 dL_law_272 dL_law_273 dL_law_274 dL_law_275 ?_
  refine lw_arg C hI.2.2.2.2.2 (v := nI 2) (by decide) (C.hin 2 (by decide)) e2 dL_law_276 dL_law_277 dL_law_278 dL_law_279 dL_law_280 ?_
  refine lw_arg C hI.2.2.2.2.2 (v := nI 3) (by decide) (C.hin 3 (by decide)) e3 dL_law_281 dL_law_282 dL_law_283 dL_law_284 dL_law_285 ?_
  refine lw_arg C hI.2.2.2.2.2 (v := nI 4) (by decide) (C.hin 4 (by decide)) e4 dL_law_286 dL_law_287 dL_law_288 dL_law_289 dL_law_290 ?_
  refine lw_arg C hI.2.2.2.2.2 (v := nI 5) (by decide) (C.hin 5 (by decide)) e5 dL_law_291 dL_law_292 dL_law_293 dL_law_294 dL_law_295 ?_
  refine l_Xi hI (va_runV (As := [.int a1, .int a2, .int a3, .int a4, .int a5]) (rest := []) ⟨C.hx, C.hb, C.hml, C.hown, C.hts⟩ (c_X7_copy l g adx H.size X a1 a2 a3 a4 a5 _ (q_copy hR a1 a2 a3 a4 a5)) (cwV 5 C.hts gL_law_X7_copy rfl rfl rfl (by decide +kernel) ⟨Nat.le_of_ble_eq_true rfl, Nat.le_of_ble_eq_true rfl⟩) (l_pre C.hK C.hE hI.1 hI.2.2.1 hI.2.2.2.2.2 (by decide) (cX_7 (by decide)) rfl) rfl rfl C.hl.1 rfl (lv_room (Nat.le_of_ble_eq_true rfl)) dL_law_296 C.hrm) (fun r X H locs hw hI => ?_)
  refine lv_aload_n C.hx C.hb dL_law_299 rfl (lv_at C.hl 1 rfl) ?_
  refine lw_arg C hI.2.2.2.2.2 (v := nI 1) (by decide) (C.hin 1 (by decide)) e1 dL_law_300 dL_law_301 dL_law_302 dL_law_303 dL_law_304 ?_
  refine lw_arg C hI.2.2.2.2.2 (v := nI 2) (by decide) (C.hin 2 (by decide)) e2 dL_law_305 dL_law_306 dL_law_307 dL_law_308 dL_law_309 ?_
  refine lw_arg C hI.2.2.2.2.2 (v := nI 3) (by decide) (C.hin 3 (by decide)) e3 dL_law_310 dL_law_311 dL_law_312 dL_law_313 dL_law_314 ?_
  refine lw_arg C hI.2.2.2.2.2 (v := nI 4) (by decide) (C.hin 4 (by decide)) e4 dL_law_315 dL_law_316 dL_law_317 dL_law_318 dL_law_319 ?_
  refine lw_arg C hI.2.2.2.2.2 (v := nI 5) (by decide) (C.hin 5 (by decide)) e5 dL_law_320 dL_law_321 dL_law_322 dL_law_323 dL_law_324 ?_
  refine l_Mi hI (va_runV (As := [.int a1, .int a2, .int a3, .int a4, .int a5]) (rest := [.int r]) ⟨C.hx, C.hb, C.hml, C.hown, C.hts⟩ (c_X8_copy l g adm H.size M a1 a2 a3 a4 a5 (EQ r X) hw) (cwV 5 C.hts gL_law_X8_copy rfl rfl rfl (by decide +kernel) ⟨Nat.le_of_ble_eq_true rfl, Nat.le_of_ble_eq_true rfl⟩) (l_pre C.hK C.hE hI.2.1 hI.2.2.2.1 hI.2.2.2.2.2 (by decide) rfl rfl) rfl rfl C.hl.1 rfl (lv_room (Nat.le_of_ble_eq_true rfl)) dL_law_325 C.hrm) (fun r2 M H locs hw2 hI => ?_)
  obtain ⟨he, hR⟩ := hw2
  exact lv_icmp_eq (tgt := 1187) C.hx C.hb dL_law_328 (by decide) (fun _ => nx _ _ _ _ hI hR) (fun h => absurd he h)
theorem lc_drop (C : LC p s m args c b L xs g adx adm ls x cells slots) (hI : LI g s adx adm X M H locs) (hR : RR X M) (nx : ∀ (X M : VT) (H : Heap) (locs : List Loc), LI g s adx adm X M H locs → RR X M → W p l e room_1 s m args below meth c H locs cells slots Q (F0 m 1187 ls [])) : W p l e room_1 s m args below meth c H locs cells slots Q (F0 m 333 ls []) := by
  obtain ⟨a1, e1⟩ : ∃ a : Int32, a = xs (x + nI 1).toNatClampNeg := ⟨_, rfl⟩
  refine lv_aload_n C.hx C.hb dL_law_333 rfl (lv_at C.hl 2 rfl) ?_
  refine lw_arg C hI.2.2.2.2.2 (v := nI 1) (by decide) (C.hin 1 (by decide)) e1 dL_law_334 dL_law_335 dL_law_336 dL_law_337 dL_law_338 ?_
  refine l_Xi hI (va_runV (As := [.int a1]) (rest := []) ⟨C.hx, C.hb, C.hml, C.hown, C.hts⟩ (c_X7_drop l g adx H.size X a1 _ (q_drop hR a1)) (cwV 1 C.hts gL_law_X7_drop rfl rfl rfl (by decide +kernel) ⟨Nat.le_of_ble_eq_true rfl, Nat.le_of_ble_eq_true rfl⟩) (l_pre C.hK C.hE hI.1 hI.2.2.1 hI.2.2.2.2.2 (by decide) (cX_7 (by decide)) rfl) rfl rfl C.hl.1 rfl (lv_room (Nat.le_of_ble_eq_true rfl)) dL_law_339 C.hrm) (fun r X H locs hw hI => ?_)
  refine lv_aload_n C.hx C.hb dL_law_342 rfl (lv_at C.hl 1 rfl) ?_
  refine lw_arg C hI.2.2.2.2.2 (v := nI 1) (by decide) (C.hin 1 (by decide)) e1 dL_law_343 dL_law_344 dL_law_345 dL_law_346 dL_law_347 ?_
  refine l_Mi hI (va_runV (As := [.int a1]) (rest := [.int r]) ⟨C.hx, C.hb, C.hml, C.hown, C.hts⟩ (c_X8_drop l g adm H.size M a1 (EQ r X) hw) (cwV 1 C.hts gL_law_X8_drop rfl rfl rfl (by decide +kernel) ⟨Nat.le_of_ble_eq_true rfl, Nat.le_of_ble_eq_true rfl⟩) (l_pre C.hK C.hE hI.2.1 hI.2.2.2.1 hI.2.2.2.2.2 (by decide) rfl rfl) rfl rfl C.hl.1 rfl (lv_room (Nat.le_of_ble_eq_true rfl)) dL_law_348 C.hrm) (fun r2 M H locs hw2 hI => ?_)
  obtain ⟨he, hR⟩ := hw2
  exact lv_icmp_eq (tgt := 1187) C.hx C.hb dL_law_351 (by decide) (fun _ => nx _ _ _ _ hI hR) (fun h => absurd he h)
theorem lc_feed (C : LC p s m args c b L xs g adx adm ls x cells slots) (hI : LI g s adx adm X M H locs) (hR : RR X M) (nx : ∀ (X M : VT) (H : Heap) (locs : List Loc), LI g s adx adm X M H locs → RR X M → W p l e room_1 s m args below meth c H locs cells slots Q (F0 m 1187 ls [])) : W p l e room_1 s m args below meth c H locs cells slots Q (F0 m 356 ls []) := by
  obtain ⟨a1, e1⟩ : ∃ a : Int32, a = xs (x + nI 1).toNatClampNeg := ⟨_, rfl⟩
  refine lv_aload_n C.hx C.hb dL_law_356 rfl (lv_at C.hl 2 rfl) ?_
  refine lw_arg C hI.2.2.2.2.2 (v := nI 1) (by decide) (C.hin 1 (by decide)) e1 dL_law_357 dL_law_358 dL_law_359 dL_law_360 dL_law_361 ?_
  refine l_Xi hI (va_runV (As := [.int a1]) (rest := []) ⟨C.hx, C.hb, C.hml, C.hown, C.hts⟩ (c_X7_feed l g adx H.size X a1 _ (q_feed hR a1)) (cwV 1 C.hts gL_law_X7_feed rfl rfl rfl (by decide +kernel) ⟨Nat.le_of_ble_eq_true rfl, Nat.le_of_ble_eq_true rfl⟩) (l_pre C.hK C.hE hI.1 hI.2.2.1 hI.2.2.2.2.2 (by decide) (cX_7 (by decide)) rfl) rfl rfl C.hl.1 rfl (lv_room (Nat.le_of_ble_eq_true rfl)) dL_law_362 C.hrm) (fun r X H locs hw hI => ?_)
  refine lv_aload_n C.hx C.hb dL_law_365 rfl (lv_at C.hl 1 rfl) ?_
  refine lw_arg C hI.2.2.2.2.2 (v := nI 1) (by decide) (C.hin 1 (by decide)) e1 dL_law_366 dL_law_367 dL_law_368 dL_law_369 dL_law_370 ?_
  refine l_Mi hI (va_runV (As := [.int a1]) (rest := [.int r]) ⟨C.hx, C.hb, C.hml, C.hown, C.hts⟩ (c_X8_feed l g adm H.size M a1 (EQ r X) hw) (cwV 1 C.hts gL_law_X8_feed rfl rfl rfl (by decide +kernel) ⟨Nat.le_of_ble_eq_true rfl, Nat.le_of_ble_eq_true rfl⟩) (l_pre C.hK C.hE hI.2.1 hI.2.2.2.1 hI.2.2.2.2.2 (by decide) rfl rfl) rfl rfl C.hl.1 rfl (lv_room (Nat.le_of_ble_eq_true rfl)) dL_law_371 C.hrm) (fun r2 M H locs hw2 hI => ?_)
  obtain ⟨he, hR⟩ := hw2
  exact lv_icmp_eq (tgt := 1187) C.hx C.hb dL_law_374 (by decide) (fun _ => nx _ _ _ _ hI hR) (fun h => absurd he h)
theorem lc_lane (C : LC p s m args c b L xs g adx adm ls x cells slots) (hI : LI g s adx adm X M H locs) (hR : RR X M) (nx : ∀ (X M : VT) (H : Heap) (locs : List Loc), LI g s adx adm X M H locs → RR X M → W p l e room_1 s m args below meth c H locs cells slots Q (F0 m 1187 ls [])) : W p l e room_1 s m args below meth c H locs cells slots Q (F0 m 379 ls []) := by
  refine lv_aload_n C.hx C.hb dL_law_379 rfl (lv_at C.hl 2 rfl) ?_
  refine l_Xi hI (va_runV (As := []) (rest := []) ⟨C.hx, C.hb, C.hml, C.hown, C.hts⟩ (c_X7_lane l g adx H.size X _ (q_lane hR)) (cwV 0 C.hts gL_law_X7_lane rfl rfl rfl (by decide +kernel) ⟨Nat.le_of_ble_eq_true rfl, Nat.le_of_ble_eq_true rfl⟩) (l_pre C.hK C.hE hI.1 hI.2.2.1 hI.2.2.2.2.2 (by decide) (cX_7 (by decide)) rfl) rfl rfl C.hl.1 rfl (lv_room (Nat.le_of_ble_eq_true rfl)) dL_law_380 C.hrm) (fun r X H locs hw hI => ?_)
  refine lv_aload_n C.hx C.hb dL_law_383 rfl (lv_at C.hl 1 rfl) ?_
  refine l_Mi hI (va_runV (As := []) (rest := [.int r]) ⟨C.hx, C.hb, C.hml, C.hown, C.hts⟩ (c_X8_lane l g adm H.size M (EQ r X) hw) (cwV 0 C.hts gL_law_X8_lane rfl rfl rfl (by decide +kernel) ⟨Nat.le_of_ble_eq_true rfl, Nat.le_of_ble_eq_true rfl⟩) (l_pre C.hK C.hE hI.2.1 hI.2.2.2.1 hI.2.2.2.2.2 (by decide) rfl rfl) rfl rfl C.hl.1 rfl (lv_room (Nat.le_of_ble_eq_true rfl)) dL_law_384 C.hrm) (fun r2 M H locs hw2 hI => ?_)
  obtain ⟨he, hR⟩ := hw2
  exact lv_icmp_eq (tgt := 1187) C.hx C.hb dL_law_387 (by decide) (fun _ => nx _ _ _ _ hI hR) (fun h => absurd he h)
theorem lc_fault (C : LC p s m args c b L xs g adx adm ls x cells slots) (hI : LI g s adx adm X M H locs) (hR : RR X M) (nx : ∀ (X M : VT) (H : Heap) (locs : List Loc), LI g s adx adm X M H locs → RR X M → W p l e room_1 s m args below meth c H locs cells slots Q (F0 m 1187 ls [])) : W p l e room_1 s m args below meth c H locs cells slots Q (F0 m 392 ls []) := by
  refine lv_aload_n C.hx C.hb dL_law_392 rfl (lv_at C.hl 2 rfl) ?_
  refine l_Xi hI (va_runV (As := []) (rest := []) ⟨C.hx, C.hb, C.hml, C.hown, C.hts⟩ (c_X7_fault l g adx H.size X _ (q_fault hR)) (cwV 0 C.hts gL_law_X7_fault rfl rfl rfl (by decide +kernel) ⟨Nat.le_of_ble_eq_true rfl, Nat.le_of_ble_eq_true rfl⟩) (l_pre C.hK C.hE hI.1 hI.2.2.1 hI.2.2.2.2.2 (by decide) (cX_7 (by decide)) rfl) rfl rfl C.hl.1 rfl (lv_room (Nat.le_of_ble_eq_true rfl)) dL_law_393 C.hrm) (fun r X H locs hw hI => ?_)
  refine lv_aload_n C.hx C.hb dL_law_396 rfl (lv_at C.hl 1 rfl) ?_
  refine l_Mi hI (va_runV (As := []) (rest := [.int r]) ⟨C.hx, C.hb, C.hml, C.hown, C.hts⟩ (c_X8_fault l g adm H.size M (EQ r X) hw) (cwV 0 C.hts gL_law_X8_fault rfl rfl rfl (by decide +kernel) ⟨Nat.le_of_ble_eq_true rfl, Nat.le_of_ble_eq_true rfl⟩) (l_pre C.hK C.hE hI.2.1 hI.2.2.2.1 hI.2.2.2.2.2 (by decide) rfl rfl) rfl rfl C.hl.1 rfl (lv_room (Nat.le_of_ble_eq_true rfl)) dL_law_397 C.hrm) (fun r2 M H locs hw2 hI => ?_)
  obtain ⟨he, hR⟩ := hw2
  exact lv_icmp_eq (tgt := 1187) C.hx C.hb dL_law_400 (by decide) (fun _ => nx _ _ _ _ hI hR) (fun h => absurd he h)
theorem lc_undo (C : LC p s m args c b L xs g adx adm ls x cells slots) (hI : LI g s adx adm X M H locs) (hR : RR X M) (nx : ∀ (X M : VT) (H : Heap) (locs : List Loc), LI g s adx adm X M H locs → RR X M → W p l e room_1 s m args below meth c H locs cells slots Q (F0 m 1187 ls [])) : W p l e room_1 s m args below meth c H locs cells slots Q (F0 m 405 ls []) := by
  refine lv_aload_n C.hx C.hb dL_law_405 rfl (lv_at C.hl 2 rfl) ?_
  refine l_Xi hI (va_runV (As := []) (rest := []) ⟨C.hx, C.hb, C.hml, C.hown, C.hts⟩ (c_X7_undo l g adx H.size X _ (q_undo hR)) (cwV 0 C.hts gL_law_X7_undo rfl rfl rfl (by decide +kernel) ⟨Nat.le_of_ble_eq_true rfl, Nat.le_of_ble_eq_true rfl⟩) (l_pre C.hK C.hE hI.1 hI.2.2.1 hI.2.2.2.2.2 (by decide) (cX_7 (by decide)) rfl) rfl rfl C.hl.1 rfl (lv_room (Nat.le_of_ble_eq_true rfl)) dL_law_406 C.hrm) (fun r X H locs hw hI => ?_)
  refine lv_aload_n C.hx C.hb dL_law_409 rfl (lv_at C.hl 1 rfl) ?_
  refine l_Mi hI (va_runV (As := []) (rest := [.int r]) ⟨C.hx, C.hb, C.hml, C.hown, C.hts⟩ (c_X8_undo l g adm H.size M (EQ r X) hw) (cwV 0 C.hts gL_law_X8_undo rfl rfl rfl (by decide +kernel) ⟨Nat.le_of_ble_eq_true rfl, Nat.le_of_ble_eq_true rfl⟩) (l_pre C.hK C.hE hI.2.1 hI.2.2.2.1 hI.2.2.2.2.2 (by decide) rfl rfl) rfl rfl C.hl.1 rfl (lv_room (Nat.le_of_ble_eq_true rfl)) dL_law_410 C.hrm) (fun r2 M H locs hw2 hI => ?_)
  obtain ⟨he, hR⟩ := hw2
  exact lv_icmp_eq (tgt := 1187) C.hx C.hb dL_law_413 (by decide) (fun _ => nx _ _ _ _ hI hR) (fun h => absurd he h)
theorem lc_moment (C : LC p s m args c b L xs g adx adm ls x cells slots) (hI : LI g s adx adm X M H locs) (hR : RR X M) (nx : ∀ (X M : VT) (H : Heap) (locs : List Loc), LI g s adx adm X M H locs → RR X M → W p l e room_1 s m args below meth c H locs cells slots Q (F0 m 1187 ls [])) : W p l e room_1 s m args below meth c H locs cells slots Q (F0 m 418 ls []) := by
  obtain ⟨a1, e1⟩ : ∃ a : Int32, a = xs (x + nI 1).toNatClampNeg := ⟨_, rfl⟩
  refine lv_aload_n C.hx C.hb dL_law_418 rfl (lv_at C.hl 2 rfl) ?_
  refine lw_arg C hI.2.2.2.2.2 (v := nI 1) (by decide) (C.hin 1 (by decide)) e1 dL_law_419 dL_law_420 dL_law_421 dL_law_422 dL_law_423 ?_
  refine l_Xi hI (va_runV (As := [.int a1]) (rest := []) ⟨C.hx, C.hb, C.hml, C.hown, C.hts⟩ (c_X7_moment l g adx H.size X a1 _ (q_moment hR a1)) (cwV 1 C.hts gL_law_X7_moment rfl rfl rfl (by decide +kernel) ⟨Nat.le_of_ble_eq_true rfl, Nat.le_of_ble_eq_true rfl⟩) (l_pre C.hK C.hE hI.1 hI.2.2.1 hI.2.2.2.2.2 (by decide) (cX_7 (by decide)) rfl) rfl rfl C.hl.1 rfl (lv_room (Nat.le_of_ble_eq_true rfl)) dL_law_424 C.hrm) (fun r X H locs hw hI => ?_)
  refine lv_aload_n C.hx C.hb dL_law_427 rfl (lv_at C.hl 1 rfl) ?_
  refine lw_arg C hI.2.2.2.2.2 (v := nI 1) (by decide) (C.hin 1 (by decide)) e1 dL_law_428 dL_law_429 dL_law_430 dL_law_431 dL_law_432 ?_
  refine l_Mi hI (va_runV (As := [.int a1]) (rest := [.int r]) ⟨C.hx, C.hb, C.hml, C.hown, C.hts⟩ (c_X8_moment l g adm H.size M a1 (EQ r X) hw) (cwV 1 C.hts gL_law_X8_moment rfl rfl rfl (by decide +kernel) ⟨Nat.le_of_ble_eq_true rfl, Nat.le_of_ble_eq_true rfl⟩) (l_pre C.hK C.hE hI.2.1 hI.2.2.2.1 hI.2.2.2.2.2 (by decide) rfl rfl) rfl rfl C.hl.1 rfl (lv_room (Nat.le_of_ble_eq_true rfl)) dL_law_433 C.hrm) (fun r2 M H locs hw2 hI => ?_)
  obtain ⟨he, hR⟩ := hw2
  exact lv_icmp_eq (tgt := 1187) C.hx C.hb dL_law_436 (by decide) (fun _ => nx _ _ _ _ hI hR) (fun h => absurd he h)
theorem lc_setUp (C : LC p s m args c b L xs g adx adm ls x cells slots) (hI : LI g s adx adm X M H locs) (hR : RR X M) (nx : ∀ (X M : VT) (H : Heap) (locs : List Loc), LI g s adx adm X M H locs → RR X M → W p l e room_1 s m args below meth c H locs cells slots Q (F0 m 1187 ls [])) : W p l e room_1 s m args below meth c H locs cells slots Q (F0 m 441 ls []) := by
  obtain ⟨a1, e1⟩ : ∃ a : Int32, a = xs (x + nI 1).toNatClampNeg := ⟨_, rfl⟩
  obtain ⟨a2, e2⟩ : ∃ a : Int32, a = xs (x + nI 2).toNatClampNeg := ⟨_, rfl⟩
  obtain ⟨a3, e3⟩ : ∃ a : Int32, a = xs (x + nI 3).toNatClampNeg := ⟨_, rfl⟩
  refine lv_aload_n C.hx C.hb dL_law_441 rfl (lv_at C.hl 2 rfl) ?_
  refine lw_arg C hI.2.2.2.2.2 (v := nI 1) (by decide) (C.hin 1 (by decide)) e1 dL_law_442 dL_law_443 dL_law_444 dL_law_445 dL_law_446 ?_
  refine lw_arg C hI.2.2.2.2.2 (v := nI 2) (by decide) (C.hin 2 (by decide)) e2 dL_law_447 dL_law_448 dL_law_449 dL_law_450 dL_law_451 ?_
  refine lw_arg C hI.2.2.2.2.2 (v := nI 3) (by decide) (C.hin 3 (by decide)) e3 dL_law_452 dL_law_453 dL_law_454 dL_law_455 dL_law_456 ?_
  refine l_Xi hI (va_runV (As := [.int a1, .int a2, .int a3]) (rest := []) ⟨C.hx, C.hb, C.hml, C.hown, C.hts⟩ (c_X7_setUp l g adx H.size X a1 a2 a3 _ (q_setUp hR a1 a2 a3)) (cwV 3 C.hts gL_law_X7_setUp rfl rfl rfl (by decide +kernel) ⟨Nat.le_of_ble_eq_true rfl, Nat.le_of_ble_eq_true rfl⟩) (l_pre C.hK C.hE hI.1 hI.2.2.1 hI.2.2.2.2.2 (by decide) (cX_7 (by decide)) rfl) rfl rfl C.hl.1 rfl (lv_room (Nat.le_of_ble_eq_true rfl)) dL_law_457 C.hrm) (fun r X H locs hw hI => ?_)
  refine lv_aload_n C.hx C.hb dL_law_460 rfl (lv_at C.hl 1 rfl) ?_
  refine lw_arg C hI.2.2.2.2.2 (v := nI 1) (by decide) (C.hin 1 (by decide)) e1 dL_law_461 dL_law_462 dL_law_463 dL_law_464 dL_law_465 ?_
  refine lw_arg C hI.2.2.2.2.2 (v := nI 2) (by decide) (C.hin 2 (by decide)) e2 dL_law_466 dL_law_467 dL_law_468 dL_law_469 dL_law_470 ?_
  refine lw_arg C hI.2.2.2.2.2 (v := nI 3) (by decide) (C.hin 3 (by decide)) e3 dL_law_471 dL_law_472 dL_law_473 dL_law_474 dL_law_475 ?_
  refine l_Mi hI (va_runV (As := [.int a1, .int a2, .int a3]) (rest := [.int r]) ⟨C.hx, C.hb, C.hml, C.hown, C.hts⟩ (c_X8_setUp l g adm H.size M a1 a2 a3 (EQ r X) hw) (cwV 3 C.hts gL_law_X8_setUp rfl rfl rfl (by decide +kernel) ⟨Nat.le_of_ble_eq_true rfl, Nat.le_of_ble_eq_true rfl⟩) (l_pre C.hK C.hE hI.2.1 hI.2.2.2.1 hI.2.2.2.2.2 (by decide) rfl rfl) rfl rfl C.hl.1 rfl (lv_room (Nat.le_of_ble_eq_true rfl)) dL_law_476 C.hrm) (fun r2 M H locs hw2 hI => ?_)
  obtain ⟨he, hR⟩ := hw2
  exact lv_icmp_eq (tgt := 1187) C.hx C.hb dL_law_479 (by decide) (fun _ => nx _ _ _ _ hI hR) (fun h => absurd he h)
theorem lc_lay (C : LC p s m args c b L xs g adx adm ls x cells slots) (hI : LI g s adx adm X M H locs) (hR : RR X M) (nx : ∀ (X M : VT) (H : Heap) (locs : List Loc), LI g s adx adm X M H locs → RR X M → W p l e room_1 s m args below meth c H locs cells slots Q (F0 m 1187 ls [])) : W p l e room_1 s m args below meth c H locs cells slots Q (F0 m 484 ls []) := by
  obtain ⟨a1, e1⟩ : ∃ a : Int32, a = xs (x + nI 1).toNatClampNeg := ⟨_, rfl⟩
  obtain ⟨a2, e2⟩ : ∃ a : Int32, a = xs (x + nI 2).toNatClampNeg := ⟨_, rfl⟩
  refine lv_aload_n C.hx C.hb dL_law_484 rfl (lv_at C.hl 2 rfl) ?_
  refine lw_arg C hI.2.2.2.2.2 (v := nI 1) (by decide) (C.hin 1 (by decide)) e1 dL_law_485 dL_law_486 dL_law_487 dL_law_488 dL_law_489 ?_
  refine lw_arg C hI.2.2.2.2.2 (v := nI 2) (by decide) (C.hin 2 (by decide)) e2 dL_law_490 dL_law_491 dL_law_492 dL_law_493 dL_law_494 ?_
  refine l_Xi hI (va_runV (As := [.int a1, .int a2]) (rest := []) ⟨C.hx, C.hb, C.hml, C.hown, C.hts⟩ (c_X7_lay l g adx H.size X a1 a2 _ (q_lay hR a1 a2)) (cwV 2 C.hts gL_law_X7_lay rfl rfl rfl (by decide +kernel) ⟨Nat.le_of_ble_eq_true rfl, Nat.le_of_ble_eq_true rfl⟩) (l_pre C.hK C.hE hI.1 hI.2.2.1 hI.2.2.2.2.2 (by decide) (cX_7 (by decide)) rfl) rfl rfl C.hl.1 rfl (lv_room (Nat.le_of_ble_eq_true rfl)) dL_law_495 C.hrm) (fun r X H locs hw hI => ?_)
  refine lv_aload_n C.hx C.hb dL_law_498 rfl (lv_at C.hl 1 rfl) ?_
  refine lw_arg C hI.2.2.2.2.2 (v := nI 1) (by decide) (C.hin 1 (by decide)) e1 dL_law_499 dL_law_500 dL_law_501 dL_law_502 dL_law_503 ?_
  refine lw_arg C hI.2.2.2.2.2 (v := nI 2) (by decide) (C.hin 2 (by decide)) e2 dL_law_504 dL_law_505 dL_law_506 dL_law_507 dL_law_508 ?_
  refine l_Mi hI (va_runV (As := [.int a1, .int a2]) (rest := [.int r]) ⟨C.hx, C.hb, C.hml, C.hown, C.hts⟩ (c_X8_lay l g adm H.size M a1 a2 (EQ r X) hw) (cwV 2 C.hts gL_law_X8_lay rfl rfl rfl (by decide +kernel) ⟨Nat.le_of_ble_eq_true rfl, Nat.le_of_ble_eq_true rfl⟩) (l_pre C.hK C.hE hI.2.1 hI.2.2.2.1 hI.2.2.2.2.2 (by decide) rfl rfl) rfl rfl C.hl.1 rfl (lv_room (Nat.le_of_ble_eq_true rfl)) dL_law_509 C.hrm) (fun r2 M H locs hw2 hI => ?_)
  obtain ⟨he, hR⟩ := hw2
  exact lv_icmp_eq (tgt := 1187) C.hx C.hb dL_law_512 (by decide) (fun _ => nx _ _ _ _ hI hR) (fun h => absurd he h)
theorem lc_hoop (C : LC p s m args c b L xs g adx adm ls x cells slots) (hI : LI g s adx adm X M H locs) (hR : RR X M) (nx : ∀ (X M : VT) (H : Heap) (locs : List Loc), LI g s adx adm X M H locs → RR X M → W p l e room_1 s m args below meth c H locs cells slots Q (F0 m 1187 ls [])) : W p l e room_1 s m args below meth c H locs cells slots Q (F0 m 517 ls []) := by
  obtain ⟨a1, e1⟩ : ∃ a : Int32, a = xs (x + nI 1).toNatClampNeg := ⟨_, rfl⟩
  refine lv_aload_n C.hx C.hb dL_law_517 rfl (lv_at C.hl 2 rfl) ?_
  refine lw_arg C hI.2.2.2.2.2 (v := nI 1) (by decide) (C.hin 1 (by decide)) e1 dL_law_518 dL_law_519 dL_law_520 dL_law_521 dL_law_522 ?_
  refine l_Xi hI (va_runV (As := [.int a1]) (rest := []) ⟨C.hx, C.hb, C.hml, C.hown, C.hts⟩ (c_X7_hoop l g adx H.size X a1 _ (q_hoop hR a1)) (cwV 1 C.hts gL_law_X7_hoop rfl rfl rfl (by decide +kernel) ⟨Nat.le_of_ble_eq_true rfl, Nat.le_of_ble_eq_true rfl⟩) (l_pre C.hK C.hE hI.1 hI.2.2.1 hI.2.2.2.2.2 (by decide) (cX_7 (by decide)) rfl) rfl rfl C.hl.1 rfl (lv_room (Nat.le_of_ble_eq_true rfl)) dL_law_523 C.hrm) (fun r X H locs hw hI => ?_)
  refine lv_aload_n C.hx C.hb dL_law_526 rfl (lv_at C.hl 1 rfl) ?_
  refine lw_arg C hI.2.2.2.2.2 (v := nI 1) (by decide) (C.hin 1 (by decide)) e1 dL_law_527 dL_law_528 dL_law_529 dL_law_530 dL_law_531 ?_
  refine l_Mi hI (va_runV (As := [.int a1]) (rest := [.int r]) ⟨C.hx, C.hb, C.hml, C.hown, C.hts⟩ (c_X8_hoop l g adm H.size M a1 (EQ r X) hw) (cwV 1 C.hts gL_law_X8_hoop rfl rfl rfl (by decide +kernel) ⟨Nat.le_of_ble_eq_true rfl, Nat.le_of_ble_eq_true rfl⟩) (l_pre C.hK C.hE hI.2.1 hI.2.2.2.1 hI.2.2.2.2.2 (by decide) rfl rfl) rfl rfl C.hl.1 rfl (lv_room (Nat.le_of_ble_eq_true rfl)) dL_law_532 C.hrm) (fun r2 M H locs hw2 hI => ?_)
  obtain ⟨he, hR⟩ := hw2
  exact lv_icmp_eq (tgt := 1187) C.hx C.hb dL_law_535 (by decide) (fun _ => nx _ _ _ _ hI hR) (fun h => absurd he h)
theorem lc_ground (C : LC p s m args c b L xs g adx adm ls x cells slots) (hI : LI g s adx adm X M H locs) (hR : RR X M) (nx : ∀ (X M : VT) (H : Heap) (locs : List Loc), LI g s adx adm X M H locs → RR X M → W p l e room_1 s m args below meth c H locs cells slots Q (F0 m 1187 ls [])) : W p l e room_1 s m args below meth c H locs cells slots Q (F0 m 540 ls []) := by
  obtain ⟨a1, e1⟩ : ∃ a : Int32, a = xs (x + nI 1).toNatClampNeg := ⟨_, rfl⟩
  refine lv_aload_n C.hx C.hb dL_law_540 rfl (lv_at C.hl 2 rfl) ?_
  refine lw_arg C hI.2.2.2.2.2 (v := nI 1) (by decide) (C.hin 1 (by decide)) e1 dL_law_541 dL_law_542 dL_law_543 dL_law_544 dL_law_545 ?_
  refine l_Xi hI (va_runV (As := [.int a1]) (rest := []) ⟨C.hx, C.hb, C.hml, C.hown, C.hts⟩ (c_X7_ground l g adx H.size X a1 _ (q_ground hR a1)) (cwV 1 C.hts gL_law_X7_ground rfl rfl rfl (by decide +kernel) ⟨Nat.le_of_ble_eq_true rfl, Nat.le_of_ble_eq_true rfl⟩) (l_pre C.hK C.hE hI.1 hI.2.2.1 hI.2.2.2.2.2 (by decide) (cX_7 (by decide)) rfl) rfl rfl C.hl.1 rfl (lv_room (Nat.le_of_ble_eq_true rfl)) dL_law_546 C.hrm) (fun r X H locs hw hI => ?_)
  refine lv_aload_n C.hx C.hb dL_law_549 rfl (lv_at C.hl 1 rfl) ?_
  refine lw_arg C hI.2.2.2.2.2 (v := nI 1) (by decide) (C.hin 1 (by decide)) e1 dL_law_550 dL_law_551 dL_law_552 dL_law_553 dL_law_554 ?_
  refine l_Mi hI (va_runV (As := [.int a1]) (rest := [.int r]) ⟨C.hx, C.hb, C.hml, C.hown, C.hts⟩ (c_X8_ground l g adm H.size M a1 (EQ r X) hw) (cwV 1 C.hts gL_law_X8_ground rfl rfl rfl (by decide +kernel) ⟨Nat.le_of_ble_eq_true rfl, Nat.le_of_ble_eq_true rfl⟩) (l_pre C.hK C.hE hI.2.1 hI.2.2.2.1 hI.2.2.2.2.2 (by decide) rfl rfl) rfl rfl C.hl.1 rfl (lv_room (Nat.le_of_ble_eq_true rfl)) dL_law_555 C.hrm) (fun r2 M H locs hw2 hI => ?_)
  obtain ⟨he, hR⟩ := hw2
  exact lv_icmp_eq (tgt := 1187) C.hx C.hb dL_law_558 (by decide) (fun _ => nx _ _ _ _ hI hR) (fun h => absurd he h)
theorem lc_force (C : LC p s m args c b L xs g adx adm ls x cells slots) (hI : LI g s adx adm X M H locs) (hR : RR X M) (nx : ∀ (X M : VT) (H : Heap) (locs : List Loc), LI g s adx adm X M H locs → RR X M → W p l e room_1 s m args below meth c H locs cells slots Q (F0 m 1187 ls [])) : W p l e room_1 s m args below meth c H locs cells slots Q (F0 m 563 ls []) := by
  obtain ⟨a1, e1⟩ : ∃ a : Int32, a = xs (x + nI 1).toNatClampNeg := ⟨_, rfl⟩
  refine lv_aload_n C.hx C.hb dL_law_563 rfl (lv_at C.hl 2 rfl) ?_
  refine lw_arg C hI.2.2.2.2.2 (v := nI 1) (by decide) (C.hin 1 (by decide)) e1 dL_law_564 dL_law_565 dL_law_566 dL_law_567 dL_law_568 ?_
  refine l_Xi hI (va_runV (As := [.int a1]) (rest := []) ⟨C.hx, C.hb, C.hml, C.hown, C.hts⟩ (c_X7_force l g adx H.size X a1 _ (q_force hR a1)) (cwV 1 C.hts gL_law_X7_force rfl rfl rfl (by decide +kernel) ⟨Nat.le_of_ble_eq_true rfl, Nat.le_of_ble_eq_true rfl⟩) (l_pre C.hK C.hE hI.1 hI.2.2.1 hI.2.2.2.2.2 (by decide) (cX_7 (by decide)) rfl) rfl rfl C.hl.1 rfl (lv_room (Nat.le_of_ble_eq_true rfl)) dL_law_569 C.hrm) (fun r X H locs hw hI => ?_)
  refine lv_aload_n C.hx C.hb dL_law_572 rfl (lv_at C.hl 1 rfl) ?_
  refine lw_arg C hI.2.2.2.2.2 (v := nI 1) (by decide) (C.hin 1 (by decide)) e1 dL_law_573 dL_law_574 dL_law_575 dL_law_576 dL_law_577 ?_
  refine l_Mi hI (va_runV (As := [.int a1]) (rest := [.int r]) ⟨C.hx, C.hb, C.hml, C.hown, C.hts⟩ (c_X8_force l g adm H.size M a1 (EQ r X) hw) (cwV 1 C.hts gL_law_X8_force rfl rfl rfl (by decide +kernel) ⟨Nat.le_of_ble_eq_true rfl, Nat.le_of_ble_eq_true rfl⟩) (l_pre C.hK C.hE hI.2.1 hI.2.2.2.1 hI.2.2.2.2.2 (by decide) rfl rfl) rfl rfl C.hl.1 rfl (lv_room (Nat.le_of_ble_eq_true rfl)) dL_law_578 C.hrm) (fun r2 M H locs hw2 hI => ?_)
  obtain ⟨he, hR⟩ := hw2
  exact lv_icmp_eq (tgt := 1187) C.hx C.hb dL_law_581 (by decide) (fun _ => nx _ _ _ _ hI hR) (fun h => absurd he h)
theorem lc_ahead (C : LC p s m args c b L xs g adx adm ls x cells slots) (hI : LI g s adx adm X M H locs) (hR : RR X M) (nx : ∀ (X M : VT) (H : Heap) (locs : List Loc), LI g s adx adm X M H locs → RR X M → W p l e room_1 s m args below meth c H locs cells slots Q (F0 m 1187 ls [])) : W p l e room_1 s m args below meth c H locs cells slots Q (F0 m 586 ls []) := by
  obtain ⟨a1, e1⟩ : ∃ a : Int32, a = xs (x + nI 1).toNatClampNeg := ⟨_, rfl⟩
  obtain ⟨a2, e2⟩ : ∃ a : Int32, a = xs (x + nI 2).toNatClampNeg := ⟨_, rfl⟩
  refine lv_aload_n C.hx C.hb dL_law_586 rfl (lv_at C.hl 2 rfl) ?_
  refine lw_arg C hI.2.2.2.2.2 (v := nI 1) (by decide) (C.hin 1 (by decide)) e1 dL_law_587 dL_law_588 dL_law_589 dL_law_590 dL_law_591 ?_
  refine lw_arg C hI.2.2.2.2.2 (v := nI 2) (by decide) (C.hin 2 (by decide)) e2 dL_law_592 dL_law_593 dL_law_594 dL_law_595 dL_law_596 ?_
  refine l_Xi hI (va_runV (As := [.int a1, .int a2]) (rest := []) ⟨C.hx, C.hb, C.hml, C.hown, C.hts⟩ (c_X7_ahead l g adx H.size X a1 a2 _ (q_ahead hR a1 a2)) (cwV 2 C.hts gL_law_X7_ahead rfl rfl rfl (by decide +kernel) ⟨Nat.le_of_ble_eq_true rfl, Nat.le_of_ble_eq_true rfl⟩) (l_pre C.hK C.hE hI.1 hI.2.2.1 hI.2.2.2.2.2 (by decide) (cX_7 (by decide)) rfl) rfl rfl C.hl.1 rfl (lv_room (Nat.le_of_ble_eq_true rfl)) dL_law_597 C.hrm) (fun r X H locs hw hI => ?_)
  refine lv_aload_n C.hx C.hb dL_law_600 rfl (lv_at C.hl 1 rfl) ?_
  refine lw_arg C hI.2.2.2.2.2 (v := nI 1) (by decide) (C.hin 1 (by decide)) e1 dL_law_601 dL_law_602 dL_law_603 dL_law_604 dL_law_605 ?_
  refine lw_arg C hI.2.2.2.2.2 (v := nI 2) (by decide) (C.hin 2 (by decide)) e2 dL_law_606 dL_law_607 dL_law_608 dL_law_609 dL_law_610 ?_
  refine l_Mi hI (va_runV (As := [.int a1, .int a2]) (rest := [.int r]) ⟨C.hx, C.hb, C.hml, C.hown, C.hts⟩ (c_X8_ahead l g adm H.size M a1 a2 (EQ r X) hw) (cwV 2 C.hts gL_law_X8_ahead rfl rfl rfl (by decide +kernel) ⟨Nat.le_of_ble_eq_true rfl, Nat.le_of_ble_eq_true rfl⟩) (l_pre C.hK C.hE hI.2.1 hI.2.2.2.1 hI.2.2.2.2.2 (by decide) rfl rfl) rfl rfl C.hl.1 rfl (lv_room (Nat.le_of_ble_eq_true rfl)) dL_law_611 C.hrm) (fun r2 M H locs hw2 hI => ?_)
  obtain ⟨he, hR⟩ := hw2
  exact lv_icmp_eq (tgt := 1187) C.hx C.hb dL_law_614 (by decide) (fun _ => nx _ _ _ _ hI hR) (fun h => absurd he h)
theorem lc_fewest (C : LC p s m args c b L xs g adx adm ls x cells slots) (hI : LI g s adx adm X M H locs) (hR : RR X M) (nx : ∀ (X M : VT) (H : Heap) (locs : List Loc), LI g s adx adm X M H locs → RR X M → W p l e room_1 s m args below meth c H locs cells slots Q (F0 m 1187 ls [])) : W p l e room_1 s m args below meth c H locs cells slots Q (F0 m 619 ls []) := by
  obtain ⟨a1, e1⟩ : ∃ a : Int32, a = xs (x + nI 1).toNatClampNeg := ⟨_, rfl⟩
  refine lv_aload_n C.hx C.hb dL_law_619 rfl (lv_at C.hl 2 rfl) ?_
  refine lw_arg C hI.2.2.2.2.2 (v := nI 1) (by decide) (C.hin 1 (by decide)) e1 dL_law_620 dL_law_621 dL_law_622 dL_law_623 dL_law_624 ?_
  refine l_Xi hI (va_runV (As := [.int a1]) (rest := []) ⟨C.hx, C.hb, C.hml, C.hown, C.hts⟩ (c_X7_fewest l g adx H.size X a1 _ (q_fewest hR a1)) (cwV 1 C.hts gL_law_X7_fewest rfl rfl rfl (by decide +kernel) ⟨Nat.le_of_ble_eq_true rfl, Nat.le_of_ble_eq_true rfl⟩) (l_pre C.hK C.hE hI.1 hI.2.2.1 hI.2.2.2.2.2 (by decide) (cX_7 (by decide)) rfl) rfl rfl C.hl.1 rfl (lv_room (Nat.le_of_ble_eq_true rfl)) dL_law_625 C.hrm) (fun r X H locs hw hI => ?_)
  refine lv_aload_n C.hx C.hb dL_law_628 rfl (lv_at C.hl 1 rfl) ?_
  refine lw_arg C hI.2.2.2.2.2 (v := nI 1) (by decide) (C.hin 1 (by decide)) e1 dL_law_629 dL_law_630 dL_law_631 dL_law_632 dL_law_633 ?_
  refine l_Mi hI (va_runV (As := [.int a1]) (rest := [.int r]) ⟨C.hx, C.hb, C.hml, C.hown, C.hts⟩ (c_X8_fewest l g adm H.size M a1 (EQ r X) hw) (cwV 1 C.hts gL_law_X8_fewest rfl rfl rfl (by decide +kernel) ⟨Nat.le_of_ble_eq_true rfl, Nat.le_of_ble_eq_true rfl⟩) (l_pre C.hK C.hE hI.2.1 hI.2.2.2.1 hI.2.2.2.2.2 (by decide) rfl rfl) rfl rfl C.hl.1 rfl (lv_room (Nat.le_of_ble_eq_true rfl)) dL_law_634 C.hrm) (fun r2 M H locs hw2 hI => ?_)
  obtain ⟨he, hR⟩ := hw2
  exact lv_icmp_eq (tgt := 1187) C.hx C.hb dL_law_637 (by decide) (fun _ => nx _ _ _ _ hI hR) (fun h => absurd he h)
theorem lc_soonest (C : LC p s m args c b L xs g adx adm ls x cells slots) (hI : LI g s adx adm X M H locs) (hR : RR X M) (nx : ∀ (X M : VT) (H : Heap) (locs : List Loc), LI g s adx adm X M H locs → RR X M → W p l e room_1 s m args below meth c H locs cells slots Q (F0 m 1187 ls [])) : W p l e room_1 s m args below meth c H locs cells slots Q (F0 m 642 ls []) := by
  obtain ⟨a1, e1⟩ : ∃ a : Int32, a = xs (x + nI 1).toNatClampNeg := ⟨_, rfl⟩
  refine lv_aload_n C.hx C.hb dL_law_642 rfl (lv_at C.hl 2 rfl) ?_
  refine lw_arg C hI.2.2.2.2.2 (v := nI 1) (by decide) (C.hin 1 (by decide)) e1 dL_law_643 dL_law_644 dL_law_645 dL_law_646 dL_law_647 ?_
  refine l_Xi hI (va_runV (As := [.int a1]) (rest := []) ⟨C.hx, C.hb, C.hml, C.hown, C.hts⟩ (c_X7_soonest l g adx H.size X a1 _ (q_soonest hR a1)) (cwV 1 C.hts gL_law_X7_soonest rfl rfl rfl (by decide +kernel) ⟨Nat.le_of_ble_eq_true rfl, Nat.le_of_ble_eq_true rfl⟩) (l_pre C.hK C.hE hI.1 hI.2.2.1 hI.2.2.2.2.2 (by decide) (cX_7 (by decide)) rfl) rfl rfl C.hl.1 rfl (lv_room (Nat.le_of_ble_eq_true rfl)) dL_law_648 C.hrm) (fun r X H locs hw hI => ?_)
  refine lv_aload_n C.hx C.hb dL_law_651 rfl (lv_at C.hl 1 rfl) ?_
  refine lw_arg C hI.2.2.2.2.2 (v := nI 1) (by decide) (C.hin 1 (by decide)) e1 dL_law_652 dL_law_653 dL_law_654 dL_law_655 dL_law_656 ?_
  refine l_Mi hI (va_runV (As := [.int a1]) (rest := [.int r]) ⟨C.hx, C.hb, C.hml, C.hown, C.hts⟩ (c_X8_soonest l g adm H.size M a1 (EQ r X) hw) (cwV 1 C.hts gL_law_X8_soonest rfl rfl rfl (by decide +kernel) ⟨Nat.le_of_ble_eq_true rfl, Nat.le_of_ble_eq_true rfl⟩) (l_pre C.hK C.hE hI.2.1 hI.2.2.2.1 hI.2.2.2.2.2 (by decide) rfl rfl) rfl rfl C.hl.1 rfl (lv_room (Nat.le_of_ble_eq_true rfl)) dL_law_657 C.hrm) (fun r2 M H locs hw2 hI => ?_)
  obtain ⟨he, hR⟩ := hw2
  exact lv_icmp_eq (tgt := 1187) C.hx C.hb dL_law_660 (by decide) (fun _ => nx _ _ _ _ hI hR) (fun h => absurd he h)
theorem lc_heldFrom (C : LC p s m args c b L xs g adx adm ls x cells slots) (hI : LI g s adx adm X M H locs) (hR : RR X M) (nx : ∀ (X M : VT) (H : Heap) (locs : List Loc), LI g s adx adm X M H locs → RR X M → W p l e room_1 s m args below meth c H locs cells slots Q (F0 m 1187 ls [])) : W p l e room_1 s m args below meth c H locs cells slots Q (F0 m 665 ls []) := by
  refine lv_aload_n C.hx C.hb dL_law_665 rfl (lv_at C.hl 2 rfl) ?_
  refine l_Xi hI (va_runV (As := []) (rest := []) ⟨C.hx, C.hb, C.hml, C.hown, C.hts⟩ (c_X7_heldFrom l g adx H.size X _ (q_heldFrom hR)) (cwV 0 C.hts gL_law_X7_heldFrom rfl rfl rfl (by decide +kernel) ⟨Nat.le_of_ble_eq_true rfl, Nat.le_of_ble_eq_true rfl⟩) (l_pre C.hK C.hE hI.1 hI.2.2.1 hI.2.2.2.2.2 (by decide) (cX_7 (by decide)) rfl) rfl rfl C.hl.1 rfl (lv_room (Nat.le_of_ble_eq_true rfl)) dL_law_666 C.hrm) (fun r X H locs hw hI => ?_)
  refine lv_aload_n C.hx C.hb dL_law_669 rfl (lv_at C.hl 1 rfl) ?_
  refine l_Mi hI (va_runV (As := []) (rest := [.int r]) ⟨C.hx, C.hb, C.hml, C.hown, C.hts⟩ (c_X8_heldFrom l g adm H.size M (EQ r X) hw) (cwV 0 C.hts gL_law_X8_heldFrom rfl rfl rfl (by decide +kernel) ⟨Nat.le_of_ble_eq_true rfl, Nat.le_of_ble_eq_true rfl⟩) (l_pre C.hK C.hE hI.2.1 hI.2.2.2.1 hI.2.2.2.2.2 (by decide) rfl rfl) rfl rfl C.hl.1 rfl (lv_room (Nat.le_of_ble_eq_true rfl)) dL_law_670 C.hrm) (fun r2 M H locs hw2 hI => ?_)
  obtain ⟨he, hR⟩ := hw2
  exact lv_icmp_eq (tgt := 1187) C.hx C.hb dL_law_673 (by decide) (fun _ => nx _ _ _ _ hI hR) (fun h => absurd he h)
theorem lc_righted (C : LC p s m args c b L xs g adx adm ls x cells slots) (hI : LI g s adx adm X M H locs) (hR : RR X M) (nx : ∀ (X M : VT) (H : Heap) (locs : List Loc), LI g s adx adm X M H locs → RR X M → W p l e room_1 s m args below meth c H locs cells slots Q (F0 m 1187 ls [])) : W p l e room_1 s m args below meth c H locs cells slots Q (F0 m 678 ls []) := by
  refine lv_aload_n C.hx C.hb dL_law_678 rfl (lv_at C.hl 2 rfl) ?_
  refine l_Xi hI (va_runV (As := []) (rest := []) ⟨C.hx, C.hb, C.hml, C.hown, C.hts⟩ (c_X7_righted l g adx H.size X _ (q_righted hR)) (cwV 0 C.hts gL_law_X7_righted rfl rfl rfl (by decide +kernel) ⟨Nat.le_of_ble_eq_true rfl, Nat.le_of_ble_eq_true rfl⟩) (l_pre C.hK C.hE hI.1 hI.2.2.1 hI.2.2.2.2.2 (by decide) (cX_7 (by decide)) rfl) rfl rfl C.hl.1 rfl (lv_room (Nat.le_of_ble_eq_true rfl)) dL_law_679 C.hrm) (fun r X H locs hw hI => ?_)
  refine lv_aload_n C.hx C.hb dL_law_682 rfl (lv_at C.hl 1 rfl) ?_
  refine l_Mi hI (va_runV (As := []) (rest := [.int r]) ⟨C.hx, C.hb, C.hml, C.hown, C.hts⟩ (c_X8_righted l g adm H.size M (EQ r X) hw) (cwV 0 C.hts gL_law_X8_righted rfl rfl rfl (by decide +kernel) ⟨Nat.le_of_ble_eq_true rfl, Nat.le_of_ble_eq_true rfl⟩) (l_pre C.hK C.hE hI.2.1 hI.2.2.2.1 hI.2.2.2.2.2 (by decide) rfl rfl) rfl rfl C.hl.1 rfl (lv_room (Nat.le_of_ble_eq_true rfl)) dL_law_683 C.hrm) (fun r2 M H locs hw2 hI => ?_)
  obtain ⟨he, hR⟩ := hw2
  exact lv_icmp_eq (tgt := 1187) C.hx C.hb dL_law_686 (by decide) (fun _ => nx _ _ _ _ hI hR) (fun h => absurd he h)
theorem lc_plan (C : LC p s m args c b L xs g adx adm ls x cells slots) (hI : LI g s adx adm X M H locs) (hR : RR X M) (nx : ∀ (X M : VT) (H : Heap) (locs : List Loc), LI g s adx adm X M H locs → RR X M → W p l e room_1 s m args below meth c H locs cells slots Q (F0 m 1187 ls [])) : W p l e room_1 s m args below meth c H locs cells slots Q (F0 m 691 ls []) := by
  obtain ⟨a1, e1⟩ : ∃ a : Int32, a = xs (x + nI 1).toNatClampNeg := ⟨_, rfl⟩
  obtain ⟨a2, e2⟩ : ∃ a : Int32, a = xs (x + nI 2).toNatClampNeg := ⟨_, rfl⟩
  obtain ⟨a3, e3⟩ : ∃ a : Int32, a = xs (x + nI 3).toNatClampNeg := ⟨_, rfl⟩
  obtain ⟨a4, e4⟩ : ∃ a : Int32, a = xs (x + nI 4).toNatClampNeg := ⟨_, rfl⟩
  refine lv_aload_n C.hx C.hb dL_law_691 rfl (lv_at C.hl 2 rfl) ?_
  refine lw_arg C hI.2.2.2.2.2 (v := nI 1) (by decide) (C.hin 1 (by decide)) e1 dL_law_692 dL_law_693 dL_law_694 dL_law_695 dL_law_696 ?_
  refine lw_arg C hI.2.2.2.2.2 (v := nI 2) (by decide) (C.hin 2 (by decide)) e2 dL_law_697 dL_law_698 dL_law_699 dL_law_700 dL_law_701 ?_
  refine lw_arg C hI.2.2.2.2.2 (v := nI 3) (by decide) (C.hin 3 (by decide)) e3 dL_law_702 dL_law_703 dL_law_704 dL_law_705 dL_law_706 ?_
  refine lw_arg C hI.2.2.2.2.2 (v := nI 4) (by decide) (C.hin 4 (by decide)) e4 dL_law_707 dL_law_708 dL_law_709 dL_law_710 dL_law_711 ?_
  refine l_Xi hI (va_runV (As := [.int a1, .int a2, .int a3, .int a4]) (rest := []) ⟨C.hx, C.hb, C.hml, C.hown, C.hts⟩ (c_X7_plan l g adx H.size X a1 a2 a3 a4 _ (q_plan hR a1 a2 a3 a4)) (cwV 4 C.hts gL_law_X7_plan rfl rfl rfl (by decide +kernel) ⟨Nat.le_of_ble_eq_true rfl, Nat.le_of_ble_eq_true rfl⟩) (l_pre C.hK C.hE hI.1 hI.2.2.1 hI.2.2.2.2.2 (by decide) (cX_7 (by decide)) rfl) rfl rfl C.hl.1 rfl (lv_room (Nat.le_of_ble_eq_true rfl)) dL_law_712 C.hrm) (fun r X H locs hw hI => ?_)
  refine lv_aload_n C.hx C.hb dL_law_715 rfl (lv_at C.hl 1 rfl) ?_
  refine lw_arg C hI.2.2.2.2.2 (v := nI 1) (by decide) (C.hin 1 (by decide)) e1 dL_law_716 dL_law_717 dL_law_718 dL_law_719 dL_law_720 ?_
  refine lw_arg C hI.2.2.2.2.2 (v := nI 2) (by decide) (C.hin 2 (by decide)) e2 dL_law_721 dL_law_722 dL_law_723 dL_law_724 dL_law_725 ?_
  refine lw_arg C hI.2.2.2.2.2 (v := nI 3) (by decide) (C.hin 3 (by decide)) e3 dL_law_726 dL_law_727 dL_law_728 dL_law_729 dL_law_730 ?_
  refine lw_arg C hI.2.2.2.2.2 (v := nI 4) (by decide) (C.hin 4 (by decide)) e4 dL_law_731 dL_law_732 dL_law_733 dL_law_734 dL_law_735 ?_
  refine l_Mi hI (va_runV (As := [.int a1, .int a2, .int a3, .int a4]) (rest := [.int r]) ⟨C.hx, C.hb, C.hml, C.hown, C.hts⟩ (c_X8_plan l g adm H.size M a1 a2 a3 a4 (EQ r X) hw) (cwV 4 C.hts gL_law_X8_plan rfl rfl rfl (by decide +kernel) ⟨Nat.le_of_ble_eq_true rfl, Nat.le_of_ble_eq_true rfl⟩) (l_pre C.hK C.hE hI.2.1 hI.2.2.2.1 hI.2.2.2.2.2 (by decide) rfl rfl) rfl rfl C.hl.1 rfl (lv_room (Nat.le_of_ble_eq_true rfl)) dL_law_736 C.hrm) (fun r2 M H locs hw2 hI => ?_)
  obtain ⟨he, hR⟩ := hw2
  exact lv_icmp_eq (tgt := 1187) C.hx C.hb dL_law_739 (by decide) (fun _ => nx _ _ _ _ hI hR) (fun h => absurd he h)
theorem lc_seen (C : LC p s m args c b L xs g adx adm ls x cells slots) (hI : LI g s adx adm X M H locs) (hR : RR X M) (nx : ∀ (X M : VT) (H : Heap) (locs : List Loc), LI g s adx adm X M H locs → RR X M → W p l e room_1 s m args below meth c H locs cells slots Q (F0 m 1187 ls [])) : W p l e room_1 s m args below meth c H locs cells slots Q (F0 m 744 ls []) := by
  obtain ⟨a1, e1⟩ : ∃ a : Int32, a = xs (x + nI 1).toNatClampNeg := ⟨_, rfl⟩
  obtain ⟨a2, e2⟩ : ∃ a : Int32, a = xs (x + nI 2).toNatClampNeg := ⟨_, rfl⟩
  obtain ⟨a3, e3⟩ : ∃ a : Int32, a = xs (x + nI 3).toNatClampNeg := ⟨_, rfl⟩
  obtain ⟨a4, e4⟩ : ∃ a : Int32, a = xs (x + nI 4).toNatClampNeg := ⟨_, rfl⟩
  refine lv_aload_n C.hx C.hb dL_law_744 rfl (lv_at C.hl 2 rfl) ?_
  refine lw_arg C hI.2.2.2.2.2 (v := nI 1) (by decide) (C.hin 1 (by decide)) e1 dL_law_745 dL_law_746 dL_law_747 dL_law_748 dL_law_749 ?_
  refine lw_arg C hI.2.2.2.2.2 (v := nI 2) (by decide) (C.hin 2 (by decide)) e2 dL_law_750 dL_law_751 dL_law_752 dL_law_753 dL_law_754 ?_
  refine lw_arg C hI.2.2.2.2.2 (v := nI 3) (by decide) (C.hin 3 (by decide)) e3 dL_law_755 dL_law_756 dL_law_757 dL_law_758 dL_law_759 ?_
  refine lw_arg C hI.2.2.2.2.2 (v := nI 4) (by decide) (C.hin 4 (by decide)) e4 dL_law_760 dL_law_761 dL_law_762 dL_law_763 dL_law_764 ?_
  refine l_Xi hI (va_runV (As := [.int a1, .int a2, .int a3, .int a4]) (rest := []) ⟨C.hx, C.hb, C.hml, C.hown, C.hts⟩ (c_X7_seen l g adx H.size X a1 a2 a3 a4 _ (q_seen hR a1 a2 a3 a4)) (cwV 4 C.hts gL_law_X7_seen rfl rfl rfl (by decide +kernel) ⟨Nat.le_of_ble_eq_true rfl, Nat.le_of_ble_eq_true rfl⟩) (l_pre C.hK C.hE hI.1 hI.2.2.1 hI.2.2.2.2.2 (by decide) (cX_7 (by decide)) rfl) rfl rfl C.hl.1 rfl (lv_room (Nat.le_of_ble_eq_true rfl)) dL_law_765 C.hrm) (fun r X H locs hw hI => ?_)
  refine lv_aload_n C.hx C.hb dL_law_768 rfl (lv_at C.hl 1 rfl) ?_
  refine lw_arg C hI.2.2.2.2.2 (v := nI 1) (by decide) (C.hin 1 (by decide)) e1 dL_law_769 dL_law_770 dL_law_771 dL_law_772 dL_law_773 ?_
  refine lw_arg C hI.2.2.2.2.2 (v := nI 2) (by decide) (C.hin 2 (by decide)) e2 dL_law_774 dL_law_775 dL_law_776 dL_law_777 dL_law_778 ?_
  refine lw_arg C hI.2.2.2.2.2 (v := nI 3) (by decide) (C.hin 3 (by decide)) e3 dL_law_779 dL_law_780 dL_law_781 dL_law_782 dL_law_783 ?_
  refine lw_arg C hI.2.2.2.2.2 (v := nI 4) (by decide) (C.hin 4 (by decide)) e4 dL_law_784 dL_law_785 dL_law_786 dL_law_787 dL_law_788 ?_
  refine l_Mi hI (va_runV (As := [.int a1, .int a2, .int a3, .int a4]) (rest := [.int r]) ⟨C.hx, C.hb, C.hml, C.hown, C.hts⟩ (c_X8_seen l g adm H.size M a1 a2 a3 a4 (EQ r X) hw) (cwV 4 C.hts gL_law_X8_seen rfl rfl rfl (by decide +kernel) ⟨Nat.le_of_ble_eq_true rfl, Nat.le_of_ble_eq_true rfl⟩) (l_pre C.hK C.hE hI.2.1 hI.2.2.2.1 hI.2.2.2.2.2 (by decide) rfl rfl) rfl rfl C.hl.1 rfl (lv_room (Nat.le_of_ble_eq_true rfl)) dL_law_789 C.hrm) (fun r2 M H locs hw2 hI => ?_)
  obtain ⟨he, hR⟩ := hw2
  exact lv_icmp_eq (tgt := 1187) C.hx C.hb dL_law_792 (by decide) (fun _ => nx _ _ _ _ hI hR) (fun h => absurd he h)
theorem lc_who (C : LC p s m args c b L xs g adx adm ls x cells slots) (hI : LI g s adx adm X M H locs) (hR : RR X M) (nx : ∀ (X M : VT) (H : Heap) (locs : List Loc), LI g s adx adm X M H locs → RR X M → W p l e room_1 s m args below meth c H locs cells slots Q (F0 m 1187 ls [])) : W p l e room_1 s m args below meth c H locs cells slots Q (F0 m 797 ls []) := by
  obtain ⟨a1, e1⟩ : ∃ a : Int32, a = xs (x + nI 1).toNatClampNeg := ⟨_, rfl⟩
  obtain ⟨a2, e2⟩ : ∃ a : Int32, a = xs (x + nI 2).toNatClampNeg := ⟨_, rfl⟩
  obtain ⟨a3, e3⟩ : ∃ a : Int32, a = xs (x + nI 3).toNatClampNeg := ⟨_, rfl⟩
  obtain ⟨a4, e4⟩ : ∃ a : Int32, a = xs (x + nI 4).toNatClampNeg := ⟨_, rfl⟩
  refine lv_aload_n C.hx C.hb dL_law_797 rfl (lv_at C.hl 2 rfl) ?_
  refine lw_arg C hI.2.2.2.2.2 (v := nI 1) (by decide) (C.hin 1 (by decide)) e1 dL_law_798 dL_law_799 dL_law_800 dL_law_801 dL_law_802 ?_
  refine lw_arg C hI.2.2.2.2.2 (v := nI 2) (by decide) (C.hin 2 (by decide)) e2 dL_law_803 dL_law_804 dL_law_805 dL_law_806 dL_law_807 ?_
  refine lw_arg C hI.2.2.2.2.2 (v := nI 3) (by decide) (C.hin 3 (by decide)) e3 dL_law_808 dL_law_809 dL_law_810 dL_law_811 dL_law_812 ?_
  refine lw_arg C hI.2.2.2.2.2 (v := nI 4) (by decide) (C.hin 4 (by decide)) e4 dL_law_813 dL_law_814 dL_law_815 dL_law_816 dL_law_817 ?_
  refine l_Xi hI (va_runV (As := [.int a1, .int a2, .int a3, .int a4]) (rest := []) ⟨C.hx, C.hb, C.hml, C.hown, C.hts⟩ (c_X7_who l g adx H.size X a1 a2 a3 a4 _ (q_who hR a1 a2 a3 a4)) (cwV 4 C.hts gL_law_X7_who rfl rfl rfl (by decide +kernel) ⟨Nat.le_of_ble_eq_true rfl, Nat.le_of_ble_eq_true rfl⟩) (l_pre C.hK C.hE hI.1 hI.2.2.1 hI.2.2.2.2.2 (by decide) (cX_7 (by decide)) rfl) rfl rfl C.hl.1 rfl (lv_room (Nat.le_of_ble_eq_true rfl)) dL_law_818 C.hrm) (fun r X H locs hw hI => ?_)
  refine lv_aload_n C.hx C.hb dL_law_821 rfl (lv_at C.hl 1 rfl) ?_
  refine lw_arg C hI.2.2.2.2.2 (v := nI 1) (by decide) (C.hin 1 (by decide)) e1 dL_law_822 dL_law_823 dL_law_824 dL_law_825 dL_law_826 ?_
  refine lw_arg C hI.2.2.2.2.2 (v := nI 2) (by decide) (C.hin 2 (by decide)) e2 dL_law_827 dL_law_828 dL_law_829 dL_law_830 dL_law_831 ?_
  refine lw_arg C hI.2.2.2.2.2 (v := nI 3) (by decide) (C.hin 3 (by decide)) e3 dL_law_832 dL_law_833 dL_law_834 dL_law_835 dL_law_836 ?_
  refine lw_arg C hI.2.2.2.2.2 (v := nI 4) (by decide) (C.hin 4 (by decide)) e4 dL_law_837 dL_law_838 dL_law_839 dL_law_840 dL_law_841 ?_
  refine l_Mi hI (va_runV (As := [.int a1, .int a2, .int a3, .int a4]) (rest := [.int r]) ⟨C.hx, C.hb, C.hml, C.hown, C.hts⟩ (c_X8_who l g adm H.size M a1 a2 a3 a4 (EQ r X) hw) (cwV 4 C.hts gL_law_X8_who rfl rfl rfl (by decide +kernel) ⟨Nat.le_of_ble_eq_true rfl, Nat.le_of_ble_eq_true rfl⟩) (l_pre C.hK C.hE hI.2.1 hI.2.2.2.1 hI.2.2.2.2.2 (by decide) rfl rfl) rfl rfl C.hl.1 rfl (lv_room (Nat.le_of_ble_eq_true rfl)) dL_law_842 C.hrm) (fun r2 M H locs hw2 hI => ?_)
  obtain ⟨he, hR⟩ := hw2
  exact lv_icmp_eq (tgt := 1187) C.hx C.hb dL_law_845 (by decide) (fun _ => nx _ _ _ _ hI hR) (fun h => absurd he h)
theorem lc_falls (C : LC p s m args c b L xs g adx adm ls x cells slots) (hI : LI g s adx adm X M H locs) (hR : RR X M) (nx : ∀ (X M : VT) (H : Heap) (locs : List Loc), LI g s adx adm X M H locs → RR X M → W p l e room_1 s m args below meth c H locs cells slots Q (F0 m 1187 ls [])) : W p l e room_1 s m args below meth c H locs cells slots Q (F0 m 850 ls []) := by
  refine lv_aload_n C.hx C.hb dL_law_850 rfl (lv_at C.hl 2 rfl) ?_
  refine l_Xi hI (va_runV (As := []) (rest := []) ⟨C.hx, C.hb, C.hml, C.hown, C.hts⟩ (c_X7_falls l g adx H.size X _ (q_falls hR)) (cwV 0 C.hts gL_law_X7_falls rfl rfl rfl (by decide +kernel) ⟨Nat.le_of_ble_eq_true rfl, Nat.le_of_ble_eq_true rfl⟩) (l_pre C.hK C.hE hI.1 hI.2.2.1 hI.2.2.2.2.2 (by decide) (cX_7 (by decide)) rfl) rfl rfl C.hl.1 rfl (lv_room (Nat.le_of_ble_eq_true rfl)) dL_law_851 C.hrm) (fun r X H locs hw hI => ?_)
  refine lv_aload_n C.hx C.hb dL_law_854 rfl (lv_at C.hl 1 rfl) ?_
  refine l_Mi hI (va_runV (As := []) (rest := [.int r]) ⟨C.hx, C.hb, C.hml, C.hown, C.hts⟩ (c_X8_falls l g adm H.size M (EQ r X) hw) (cwV 0 C.hts gL_law_X8_falls rfl rfl rfl (by decide +kernel) ⟨Nat.le_of_ble_eq_true rfl, Nat.le_of_ble_eq_true rfl⟩) (l_pre C.hK C.hE hI.2.1 hI.2.2.2.1 hI.2.2.2.2.2 (by decide) rfl rfl) rfl rfl C.hl.1 rfl (lv_room (Nat.le_of_ble_eq_true rfl)) dL_law_855 C.hrm) (fun r2 M H locs hw2 hI => ?_)
  obtain ⟨he, hR⟩ := hw2
  exact lv_icmp_eq (tgt := 1187) C.hx C.hb dL_law_858 (by decide) (fun _ => nx _ _ _ _ hI hR) (fun h => absurd he h)
theorem lc_mend (C : LC p s m args c b L xs g adx adm ls x cells slots) (hI : LI g s adx adm X M H locs) (hR : RR X M) (nx : ∀ (X M : VT) (H : Heap) (locs : List Loc), LI g s adx adm X M H locs → RR X M → W p l e room_1 s m args below meth c H locs cells slots Q (F0 m 1187 ls [])) : W p l e room_1 s m args below meth c H locs cells slots Q (F0 m 863 ls []) := by
  obtain ⟨a1, e1⟩ : ∃ a : Int32, a = xs (x + nI 1).toNatClampNeg := ⟨_, rfl⟩
  refine lv_aload_n C.hx C.hb dL_law_863 rfl (lv_at C.hl 2 rfl) ?_
  refine lw_arg C hI.2.2.2.2.2 (v := nI 1) (by decide) (C.hin 1 (by decide)) e1 dL_law_864 dL_law_865 dL_law_866 dL_law_867 dL_law_868 ?_
  refine l_Xi hI (va_runV (As := [.int a1]) (rest := []) ⟨C.hx, C.hb, C.hml, C.hown, C.hts⟩ (c_X7_mend l g adx H.size X a1 _ (q_mend hR a1)) (cwV 1 C.hts gL_law_X7_mend rfl rfl rfl (by decide +kernel) ⟨Nat.le_of_ble_eq_true rfl, Nat.le_of_ble_eq_true rfl⟩) (l_pre C.hK C.hE hI.1 hI.2.2.1 hI.2.2.2.2.2 (by decide) (cX_7 (by decide)) rfl) rfl rfl C.hl.1 rfl (lv_room (Nat.le_of_ble_eq_true rfl)) dL_law_869 C.hrm) (fun r X H locs hw hI => ?_)
  refine lv_aload_n C.hx C.hb dL_law_872 rfl (lv_at C.hl 1 rfl) ?_
  refine lw_arg C hI.2.2.2.2.2 (v := nI 1) (by decide) (C.hin 1 (by decide)) e1 dL_law_873 dL_law_874 dL_law_875 dL_law_876 dL_law_877 ?_
  refine l_Mi hI (va_runV (As := [.int a1]) (rest := [.int r]) ⟨C.hx, C.hb, C.hml, C.hown, C.hts⟩ (c_X8_mend l g adm H.size M a1 (EQ r X) hw) (cwV 1 C.hts gL_law_X8_mend rfl rfl rfl (by decide +kernel) ⟨Nat.le_of_ble_eq_true rfl, Nat.le_of_ble_eq_true rfl⟩) (l_pre C.hK C.hE hI.2.1 hI.2.2.2.1 hI.2.2.2.2.2 (by decide) rfl rfl) rfl rfl C.hl.1 rfl (lv_room (Nat.le_of_ble_eq_true rfl)) dL_law_878 C.hrm) (fun r2 M H locs hw2 hI => ?_)
  obtain ⟨he, hR⟩ := hw2
  exact lv_icmp_eq (tgt := 1187) C.hx C.hb dL_law_881 (by decide) (fun _ => nx _ _ _ _ hI hR) (fun h => absurd he h)
theorem lg_cmp_self (r : Int64) : lg_cmp r r = 0 := by
  unfold lg_cmp
  rw [if_neg (fun h => absurd (Int64.lt_iff_toInt_lt.mp h) (by omega)), if_pos rfl]
theorem lc_miss (C : LC p s m args c b L xs g adx adm ls x cells slots) (hI : LI g s adx adm X M H locs) (hR : RR X M) (nx : ∀ (X M : VT) (H : Heap) (locs : List Loc), LI g s adx adm X M H locs → RR X M → W p l e room_1 s m args below meth c H locs cells slots Q (F0 m 1187 ls [])) : W p l e room_1 s m args below meth c H locs cells slots Q (F0 m 886 ls []) := by
  obtain ⟨a1, e1⟩ : ∃ a : Int32, a = xs (x + nI 1).toNatClampNeg := ⟨_, rfl⟩
  obtain ⟨a2, e2⟩ : ∃ a : Int32, a = xs (x + nI 2).toNatClampNeg := ⟨_, rfl⟩
  obtain ⟨a3, e3⟩ : ∃ a : Int32, a = xs (x + nI 3).toNatClampNeg := ⟨_, rfl⟩
  obtain ⟨a4, e4⟩ : ∃ a : Int32, a = xs (x + nI 4).toNatClampNeg := ⟨_, rfl⟩
  obtain ⟨a5, e5⟩ : ∃ a : Int32, a = xs (x + nI 5).toNatClampNeg := ⟨_, rfl⟩
  refine lv_aload_n C.hx C.hb dL_law_886 rfl (lv_at C.hl 2 rfl) ?_
  refine lw_arg C hI.2.2.2.2.2 (v := nI 1) (by decide) (C.hin 1 (by decide)) e1 dL_law_887 dL_law_888 dL_law_889 dL_law_890 dL_law_891 ?_
  refine lw_arg C hI.2.2.2.2.2 (v := nI 2) (by decide) (C.hin 2 (by decide)) e2 dL_law_892 dL_law_893 dL_law_894 dL_law_895 dL_law_896 ?_
  refine lw_arg C hI.2.2.2.2.2 (v := nI 3) (by decide) (C.hin 3 (by decide)) e3 dL_law_897 dL_law_898 dL_law_899 dL_law_900 dL_law_901 ?_
  refine lw_arg C hI.2.2.2.2.2 (v := nI 4) (by decide) (C.hin 4 (by decide)) e4 dL_law_902 dL_law_903 dL_law_904 dL_law_905 dL_law_906 ?_
  refine lw_arg C hI.2.2.2.2.2 (v := nI 5) (by decide) (C.hin 5 (by decide)) e5 dL_law_907 dL_law_908 dL_law_909 dL_law_910 dL_law_911 ?_
  refine l_Xl hI (va_runV (As := [.int a1, .int a2, .int a3, .int a4, .int a5]) (rest := []) ⟨C.hx, C.hb, C.hml, C.hown, C.hts⟩ (c_X7_miss l g adx H.size X a1 a2 a3 a4 a5 _ (q_miss hR a1 a2 a3 a4 a5)) (cwV 5 C.hts gL_law_X7_miss rfl rfl rfl (by decide +kernel) ⟨Nat.le_of_ble_eq_true rfl, Nat.le_of_ble_eq_true rfl⟩) (l_pre C.hK C.hE hI.1 hI.2.2.1 hI.2.2.2.2.2 (by decide) (cX_7 (by decide)) rfl) rfl rfl C.hl.1 rfl (lv_room (Nat.le_of_ble_eq_true rfl)) dL_law_912 C.hrm) (fun r X H locs hw hI => ?_)
  refine lv_aload_n C.hx C.hb dL_law_915 rfl (lv_at C.hl 1 rfl) ?_
  refine lw_arg C hI.2.2.2.2.2 (v := nI 1) (by decide) (C.hin 1 (by decide)) e1 dL_law_916 dL_law_917 dL_law_918 dL_law_919 dL_law_920 ?_
  refine lw_arg C hI.2.2.2.2.2 (v := nI 2) (by decide) (C.hin 2 (by decide)) e2 dL_law_921 dL_law_922 dL_law_923 dL_law_924 dL_law_925 ?_
  refine lw_arg C hI.2.2.2.2.2 (v := nI 3) (by decide) (C.hin 3 (by decide)) e3 dL_law_926 dL_law_927 dL_law_928 dL_law_929 dL_law_930 ?_
  refine lw_arg C hI.2.2.2.2.2 (v := nI 4) (by decide) (C.hin 4 (by decide)) e4 dL_law_931 dL_law_932 dL_law_933 dL_law_934 dL_law_935 ?_
  refine lw_arg C hI.2.2.2.2.2 (v := nI 5) (by decide) (C.hin 5 (by decide)) e5 dL_law_936 dL_law_937 dL_law_938 dL_law_939 dL_law_940 ?_
  refine l_Ml hI (va_runV (As := [.int a1, .int a2, .int a3, .int a4, .int a5]) (rest := [.long r]) ⟨C.hx, C.hb, C.hml, C.hown, C.hts⟩ (c_X8_miss l g adm H.size M a1 a2 a3 a4 a5 (EQl r X) hw) (cwV 5 C.hts gL_law_X8_miss rfl rfl rfl (by decide +kernel) ⟨Nat.le_of_ble_eq_true rfl, Nat.le_of_ble_eq_true rfl⟩) (l_pre C.hK C.hE hI.2.1 hI.2.2.2.1 hI.2.2.2.2.2 (by decide) rfl rfl) rfl rfl C.hl.1 rfl (lv_room (Nat.le_of_ble_eq_true rfl)) dL_law_941 C.hrm) (fun r2 M H locs hw2 hI => ?_)
  obtain ⟨he, hR⟩ := hw2
  subst he
  refine W.lcmp C.hx C.hb dL_law_944 ?_
  exact lv_if_eq (tgt := 1187) C.hx C.hb dL_law_945 (by decide) (fun _ => nx _ _ _ _ hI hR) (fun h => absurd (lg_cmp_self r) h)
theorem lc_drawn (C : LC p s m args c b L xs g adx adm ls x cells slots) (hI : LI g s adx adm X M H locs) (hR : RR X M) (nx : ∀ (X M : VT) (H : Heap) (locs : List Loc), LI g s adx adm X M H locs → RR X M → W p l e room_1 s m args below meth c H locs cells slots Q (F0 m 1187 ls [])) : W p l e room_1 s m args below meth c H locs cells slots Q (F0 m 950 ls []) := by
  obtain ⟨a1, e1⟩ : ∃ a : Int32, a = xs (x + nI 1).toNatClampNeg := ⟨_, rfl⟩
  obtain ⟨a2, e2⟩ : ∃ a : Int32, a = xs (x + nI 2).toNatClampNeg := ⟨_, rfl⟩
  obtain ⟨a3, e3⟩ : ∃ a : Int32, a = xs (x + nI 3).toNatClampNeg := ⟨_, rfl⟩
  refine lv_aload_n C.hx C.hb dL_law_950 rfl (lv_at C.hl 2 rfl) ?_
  refine lw_arg C hI.2.2.2.2.2 (v := nI 1) (by decide) (C.hin 1 (by decide)) e1 dL_law_951 dL_law_952 dL_law_953 dL_law_954 dL_law_955 ?_
  refine lw_arg C hI.2.2.2.2.2 (v := nI 2) (by decide) (C.hin 2 (by decide)) e2 dL_law_956 dL_law_957 dL_law_958 dL_law_959 dL_law_960 ?_
  refine lw_arg C hI.2.2.2.2.2 (v := nI 3) (by decide) (C.hin 3 (by decide)) e3 dL_law_961 dL_law_962 dL_law_963 dL_law_964 dL_law_965 ?_
  refine l_Xi hI (va_runV (As := [.int a1, .int a2, .int a3]) (rest := []) ⟨C.hx, C.hb, C.hml, C.hown, C.hts⟩ (c_X7_drawn l g adx H.size X a1 a2 a3 _ (q_drawn hR a1 a2 a3)) (cwV 3 C.hts gL_law_X7_drawn rfl rfl rfl (by decide +kernel) ⟨Nat.le_of_ble_eq_true rfl, Nat.le_of_ble_eq_true rfl⟩) (l_pre C.hK C.hE hI.1 hI.2.2.1 hI.2.2.2.2.2 (by decide) (cX_7 (by decide)) rfl) rfl rfl C.hl.1 rfl (lv_room (Nat.le_of_ble_eq_true rfl)) dL_law_966 C.hrm) (fun r X H locs hw hI => ?_)
  refine lv_aload_n C.hx C.hb dL_law_969 rfl (lv_at C.hl 1 rfl) ?_
  refine lw_arg C hI.2.2.2.2.2 (v := nI 1) (by decide) (C.hin 1 (by decide)) e1 dL_law_970 dL_law_971 dL_law_972 dL_law_973 dL_law_974 ?_
  refine lw_arg C hI.2.2.2.2.2 (v := nI 2) (by decide) (C.hin 2 (by decide)) e2 dL_law_975 dL_law_976 dL_law_977 dL_law_978 dL_law_979 ?_
  refine lw_arg C hI.2.2.2.2.2 (v := nI 3) (by decide) (C.hin 3 (by decide)) e3 dL_law_980 dL_law_981 dL_law_982 dL_law_983 dL_law_984 ?_
  refine l_Mi hI (va_runV (As := [.int a1, .int a2, .int a3]) (rest := [.int r]) ⟨C.hx, C.hb, C.hml, C.hown, C.hts⟩ (c_X8_drawn l g adm H.size M a1 a2 a3 (EQ r X) hw) (cwV 3 C.hts gL_law_X8_drawn rfl rfl rfl (by decide +kernel) ⟨Nat.le_of_ble_eq_true rfl, Nat.le_of_ble_eq_true rfl⟩) (l_pre C.hK C.hE hI.2.1 hI.2.2.2.1 hI.2.2.2.2.2 (by decide) rfl rfl) rfl rfl C.hl.1 rfl (lv_room (Nat.le_of_ble_eq_true rfl)) dL_law_985 C.hrm) (fun r2 M H locs hw2 hI => ?_)
  obtain ⟨he, hR⟩ := hw2
  exact lv_icmp_eq (tgt := 1187) C.hx C.hb dL_law_988 (by decide) (fun _ => nx _ _ _ _ hI hR) (fun h => absurd he h)
theorem lc_image (C : LC p s m args c b L xs g adx adm ls x cells slots) (hI : LI g s adx adm X M H locs) (hR : RR X M) (nx : ∀ (X M : VT) (H : Heap) (locs : List Loc), LI g s adx adm X M H locs → RR X M → W p l e room_1 s m args below meth c H locs cells slots Q (F0 m 1187 ls [])) : W p l e room_1 s m args below meth c H locs cells slots Q (F0 m 993 ls []) := by
  obtain ⟨a1, e1⟩ : ∃ a : Int32, a = xs (x + nI 1).toNatClampNeg := ⟨_, rfl⟩
  refine lv_aload_n C.hx C.hb dL_law_993 rfl (lv_at C.hl 2 rfl) ?_
  refine lw_arg C hI.2.2.2.2.2 (v := nI 1) (by decide) (C.hin 1 (by decide)) e1 dL_law_994 dL_law_995 dL_law_996 dL_law_997 dL_law_998 ?_
  refine l_Xi hI (va_runV (As := [.int a1]) (rest := []) ⟨C.hx, C.hb, C.hml, C.hown, C.hts⟩ (c_X7_image l g adx H.size X a1 _ (q_image hR a1)) (cwV 1 C.hts gL_law_X7_image rfl rfl rfl (by decide +kernel) ⟨Nat.le_of_ble_eq_true rfl, Nat.le_of_ble_eq_true rfl⟩) (l_pre C.hK C.hE hI.1 hI.2.2.1 hI.2.2.2.2.2 (by decide) (cX_7 (by decide)) rfl) rfl rfl C.hl.1 rfl (lv_room (Nat.le_of_ble_eq_true rfl)) dL_law_999 C.hrm) (fun r X H locs hw hI => ?_)
  refine lv_aload_n C.hx C.hb dL_law_1002 rfl (lv_at C.hl 1 rfl) ?_
  refine lw_arg C hI.2.2.2.2.2 (v := nI 1) (by decide) (C.hin 1 (by decide)) e1 dL_law_1003 dL_law_1004 dL_law_1005 dL_law_1006 dL_law_1007 ?_
  refine l_Mi hI (va_runV (As := [.int a1]) (rest := [.int r]) ⟨C.hx, C.hb, C.hml, C.hown, C.hts⟩ (c_X8_image l g adm H.size M a1 (EQ r X) hw) (cwV 1 C.hts gL_law_X8_image rfl rfl rfl (by decide +kernel) ⟨Nat.le_of_ble_eq_true rfl, Nat.le_of_ble_eq_true rfl⟩) (l_pre C.hK C.hE hI.2.1 hI.2.2.2.1 hI.2.2.2.2.2 (by decide) rfl rfl) rfl rfl C.hl.1 rfl (lv_room (Nat.le_of_ble_eq_true rfl)) dL_law_1008 C.hrm) (fun r2 M H locs hw2 hI => ?_)
  obtain ⟨he, hR⟩ := hw2
  exact lv_icmp_eq (tgt := 1187) C.hx C.hb dL_law_1011 (by decide) (fun _ => nx _ _ _ _ hI hR) (fun h => absurd he h)
theorem lc_restore (C : LC p s m args c b L xs g adx adm ls x cells slots) (hI : LI g s adx adm X M H locs) (hR : RR X M) (nx : ∀ (X M : VT) (H : Heap) (locs : List Loc), LI g s adx adm X M H locs → RR X M → W p l e room_1 s m args below meth c H locs cells slots Q (F0 m 1187 ls [])) : W p l e room_1 s m args below meth c H locs cells slots Q (F0 m 1016 ls []) := by
  obtain ⟨a1, e1⟩ : ∃ a : Int32, a = xs (x + nI 1).toNatClampNeg := ⟨_, rfl⟩
  refine lv_aload_n C.hx C.hb dL_law_1016 rfl (lv_at C.hl 2 rfl) ?_
  refine lw_arg C hI.2.2.2.2.2 (v := nI 1) (by decide) (C.hin 1 (by decide)) e1 dL_law_1017 dL_law_1018 dL_law_1019 dL_law_1020 dL_law_1021 ?_
  refine l_Xi hI (va_runV (As := [.int a1]) (rest := []) ⟨C.hx, C.hb, C.hml, C.hown, C.hts⟩ (c_X7_restore l g adx H.size X a1 _ (q_restore hR a1)) (cwV 1 C.hts gL_law_X7_restore rfl rfl rfl (by decide +kernel) ⟨Nat.le_of_ble_eq_true rfl, Nat.le_of_ble_eq_true rfl⟩) (l_pre C.hK C.hE hI.1 hI.2.2.1 hI.2.2.2.2.2 (by decide) (cX_7 (by decide)) rfl) rfl rfl C.hl.1 rfl (lv_room (Nat.le_of_ble_eq_true rfl)) dL_law_1022 C.hrm) (fun r X H locs hw hI => ?_)
  refine lv_aload_n C.hx C.hb dL_law_1025 rfl (lv_at C.hl 1 rfl) ?_
  refine lw_arg C hI.2.2.2.2.2 (v := nI 1) (by decide) (C.hin 1 (by decide)) e1 dL_law_1026 dL_law_1027 dL_law_1028 dL_law_1029 dL_law_1030 ?_
  refine l_Mi hI (va_runV (As := [.int a1]) (rest := [.int r]) ⟨C.hx, C.hb, C.hml, C.hown, C.hts⟩ (c_X8_restore l g adm H.size M a1 (EQ r X) hw) (cwV 1 C.hts gL_law_X8_restore rfl rfl rfl (by decide +kernel) ⟨Nat.le_of_ble_eq_true rfl, Nat.le_of_ble_eq_true rfl⟩) (l_pre C.hK C.hE hI.2.1 hI.2.2.2.1 hI.2.2.2.2.2 (by decide) rfl rfl) rfl rfl C.hl.1 rfl (lv_room (Nat.le_of_ble_eq_true rfl)) dL_law_1031 C.hrm) (fun r2 M H locs hw2 hI => ?_)
  obtain ⟨he, hR⟩ := hw2
  exact lv_icmp_eq (tgt := 1187) C.hx C.hb dL_law_1034 (by decide) (fun _ => nx _ _ _ _ hI hR) (fun h => absurd he h)
theorem lc_kind (C : LC p s m args c b L xs g adx adm ls x cells slots) (hI : LI g s adx adm X M H locs) (hR : RR X M) (nx : ∀ (X M : VT) (H : Heap) (locs : List Loc), LI g s adx adm X M H locs → RR X M → W p l e room_1 s m args below meth c H locs cells slots Q (F0 m 1187 ls [])) : W p l e room_1 s m args below meth c H locs cells slots Q (F0 m 1039 ls []) := by
  obtain ⟨a1, e1⟩ : ∃ a : Int32, a = xs (x + nI 1).toNatClampNeg := ⟨_, rfl⟩
  refine lv_aload_n C.hx C.hb dL_law_1039 rfl (lv_at C.hl 2 rfl) ?_
  refine lw_arg C hI.2.2.2.2.2 (v := nI 1) (by decide) (C.hin 1 (by decide)) e1 dL_law_1040 dL_law_1041 dL_law_1042 dL_law_1043 dL_law_1044 ?_
  refine l_Xi hI (va_runV (As := [.int a1]) (rest := []) ⟨C.hx, C.hb, C.hml, C.hown, C.hts⟩ (c_X7_kind l g adx H.size X a1 _ (q_kind hR a1)) (cwV 1 C.hts gL_law_X7_kind rfl rfl rfl (by decide +kernel) ⟨Nat.le_of_ble_eq_true rfl, Nat.le_of_ble_eq_true rfl⟩) (l_pre C.hK C.hE hI.1 hI.2.2.1 hI.2.2.2.2.2 (by decide) (cX_7 (by decide)) rfl) rfl rfl C.hl.1 rfl (lv_room (Nat.le_of_ble_eq_true rfl)) dL_law_1045 C.hrm) (fun r X H locs hw hI => ?_)
  refine lv_aload_n C.hx C.hb dL_law_1048 rfl (lv_at C.hl 1 rfl) ?_
  refine lw_arg C hI.2.2.2.2.2 (v := nI 1) (by decide) (C.hin 1 (by decide)) e1 dL_law_1049 dL_law_1050 dL_law_1051 dL_law_1052 dL_law_1053 ?_
  refine l_Mi hI (va_runV (As := [.int a1]) (rest := [.int r]) ⟨C.hx, C.hb, C.hml, C.hown, C.hts⟩ (c_X8_kind l g adm H.size M a1 (EQ r X) hw) (cwV 1 C.hts gL_law_X8_kind rfl rfl rfl (by decide +kernel) ⟨Nat.le_of_ble_eq_true rfl, Nat.le_of_ble_eq_true rfl⟩) (l_pre C.hK C.hE hI.2.1 hI.2.2.2.1 hI.2.2.2.2.2 (by decide) rfl rfl) rfl rfl C.hl.1 rfl (lv_room (Nat.le_of_ble_eq_true rfl)) dL_law_1054 C.hrm) (fun r2 M H locs hw2 hI => ?_)
  obtain ⟨he, hR⟩ := hw2
  exact lv_icmp_eq (tgt := 1187) C.hx C.hb dL_law_1057 (by decide) (fun _ => nx _ _ _ _ hI hR) (fun h => absurd he h)
theorem lc_as (C : LC p s m args c b L xs g adx adm ls x cells slots) (hI : LI g s adx adm X M H locs) (hR : RR X M) (nx : ∀ (X M : VT) (H : Heap) (locs : List Loc), LI g s adx adm X M H locs → RR X M → W p l e room_1 s m args below meth c H locs cells slots Q (F0 m 1187 ls [])) : W p l e room_1 s m args below meth c H locs cells slots Q (F0 m 1062 ls []) := by
  obtain ⟨a1, e1⟩ : ∃ a : Int32, a = xs (x + nI 1).toNatClampNeg := ⟨_, rfl⟩
  obtain ⟨a2, e2⟩ : ∃ a : Int32, a = xs (x + nI 2).toNatClampNeg := ⟨_, rfl⟩
  refine lv_aload_n C.hx C.hb dL_law_1062 rfl (lv_at C.hl 2 rfl) ?_
  refine lw_arg C hI.2.2.2.2.2 (v := nI 1) (by decide) (C.hin 1 (by decide)) e1 dL_law_1063 dL_law_1064 dL_law_1065 dL_law_1066 dL_law_1067 ?_
  refine lw_arg C hI.2.2.2.2.2 (v := nI 2) (by decide) (C.hin 2 (by decide)) e2 dL_law_1068 dL_law_1069 dL_law_1070 dL_law_1071 dL_law_1072 ?_
  refine l_Xi hI (va_runV (As := [.int a1, .int a2]) (rest := []) ⟨C.hx, C.hb, C.hml, C.hown, C.hts⟩ (c_X7_as l g adx H.size X a1 a2 _ (q_as hR a1 a2)) (cwV 2 C.hts gL_law_X7_as rfl rfl rfl (by decide +kernel) ⟨Nat.le_of_ble_eq_true rfl, Nat.le_of_ble_eq_true rfl⟩) (l_pre C.hK C.hE hI.1 hI.2.2.1 hI.2.2.2.2.2 (by decide) (cX_7 (by decide)) rfl) rfl rfl C.hl.1 rfl (lv_room (Nat.le_of_ble_eq_true rfl)) dL_law_1073 C.hrm) (fun r X H locs hw hI => ?_)
  refine lv_aload_n C.hx C.hb dL_law_1076 rfl (lv_at C.hl 1 rfl) ?_
  refine lw_arg C hI.2.2.2.2.2 (v := nI 1) (by decide) (C.hin 1 (by decide)) e1 dL_law_1077 dL_law_1078 dL_law_1079 dL_law_1080 dL_law_1081 ?_
  refine lw_arg C hI.2.2.2.2.2 (v := nI 2) (by decide) (C.hin 2 (by decide)) e2 dL_law_1082 dL_law_1083 dL_law_1084 dL_law_1085 dL_law_1086 ?_
  refine l_Mi hI (va_runV (As := [.int a1, .int a2]) (rest := [.int r]) ⟨C.hx, C.hb, C.hml, C.hown, C.hts⟩ (c_X8_as l g adm H.size M a1 a2 (EQ r X) hw) (cwV 2 C.hts gL_law_X8_as rfl rfl rfl (by decide +kernel) ⟨Nat.le_of_ble_eq_true rfl, Nat.le_of_ble_eq_true rfl⟩) (l_pre C.hK C.hE hI.2.1 hI.2.2.2.1 hI.2.2.2.2.2 (by decide) rfl rfl) rfl rfl C.hl.1 rfl (lv_room (Nat.le_of_ble_eq_true rfl)) dL_law_1087 C.hrm) (fun r2 M H locs hw2 hI => ?_)
  obtain ⟨he, hR⟩ := hw2
  exact lv_icmp_eq (tgt := 1187) C.hx C.hb dL_law_1090 (by decide) (fun _ => nx _ _ _ _ hI hR) (fun h => absurd he h)
theorem lc_ask (C : LC p s m args c b L xs g adx adm ls x cells slots) (hI : LI g s adx adm X M H locs) (hR : RR X M) (nx : ∀ (X M : VT) (H : Heap) (locs : List Loc), LI g s adx adm X M H locs → RR X M → W p l e room_1 s m args below meth c H locs cells slots Q (F0 m 1187 ls [])) : W p l e room_1 s m args below meth c H locs cells slots Q (F0 m 1095 ls []) := by
  obtain ⟨a1, e1⟩ : ∃ a : Int32, a = xs (x + nI 1).toNatClampNeg := ⟨_, rfl⟩
  obtain ⟨a2, e2⟩ : ∃ a : Int32, a = xs (x + nI 2).toNatClampNeg := ⟨_, rfl⟩
  refine lv_aload_n C.hx C.hb dL_law_1095 rfl (lv_at C.hl 2 rfl) ?_
  refine lw_arg C hI.2.2.2.2.2 (v := nI 1) (by decide) (C.hin 1 (by decide)) e1 dL_law_1096 dL_law_1097 dL_law_1098 dL_law_1099 dL_law_1100 ?_
  refine lw_arg C hI.2.2.2.2.2 (v := nI 2) (by decide) (C.hin 2 (by decide)) e2 dL_law_1101 dL_law_1102 dL_law_1103 dL_law_1104 dL_law_1105 ?_
  refine l_Xi hI (va_runV (As := [.int a1, .int a2]) (rest := []) ⟨C.hx, C.hb, C.hml, C.hown, C.hts⟩ (c_X7_ask l g adx H.size X a1 a2 _ (q_ask hR a1 a2)) (cwV 2 C.hts gL_law_X7_ask rfl rfl rfl (by decide +kernel) ⟨Nat.le_of_ble_eq_true rfl, Nat.le_of_ble_eq_true rfl⟩) (l_pre C.hK C.hE hI.1 hI.2.2.1 hI.2.2.2.2.2 (by decide) (cX_7 (by decide)) rfl) rfl rfl C.hl.1 rfl (lv_room (Nat.le_of_ble_eq_true rfl)) dL_law_1106 C.hrm) (fun r X H locs hw hI => ?_)
  refine lv_aload_n C.hx C.hb dL_law_1109 rfl (lv_at C.hl 1 rfl) ?_
  refine lw_arg C hI.2.2.2.2.2 (v := nI 1) (by decide) (C.hin 1 (by decide)) e1 dL_law_1110 dL_law_1111 dL_law_1112 dL_law_1113 dL_law_1114 ?_
  refine lw_arg C hI.2.2.2.2.2 (v := nI 2) (by decide) (C.hin 2 (by decide)) e2 dL_law_1115 dL_law_1116 dL_law_1117 dL_law_1118 dL_law_1119 ?_
  refine l_Mi hI (va_runV (As := [.int a1, .int a2]) (rest := [.int r]) ⟨C.hx, C.hb, C.hml, C.hown, C.hts⟩ (c_X8_ask l g adm H.size M a1 a2 (EQ r X) hw) (cwV 2 C.hts gL_law_X8_ask rfl rfl rfl (by decide +kernel) ⟨Nat.le_of_ble_eq_true rfl, Nat.le_of_ble_eq_true rfl⟩) (l_pre C.hK C.hE hI.2.1 hI.2.2.2.1 hI.2.2.2.2.2 (by decide) rfl rfl) rfl rfl C.hl.1 rfl (lv_room (Nat.le_of_ble_eq_true rfl)) dL_law_1120 C.hrm) (fun r2 M H locs hw2 hI => ?_)
  obtain ⟨he, hR⟩ := hw2
  exact lv_icmp_eq (tgt := 1187) C.hx C.hb dL_law_1123 (by decide) (fun _ => nx _ _ _ _ hI hR) (fun h => absurd he h)
theorem lc_trace (C : LC p s m args c b L xs g adx adm ls x cells slots) (hI : LI g s adx adm X M H locs) (hR : RR X M) (nx : ∀ (X M : VT) (H : Heap) (locs : List Loc), LI g s adx adm X M H locs → RR X M → W p l e room_1 s m args below meth c H locs cells slots Q (F0 m 1187 ls [])) : W p l e room_1 s m args below meth c H locs cells slots Q (F0 m 1128 ls []) := by
  obtain ⟨a1, e1⟩ : ∃ a : Int32, a = xs (x + nI 1).toNatClampNeg := ⟨_, rfl⟩
  refine lv_aload_n C.hx C.hb dL_law_1128 rfl (lv_at C.hl 2 rfl) ?_
  refine lw_arg C hI.2.2.2.2.2 (v := nI 1) (by decide) (C.hin 1 (by decide)) e1 dL_law_1129 dL_law_1130 dL_law_1131 dL_law_1132 dL_law_1133 ?_
  refine l_Xi hI (va_runV (As := [.int a1]) (rest := []) ⟨C.hx, C.hb, C.hml, C.hown, C.hts⟩ (c_X7_trace l g adx H.size X a1 _ (q_trace hR a1)) (cwV 1 C.hts gL_law_X7_trace rfl rfl rfl (by decide +kernel) ⟨Nat.le_of_ble_eq_true rfl, Nat.le_of_ble_eq_true rfl⟩) (l_pre C.hK C.hE hI.1 hI.2.2.1 hI.2.2.2.2.2 (by decide) (cX_7 (by decide)) rfl) rfl rfl C.hl.1 rfl (lv_room (Nat.le_of_ble_eq_true rfl)) dL_law_1134 C.hrm) (fun r X H locs hw hI => ?_)
  refine lv_aload_n C.hx C.hb dL_law_1137 rfl (lv_at C.hl 1 rfl) ?_
  refine lw_arg C hI.2.2.2.2.2 (v := nI 1) (by decide) (C.hin 1 (by decide)) e1 dL_law_1138 dL_law_1139 dL_law_1140 dL_law_1141 dL_law_1142 ?_
  refine l_Mi hI (va_runV (As := [.int a1]) (rest := [.int r]) ⟨C.hx, C.hb, C.hml, C.hown, C.hts⟩ (c_X8_trace l g adm H.size M a1 (EQ r X) hw) (cwV 1 C.hts gL_law_X8_trace rfl rfl rfl (by decide +kernel) ⟨Nat.le_of_ble_eq_true rfl, Nat.le_of_ble_eq_true rfl⟩) (l_pre C.hK C.hE hI.2.1 hI.2.2.2.1 hI.2.2.2.2.2 (by decide) rfl rfl) rfl rfl C.hl.1 rfl (lv_room (Nat.le_of_ble_eq_true rfl)) dL_law_1143 C.hrm) (fun r2 M H locs hw2 hI => ?_)
  obtain ⟨he, hR⟩ := hw2
  exact lv_icmp_eq (tgt := 1187) C.hx C.hb dL_law_1146 (by decide) (fun _ => nx _ _ _ _ hI hR) (fun h => absurd he h)
theorem lc_count (C : LC p s m args c b L xs g adx adm ls x cells slots) (hI : LI g s adx adm X M H locs) (hR : RR X M) (nx : ∀ (X M : VT) (H : Heap) (locs : List Loc), LI g s adx adm X M H locs → RR X M → W p l e room_1 s m args below meth c H locs cells slots Q (F0 m 1187 ls [])) : W p l e room_1 s m args below meth c H locs cells slots Q (F0 m 1151 ls []) := by
  obtain ⟨a1, e1⟩ : ∃ a : Int32, a = xs (x + nI 1).toNatClampNeg := ⟨_, rfl⟩
  refine lv_aload_n C.hx C.hb dL_law_1151 rfl (lv_at C.hl 2 rfl) ?_
  refine lw_arg C hI.2.2.2.2.2 (v := nI 1) (by decide) (C.hin 1 (by decide)) e1 dL_law_1152 dL_law_1153 dL_law_1154 dL_law_1155 dL_law_1156 ?_
  refine l_Xi hI (va_runV (As := [.int a1]) (rest := []) ⟨C.hx, C.hb, C.hml, C.hown, C.hts⟩ (c_X7_count l g adx H.size X a1 _ (q_count hR a1)) (cwV 1 C.hts gL_law_X7_count rfl rfl rfl (by decide +kernel) ⟨Nat.le_of_ble_eq_true rfl, Nat.le_of_ble_eq_true rfl⟩) (l_pre C.hK C.hE hI.1 hI.2.2.1 hI.2.2.2.2.2 (by decide) (cX_7 (by decide)) rfl) rfl rfl C.hl.1 rfl (lv_room (Nat.le_of_ble_eq_true rfl)) dL_law_1157 C.hrm) (fun r X H locs hw hI => ?_)
  refine lv_aload_n C.hx C.hb dL_law_1160 rfl (lv_at C.hl 1 rfl) ?_
  refine lw_arg C hI.2.2.2.2.2 (v := nI 1) (by decide) (C.hin 1 (by decide)) e1 dL_law_1161 dL_law_1162 dL_law_1163 dL_law_1164 dL_law_1165 ?_
  refine l_Mi hI (va_runV (As := [.int a1]) (rest := [.int r]) ⟨C.hx, C.hb, C.hml, C.hown, C.hts⟩ (c_X8_count l g adm H.size M a1 (EQ r X) hw) (cwV 1 C.hts gL_law_X8_count rfl rfl rfl (by decide +kernel) ⟨Nat.le_of_ble_eq_true rfl, Nat.le_of_ble_eq_true rfl⟩) (l_pre C.hK C.hE hI.2.1 hI.2.2.2.1 hI.2.2.2.2.2 (by decide) rfl rfl) rfl rfl C.hl.1 rfl (lv_room (Nat.le_of_ble_eq_true rfl)) dL_law_1166 C.hrm) (fun r2 M H locs hw2 hI => ?_)
  obtain ⟨he, hR⟩ := hw2
  exact lv_icmp_eq (tgt := 1187) C.hx C.hb dL_law_1169 (by decide) (fun _ => nx _ _ _ _ hI hR) (fun h => absurd he h)
theorem lc_status (C : LC p s m args c b L xs g adx adm ls x cells slots) (hI : LI g s adx adm X M H locs) (hR : RR X M) (nx : ∀ (X M : VT) (H : Heap) (locs : List Loc), LI g s adx adm X M H locs → RR X M → W p l e room_1 s m args below meth c H locs cells slots Q (F0 m 1187 ls [])) : W p l e room_1 s m args below meth c H locs cells slots Q (F0 m 1174 ls []) := by
  refine lv_aload_n C.hx C.hb dL_law_1174 rfl (lv_at C.hl 2 rfl) ?_
  refine l_Xi hI (va_runV (As := []) (rest := []) ⟨C.hx, C.hb, C.hml, C.hown, C.hts⟩ (c_X7_status l g adx H.size X _ (q_status hR)) (cwV 0 C.hts gL_law_X7_status rfl rfl rfl (by decide +kernel) ⟨Nat.le_of_ble_eq_true rfl, Nat.le_of_ble_eq_true rfl⟩) (l_pre C.hK C.hE hI.1 hI.2.2.1 hI.2.2.2.2.2 (by decide) (cX_7 (by decide)) rfl) rfl rfl C.hl.1 rfl (lv_room (Nat.le_of_ble_eq_true rfl)) dL_law_1175 C.hrm) (fun r X H locs hw hI => ?_)
  refine lv_aload_n C.hx C.hb dL_law_1178 rfl (lv_at C.hl 1 rfl) ?_
  refine l_Mi hI (va_runV (As := []) (rest := [.int r]) ⟨C.hx, C.hb, C.hml, C.hown, C.hts⟩ (c_X8_status l g adm H.size M (EQ r X) hw) (cwV 0 C.hts gL_law_X8_status rfl rfl rfl (by decide +kernel) ⟨Nat.le_of_ble_eq_true rfl, Nat.le_of_ble_eq_true rfl⟩) (l_pre C.hK C.hE hI.2.1 hI.2.2.2.1 hI.2.2.2.2.2 (by decide) rfl rfl) rfl rfl C.hl.1 rfl (lv_room (Nat.le_of_ble_eq_true rfl)) dL_law_1179 C.hrm) (fun r2 M H locs hw2 hI => ?_)
  obtain ⟨he, hR⟩ := hw2
  exact lv_icmp_eq (tgt := 1187) C.hx C.hb dL_law_1182 (by decide) (fun _ => nx _ _ _ _ hI hR) (fun h => absurd he h)
theorem lw_switch (C : LC p s m args c b L xs g adx adm ls x cells slots) (hI : LI g s adx adm X M H locs) (hR : RR X M) (nx : ∀ (X M : VT) (H : Heap) (locs : List Loc), LI g s adx adm X M H locs → RR X M → W p l e room_1 s m args below meth c H locs cells slots Q (F0 m 1187 ls [])) (z : Int32) : W p l e room_1 s m args below meth c H locs cells slots Q (F0 m 33 ls [.int z]) := by
  by_cases hz : z.toInt < 0 ∨ 33 < z.toInt
  · exact lv_tableOut (tgt := 1187) C.hx C.hb dL_law_33 hz (by decide) (nx _ _ _ _ hI hR)
  · have h1 : ¬ z.toInt < 0 := fun h => hz (Or.inl h)
    have h2 : ¬ 33 < z.toInt := fun h => hz (Or.inr h)
    obtain ⟨j, hj⟩ : ∃ j : Nat, z.toInt = (j : Int) := ⟨z.toInt.toNat, by omega⟩
    have hj3 : j < 34 := by omega
    match j, hj, hj3 with
    | 0, hj, _ => exact lv_tableIn (off := 151) (tgt := 184) C.hx C.hb dL_law_33 h1 h2 (by rw [hj]; rfl) (by decide) (lc_row C hI hR nx)
    | 1, hj, _ => exact lv_tableIn (off := 194) (tgt := 227) C.hx C.hb dL_law_33 h1 h2 (by rw [hj]; rfl) (by decide) (lc_set C hI hR nx)
    | 2, hj, _ => exact lv_tableIn (off := 237) (tgt := 270) C.hx C.hb dL_law_33 h1 h2 (by rw [hj]; rfl) (by decide) (lc_copy C hI hR nx)
    | 3, hj, _ => exact lv_tableIn (off := 300) (tgt := 333) C.hx C.hb dL_law_33 h1 h2 (by rw [hj]; rfl) (by decide) (lc_drop C hI hR nx)
    | 4, hj, _ => exact lv_tableIn (off := 323) (tgt := 356) C.hx C.hb dL_law_33 h1 h2 (by rw [hj]; rfl) (by decide) (lc_feed C hI hR nx)
    | 5, hj, _ => exact lv_tableIn (off := 346) (tgt := 379) C.hx C.hb dL_law_33 h1 h2 (by rw [hj]; rfl) (by decide) (lc_lane C hI hR nx)
    | 6, hj, _ => exact lv_tableIn (off := 359) (tgt := 392) C.hx C.hb dL_law_33 h1 h2 (by rw [hj]; rfl) (by decide) (lc_fault C hI hR nx)
    | 7, hj, _ => exact lv_tableIn (off := 372) (tgt := 405) C.hx C.hb dL_law_33 h1 h2 (by rw [hj]; rfl) (by decide) (lc_undo C hI hR nx)
    | 8, hj, _ => exact lv_tableIn (off := 385) (tgt := 418) C.hx C.hb dL_law_33 h1 h2 (by rw [hj]; rfl) (by decide) (lc_moment C hI hR nx)
    | 9, hj, _ => exact lv_tableIn (off := 408) (tgt := 441) C.hx C.hb dL_law_33 h1 h2 (by rw [hj]; rfl) (by decide) (lc_setUp C hI hR nx)
    | 10, hj, _ => exact lv_tableIn (off := 451) (tgt := 484) C.hx C.hb dL_law_33 h1 h2 (by rw [hj]; rfl) (by decide) (lc_lay C hI hR nx)
    | 11, hj, _ => exact lv_tableIn (off := 484) (tgt := 517) C.hx C.hb dL_law_33 h1 h2 (by rw [hj]; rfl) (by decide) (lc_hoop C hI hR nx)
    | 12, hj, _ => exact lv_tableIn (off := 507) (tgt := 540) C.hx C.hb dL_law_33 h1 h2 (by rw [hj]; rfl) (by decide) (lc_ground C hI hR nx)
    | 13, hj, _ => exact lv_tableIn (off := 530) (tgt := 563) C.hx C.hb dL_law_33 h1 h2 (by rw [hj]; rfl) (by decide) (lc_force C hI hR nx)
    | 14, hj, _ => exact lv_tableIn (off := 553) (tgt := 586) C.hx C.hb dL_law_33 h1 h2 (by rw [hj]; rfl) (by decide) (lc_ahead C hI hR nx)
    | 15, hj, _ => exact lv_tableIn (off := 586) (tgt := 619) C.hx C.hb dL_law_33 h1 h2 (by rw [hj]; rfl) (by decide) (lc_fewest C hI hR nx)
    | 16, hj, _ => exact lv_tableIn (off := 609) (tgt := 642) C.hx C.hb dL_law_33 h1 h2 (by rw [hj]; rfl) (by decide) (lc_soonest C hI hR nx)
    | 17, hj, _ => exact lv_tableIn (off := 632) (tgt := 665) C.hx C.hb dL_law_33 h1 h2 (by rw [hj]; rfl) (by decide) (lc_heldFrom C hI hR nx)
    | 18, hj, _ => exact lv_tableIn (off := 645) (tgt := 678) C.hx C.hb dL_law_33 h1 h2 (by rw [hj]; rfl) (by decide) (lc_righted C hI hR nx)
    | 19, hj, _ => exact lv_tableIn (off := 658) (tgt := 691) C.hx C.hb dL_law_33 h1 h2 (by rw [hj]; rfl) (by decide) (lc_plan C hI hR nx)
    | 20, hj, _ => exact lv_tableIn (off := 711) (tgt := 744) C.hx C.hb dL_law_33 h1 h2 (by rw [hj]; rfl) (by decide) (lc_seen C hI hR nx)
    | 21, hj, _ => exact lv_tableIn (off := 764) (tgt := 797) C.hx C.hb dL_law_33 h1 h2 (by rw [hj]; rfl) (by decide) (lc_who C hI hR nx)
    | 22, hj, _ => exact lv_tableIn (off := 817) (tgt := 850) C.hx C.hb dL_law_33 h1 h2 (by rw [hj]; rfl) (by decide) (lc_falls C hI hR nx)
    | 23, hj, _ => exact lv_tableIn (off := 830) (tgt := 863) C.hx C.hb dL_law_33 h1 h2 (by rw [hj]; rfl) (by decide) (lc_mend C hI hR nx)
    | 24, hj, _ => exact lv_tableIn (off := 853) (tgt := 886) C.hx C.hb dL_law_33 h1 h2 (by rw [hj]; rfl) (by decide) (lc_miss C hI hR nx)
    | 25, hj, _ => exact lv_tableIn (off := 917) (tgt := 950) C.hx C.hb dL_law_33 h1 h2 (by rw [hj]; rfl) (by decide) (lc_drawn C hI hR nx)
    | 26, hj, _ => exact lv_tableIn (off := 960) (tgt := 993) C.hx C.hb dL_law_33 h1 h2 (by rw [hj]; rfl) (by decide) (lc_image C hI hR nx)
    | 27, hj, _ => exact lv_tableIn (off := 983) (tgt := 1016) C.hx C.hb dL_law_33 h1 h2 (by rw [hj]; rfl) (by decide) (lc_restore C hI hR nx)
    | 28, hj, _ => exact lv_tableIn (off := 1006) (tgt := 1039) C.hx C.hb dL_law_33 h1 h2 (by rw [hj]; rfl) (by decide) (lc_kind C hI hR nx)
    | 29, hj, _ => exact lv_tableIn (off := 1029) (tgt := 1062) C.hx C.hb dL_law_33 h1 h2 (by rw [hj]; rfl) (by decide) (lc_as C hI hR nx)
    | 30, hj, _ => exact lv_tableIn (off := 1062) (tgt := 1095) C.hx C.hb dL_law_33 h1 h2 (by rw [hj]; rfl) (by decide) (lc_ask C hI hR nx)
    | 31, hj, _ => exact lv_tableIn (off := 1095) (tgt := 1128) C.hx C.hb dL_law_33 h1 h2 (by rw [hj]; rfl) (by decide) (lc_trace C hI hR nx)
    | 32, hj, _ => exact lv_tableIn (off := 1118) (tgt := 1151) C.hx C.hb dL_law_33 h1 h2 (by rw [hj]; rfl) (by decide) (lc_count C hI hR nx)
    | 33, hj, _ => exact lv_tableIn (off := 1141) (tgt := 1174) C.hx C.hb dL_law_33 h1 h2 (by rw [hj]; rfl) (by decide) (lc_status C hI hR nx)
    | j + 34, _, h => exact absurd h (by omega)
end LAW2
