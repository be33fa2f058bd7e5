/-! Contracts over worlds, and calls. -/
def gPc (X : gX) (av : List Value) (w : va_W) (sz : Nat) : Array Value → State → Prop := va_Pc av (fun U => U.heap.size = sz ∧ va_P X.1 vwCl w U.heap ∧ va_K X.1 vwCl (gT X) U ∧ va_D (fun _ => True) w ∧ ∀ x ∈ gNl, va_Nw x U)
def gQc (X : gX) (w : va_W) (B : Option Value → va_W → Prop) (sz : Nat) : Array Value → State → Outcome → State → Prop := fun _ st oc t => (∃ (v : Option Value) (u : va_W), oc = .returned v ∧ B v u ∧ va_P X.1 vwCl u t.heap ∧ va_D (va_A w sz) u) ∧ va_F (va_A w sz) st t
/-- the contract of a method that makes no cell -/
def gM (l : Launch) (X : gX) (y : MethodName) (cc : ByteArray) (nL : Nat) (ret : Option FieldType) (rm : Room) (av : List Value) (w : va_W) (B : Option Value → va_W → Prop) : Prop := ∀ sz : Nat, Met l y (.code y cc nL ret :: gTs) rm (gPc X av w sz) (gQc X w B sz) 0 0 (va_A w sz)
/-- how a walk may end: with this answer, in this world -/
def gR (X : gX) (E : gE) (cc : ByteArray) (ret : Option FieldType) (B : Option Value → va_W → Prop) : Prop := ∀ (v : Option Value) (u : va_W) (lv : List (Nat × Value)) (pc : Nat), B v u → ((v = none ∧ ret = none ∧ decode cc pc = .ok (.return_, 1)) ∨ ∃ (x : Int32) (ty : FieldType), v = some (.int x) ∧ ret = some ty ∧ narrow ty (.int x) = .int x ∧ decode cc pc = .ok (.ireturn, 1)) → gW X E 0 0 u lv pc v.toList
theorem g_vret {X : gX} {E : gE} {cc : ByteArray} {B : Option Value → va_W → Prop} {ws : va_W} {lv : List (Nat × Value)} {pc : Nat} (r : gR X E cc none B) (hdg : decode cc pc = .ok (.return_, 1)) (h : B none ws) : gW X E 0 0 ws lv pc [] := r none ws lv pc h (Or.inl ⟨rfl, rfl, hdg⟩)
theorem g_iret {X : gX} {E : gE} {cc : ByteArray} {ty : FieldType} {B : Option Value → va_W → Prop} {ws : va_W} {lv : List (Nat × Value)} {pc : Nat} {x : Int32} (r : gR X E cc (some ty) B) (hn : narrow ty (.int x) = .int x) (hdg : decode cc pc = .ok (.ireturn, 1)) (h : B (some (.int x)) ws) : gW X E 0 0 ws lv pc [.int x] := r (some (.int x)) ws lv pc h (Or.inr ⟨x, ty, rfl, rfl, hn, hdg⟩)
def gRm (E : gE) : Room := E.1.1.2.2.2
theorem gM_of {l : Launch} {X : gX} {y : MethodName} {cc : ByteArray} {nL : Nat} {ret : Option FieldType} {rm : Room} {av : List Value} {w : va_W} {B : Option Value → va_W → Prop} {own : String} {lv0 : List (Nat × Value)} (hy : plainName y.cls = true) (ho : y.cls = own) (hav : (lg_sl av).length ≤ nL) (hlv : lv_args 0 av = lv0)
    (body : ∀ E : gE, gC X E cc nL own → gRm E = rm → gR X E cc ret B → gW X E 0 0 w lv0 0 []) : gM l X y cc nL ret rm av w B := by
  intro sz
  refine Met.ofW (cc := cc) (maxL := nL) (ret := ret) hy rfl ?_
  intro p e s m args below meth c s₁ Bd hml hv
  obtain ⟨rfl, hsz, hP, hK, hD0, hN⟩ := hv
  have hx := Bd.exec
  have hb := Bd.bytes
  have hr := Bd.returns
  have hlocks := Bd.notSynchronized
  have hts := atoms_spec (ws := Cond.code y cc nL ret :: gTs) Bd.pre
  have hown : s.vm.findClass own = some m.cls := by rw [← ho]; exact findClass_of_methodNamed Bd.named
  subst hsz
  have hD := hD0.self (sz := s.heap.size)
  have hS : va_S (va_A w s.heap.size) s.heap s.heap [] := va_S.rf
  have hl := lv_entry av (n := nL) hav
  rw [lg_entry_eq]
  generalize (lg_sl av ++ List.replicate (nL - (lg_sl av).length) Slot.unset).toArray = ls at hl ⊢
  rw [hlv] at hl
  refine body (((p, l, e, (headSpec (Cond.code y cc nL ret :: gTs) rm).room), (s, m, av.toArray, below, meth, c)), (MQ below (gQc X w B s.heap.size) av.toArray s 0 0 (va_A w s.heap.size), va_A w s.heap.size, s.heap, nL)) ⟨⟨hx, hb, hml, hown, fun w h => hts w (List.mem_cons_of_mem _ h)⟩, hK, hN, fun q h => Or.inr h, rfl⟩ rfl ?_ s.heap [] ls hP hD hS hl
  intro v u lv pc hB hi H locs ls2 hP2 hD2 hS2 hl2
  rcases hi with ⟨rfl, rfl, hdg⟩ | ⟨x, ty, rfl, rfl, hn, hdg⟩
  · exact W.vret hx hb hr (fun t ht hW => ⟨⟨none, u, rfl, hB, by rw [ht]; exact hP2, hD2⟩, hS2.F ht⟩) hS2.2.2 hdg hlocks
  · exact W.zret hx hb hr hn (fun t ht hW => ⟨⟨some (.int x), u, rfl, hB, by rw [ht]; exact hP2, hD2⟩, hS2.F ht⟩) hS2.2.2 hdg hlocks
theorem gNw_face {w : Cond} (h1 : w.onTables = true) (h2 : w.keepsFace = true) {s U : State} (hW : s.WarmedH U.vm) (hz : va_Nw w s) : va_Nw w U := va_tabs h1 (rfl : (s.setVm U.vm).vm = U.vm) (Cond.before_shiftedFace (args := #[]) (State.Shifted.of_warmed hW) _ h2 hz)
theorem gNw_warm {w : Cond} (h : gNok w = true) {s U : State} (hW : s.WarmedH U.vm) (hz : va_Nw w s) : va_Nw w U := by
  simp only [gNok, Bool.or_eq_true, Bool.and_eq_true] at h
  rcases h with h | ⟨h1, h2⟩
  · cases w <;> first | exact va_Nw.warmF hW hz | exact va_Nw.warmM hW hz | (simp [gNest] at h; done)
  · exact gNw_face h1 h2 hW hz
theorem gNw_tab {w : Cond} (h : gNok w = true) : w.onTables = true := by
  simp only [gNok, Bool.or_eq_true, Bool.and_eq_true] at h
  rcases h with h | ⟨h1, h2⟩
  · cases w <;> first | rfl | (simp [gNest] at h; done)
  · exact h1
theorem gNw_same {w : Cond} (h : gNok w = true) {s U : State} (e : s.vm = U.vm) (hz : va_Nw w s) : va_Nw w U := va_Nw.same (gNw_tab h) e hz
theorem gPc_blind {X : gX} {av : List Value} {w : va_W} {sz : Nat} : FrameBlind (gPc X av w sz) := by
  intro a U g mk q
  obtain ⟨q0, q1, qP, qK, qD, qN⟩ := q
  exact ⟨q0, q1, qP, va_K.moved (u := U) (U := U.calling g mk a) (Vm.Alike.refl U.vm) qK, qD, fun x hx => gNw_same (s := U) (U := U.calling g mk a) (gNl_ok x hx) rfl (qN x hx)⟩
section GCALL
variable {p : Program} {l : Launch} {e : Env} {R : Room} {s : State} {m : MethodId} {args : Array Value} {below : List Frame} {meth : Method} {c : Code} {H : Heap} {locs : List Loc} {cells slots : Nat} {Q : State → Prop} {X : gX}
theorem gPc_at {av : List Value} {w : va_W} (hP : va_P X.1 vwCl w H) (hK : va_K X.1 vwCl (gT X) s) {A : Nat → Prop} (hD : va_D A w) (hN : ∀ x ∈ gNl, va_Nw x s) : ∀ U : State, U.heap = H → s.WarmedH U.vm → gPc X av w H.size av.toArray U := fun U hU hW => ⟨rfl, by rw [hU], by rw [hU]; exact hP, va_K.moved hW.alike hK, hD.weaken (fun _ _ _ _ => trivial), fun x hx => gNw_warm (gNl_ok x hx) hW (hN x hx)⟩
/-- behind a call on the whole world -/
theorem gx_call {A0 : Nat → Prop} {H0 : Heap} {w : va_W} {B : Option Value → va_W → Prop} {a : Array Value} {pc : Nat} {ls : Array Slot} {st0 rest : List Value} (hr : va_Run p l e R s m args below meth c H locs cells slots 0 0 (F0 m pc ls st0) rest (gQc X w B H.size a) (va_A w H.size)) (hD : va_D A0 w) (hS : va_S A0 H0 H locs) (hA : ∀ q, H0.size ≤ q → A0 q)
    (kk : ∀ (v : Option Value) (u : va_W) (H1 : Heap) (locs1 : List Loc), B v u → va_P X.1 vwCl u H1 → va_D A0 u → va_S A0 H0 H1 locs1 → W p l e R s m args below meth c H1 locs1 cells slots Q (F0 m (pc + 3) ls (v.toList ++ rest))) : W p l e R s m args below meth c H locs cells slots Q (F0 m pc ls st0) := by
  have hF : ∀ q, va_A w H.size q → A0 q := by
    intro q h
    rcases h with ⟨k, e, h⟩ | h
    · exact hD.2 k (q, e) h
    · exact hA q (Nat.le_trans hS.1 h)
  intro T hT Y
  obtain ⟨v, st₀, t, T', L, h0, Y', hL, e1, e2, ⟨⟨v2, u, hv, hB, hP1, hD1⟩, hz, hk⟩, st⟩ := hr T hT Y
  cases hv
  rw [h0] at hz hk
  obtain ⟨t2, a1, b1⟩ := kk v u T'.heap (locs ++ L) hB (by rw [e1]; exact hP1) (hD1.weaken (fun k q _ h => hF q.1 h))
    ⟨Nat.le_trans hS.1 (by rw [e1]; exact hz), fun q h1 h2 => by rw [e1, hk q (Nat.lt_of_lt_of_le h1 hS.1) (fun z => h2 (hF q z))]; exact hS.2.1 q h1 h2, fun q hq => by
      rcases List.mem_append.mp hq with h | h
      · exact hS.2.2 q h
      · exact hF _ (hL q h)⟩ T' rfl Y'
  exact ⟨t2, st t2 a1, b1⟩
end GCALL
/-- the tables' words are good for every callee -/
theorem gGood {y : MethodName} {cc : ByteArray} {nL : Nat} {ret : Option FieldType} (h : Cond.code y cc nL ret ∈ gTs) (hG : ∀ w ∈ gTs, ((w.onTables && w.keeps) = true ∨ ∃ ty, w = .arrayClass ty)) : GoodIn gTs (Cond.code y cc nL ret :: gTs) := by
  intro w hw
  rcases List.mem_cons.mp hw with rfl | hw
  · exact ⟨h, hG _ h⟩
  · exact ⟨hw, hG w hw⟩
section GK
variable {X : gX} {E : gE} {cc : ByteArray} {nL0 : Nat} {own : String} {cells slots pc : Nat} {ws : va_W} {lv : List (Nat × Value)} {rest : List Value}
variable {y : MethodName} {bytes : ByteArray} {maxL n index : Nat} {ret : Option FieldType} {rm : Room} {B : Option Value → va_W → Prop} {As : List Value}
/-- invokevirtual of a method of the receiver's own class -/
theorem g_callV (C : gC X E cc nL0 own) (q0 : Nat) {C0 : String} {T : u_T} {N ci b : Nat} {fs : List Value} (hM : ∀ l, gM l X y bytes maxL ret rm (.ref b :: As) ws B) (he : ws[q0]? = some (b, .inr (ci, fs))) (hc : vwCl[ci]? = some (C0, T, N))
    (h1 : Cond.methodLink own index y ∈ gTs) (cb : gCb y C0 bytes maxL ret n) (h6 : rm.cells = 0 ∧ rm.slots = 0) (hR : rm.frames + 1 ≤ (gRm E).frames ∧ 8 + (maxL + 11) + rm.locals ≤ (gRm E).locals) (hcs : cells ≤ (gRm E).cells ∧ slots ≤ (gRm E).slots) (hn : As.length = n) {st : List Value} (hst : st = As.reverse ++ .ref b :: rest) (hrest : (rest.map fun v => v.category).sum ≤ 8) (hdg : decode cc pc = .ok (.invokevirtual index, 3))
    (kk : ∀ (v : Option Value) (u : va_W), B v u → gW X E cells slots u lv (pc + 3) (v.toList ++ rest)) : gW X E cells slots ws lv pc st := by
  obtain ⟨⟨⟨p, l, e, R⟩, s, m, args, below, meth, c⟩, Q, A, H0, nL⟩ := E
  obtain ⟨⟨hx, hb, hml, hown, hts⟩, hK, hN, hA, hn0⟩ := C
  intro H locs ls hP hD hS hl
  obtain ⟨⟨h2, h3, h4, h5⟩, hd⟩ := cb
  have hG := gGood h5 gTs_good
  have hr := va_runV (e := e) (below := below) (meth := meth) (locs := locs) (cells := cells) (slots := slots) (As := As) (rest := rest) (g := F0 m pc ls st) ⟨hx, hb, hml, hown, hts⟩ (hM l H.size) (R := R) ⟨callB_of n hts hG rfl h6.1 h6.2 (hts _ h4) (hts _ h1) hd hR, hts _ h2, hts _ h3⟩ ⟨gPc_blind, va_recv hK hP hc he, gPc_at hP hK hD hN⟩ rfl hn hl.1 hst (by show 2 * 0 + _ ≤ 8; omega) hdg hcs
  exact gx_call hr hD hS hA (fun v u H1 locs1 hB hP1 hD1 hS1 => kk v u hB H1 locs1 ls hP1 hD1 hS1 hl)
/-- .. of a private method of a nest mate -/
theorem g_callVN (C : gC X E cc nL0 own) (q0 : Nat) {C0 host : String} {T : u_T} {N ci b : Nat} {fs : List Value} (hM : ∀ l, gM l X y bytes maxL ret rm (.ref b :: As) ws B) (he : ws[q0]? = some (b, .inr (ci, fs))) (hc : vwCl[ci]? = some (C0, T, N))
    (h1 : Cond.methodLinkNest own index y host ∈ gNl) (cb : gCb y C0 bytes maxL ret n) (h6 : rm.cells = 0 ∧ rm.slots = 0) (hR : rm.frames + 1 ≤ (gRm E).frames ∧ 8 + (maxL + 11) + rm.locals ≤ (gRm E).locals) (hcs : cells ≤ (gRm E).cells ∧ slots ≤ (gRm E).slots) (hn : As.length = n) {st : List Value} (hst : st = As.reverse ++ .ref b :: rest) (hrest : (rest.map fun v => v.category).sum ≤ 8) (hdg : decode cc pc = .ok (.invokevirtual index, 3))
    (kk : ∀ (v : Option Value) (u : va_W), B v u → gW X E cells slots u lv (pc + 3) (v.toList ++ rest)) : gW X E cells slots ws lv pc st := by
  obtain ⟨⟨⟨p, l, e, R⟩, s, m, args, below, meth, c⟩, Q, A, H0, nL⟩ := E
  obtain ⟨⟨hx, hb, hml, hown, hts⟩, hK, hN, hA, hn0⟩ := C
  intro H locs ls hP hD hS hl
  obtain ⟨⟨h2, h3, h4, h5⟩, hd⟩ := cb
  have hG := gGood h5 gTs_good
  have hr := va_runVN (e := e) (below := below) (meth := meth) (locs := locs) (cells := cells) (slots := slots) (As := As) (rest := rest) (g := F0 m pc ls st) ⟨hx, hb, hml, hown, hts⟩ (hM l H.size) (R := R) ⟨va_cnB n hts hG rfl h6.1 h6.2 (hN _ h1) (hts _ h4) hd hR, hts _ h2, hts _ h3⟩ ⟨gPc_blind, va_recv hK hP hc he, gPc_at hP hK hD hN⟩ rfl hn hl.1 hst (by show 2 * 0 + _ ≤ 8; omega) hdg hcs
  exact gx_call hr hD hS hA (fun v u H1 locs1 hB hP1 hD1 hS1 => kk v u hB H1 locs1 ls hP1 hD1 hS1 hl)
/-- invokestatic -/
theorem g_callS (C : gC X E cc nL0 own) (hM : ∀ l, gM l X y bytes maxL ret rm As ws B)
    (h1 : Cond.methodLink own index y ∈ gTs) (cb : gSb y bytes maxL ret n) (h6 : rm.cells = 0 ∧ rm.slots = 0) (hR : rm.frames + 1 ≤ (gRm E).frames ∧ 8 + (maxL + 11) + rm.locals ≤ (gRm E).locals) (hcs : cells ≤ (gRm E).cells ∧ slots ≤ (gRm E).slots) (hn : As.length = n) {st : List Value} (hst : st = As.reverse ++ rest) (hrest : (rest.map fun v => v.category).sum ≤ 8) (hdg : decode cc pc = .ok (.invokestatic index, 3))
    (kk : ∀ (v : Option Value) (u : va_W), B v u → gW X E cells slots u lv (pc + 3) (v.toList ++ rest)) : gW X E cells slots ws lv pc st := by
  obtain ⟨⟨⟨p, l, e, R⟩, s, m, args, below, meth, c⟩, Q, A, H0, nL⟩ := E
  obtain ⟨⟨hx, hb, hml, hown, hts⟩, hK, hN, hA, hn0⟩ := C
  intro H locs ls hP hD hS hl
  obtain ⟨⟨h2, h4, h5⟩, hd⟩ := cb
  have hG := gGood h5 gTs_good
  have hr := va_runS (e := e) (below := below) (meth := meth) (locs := locs) (cells := cells) (slots := slots) (As := As) (rest := rest) (g := F0 m pc ls st) ⟨hx, hb, hml, hown, hts⟩ (hM l H.size) (R := R) ⟨callB_of n hts hG rfl h6.1 h6.2 (hts _ h4) (hts _ h1) hd hR, hts _ h2⟩ ⟨gPc_blind, gPc_at hP hK hD hN⟩ rfl hn hl.1 hst (by show 2 * 0 + _ ≤ 8; omega) hdg hcs
  exact gx_call hr hD hS hA (fun v u H1 locs1 hB hP1 hD1 hS1 => kk v u hB H1 locs1 ls hP1 hD1 hS1 hl)
end GK
section GLIB
variable {X : gX} {E : gE} {cc : ByteArray} {nL0 : Nat} {own : String} {cells slots pc : Nat} {ws : va_W} {lv : List (Nat × Value)} {st : List Value}
theorem g_mmin (C : gC X E cc nL0 own) {index : Nat} {x y : Int32} (h1 : Cond.methodLink own index Lib.Math.min.name ∈ gTs) (h2 : Cond.static Lib.Math.min.name ∈ gTs) (h3 : Cond.initialized "java/lang/Math" ∈ gTs) (h4 : Cond.code Lib.Math.min.name Lib.Math.min.code 2 (some .int) ∈ gTs) (hR : 1 ≤ (gRm E).frames ∧ (st.map fun v => v.category).sum + 13 ≤ (gRm E).locals) (hcs : cells ≤ (gRm E).cells ∧ slots ≤ (gRm E).slots) (hdg : decode cc pc = .ok (.invokestatic index, 3)) (kk : gW X E cells slots ws lv (pc + 3) (.int (if y < x then y else x) :: st)) : gW X E cells slots ws lv pc (.int y :: .int x :: st) := by
  obtain ⟨⟨⟨p, l, e, R⟩, s, m, args, below, meth, c⟩, Q, A, H0, nL⟩ := E
  obtain ⟨⟨hx, hb, hml, hown, hts⟩, hK, hN, hA, hn0⟩ := C
  intro H locs ls hP hD hS hl
  exact va_mmin hx hb (hml.trans hl.1.symm) hown (hts _ h1) (hts _ h2) (hts _ h3) (hts _ h4) hR.1 hR.2 hcs.1 hcs.2 hdg (kk H locs ls hP hD hS hl)
theorem g_mmax (C : gC X E cc nL0 own) {index : Nat} {x y : Int32} (h1 : Cond.methodLink own index Lib.Math.max.name ∈ gTs) (h2 : Cond.static Lib.Math.max.name ∈ gTs) (h3 : Cond.initialized "java/lang/Math" ∈ gTs) (h4 : Cond.code Lib.Math.max.name Lib.Math.max.code 2 (some .int) ∈ gTs) (hR : 1 ≤ (gRm E).frames ∧ (st.map fun v => v.category).sum + 13 ≤ (gRm E).locals) (hcs : cells ≤ (gRm E).cells ∧ slots ≤ (gRm E).slots) (hdg : decode cc pc = .ok (.invokestatic index, 3)) (kk : gW X E cells slots ws lv (pc + 3) (.int (if x < y then y else x) :: st)) : gW X E cells slots ws lv pc (.int y :: .int x :: st) := by
  obtain ⟨⟨⟨p, l, e, R⟩, s, m, args, below, meth, c⟩, Q, A, H0, nL⟩ := E
  obtain ⟨⟨hx, hb, hml, hown, hts⟩, hK, hN, hA, hn0⟩ := C
  intro H locs ls hP hD hS hl
  exact va_mmax hx hb (hml.trans hl.1.symm) hown (hts _ h1) (hts _ h2) (hts _ h3) (hts _ h4) hR.1 hR.2 hcs.1 hcs.2 hdg (kk H locs ls hP hD hS hl)
/-- System.arraycopy of ints -/
theorem g_copyi (C : gC X E cc nL0 own) {index : Nat} (h1 : Cond.methodLink own index arraycopyName ∈ gTs) (h2 : Cond.native arraycopyName ∈ gTs) (h3 : Cond.static arraycopyName ∈ gTs) (h4 : Cond.initialized "java/lang/System" ∈ gTs) (q0 q1 : Nat) {a0 a : Nat} {c0 c1 : ClassId} {n0 n1 : Nat} {f g : Nat → Int32} {ws2 : va_W} (ha0 : ws[q0]? = some (a0, .inl (c0, n0, .inl f))) (ha1 : ws[q1]? = some (a, .inl (c1, n1, .inl g))) (ht0 : (gT X)[0]? = some (c0, .int)) (ht1 : (gT X)[0]? = some (c1, .int)) {sp dp n : Int32} (hh : ¬ sp < 0 ∧ ¬ dp < 0 ∧ ¬ n < 0 ∧ sp.toNatClampNeg + n.toNatClampNeg ≤ n0 ∧ dp.toNatClampNeg + n.toNatClampNeg ≤ n1) (hR : 1 ≤ (gRm E).frames ∧ (st.map fun v => v.category).sum + (nativeFrameWords "java/lang/System" "arraycopy" 5 + 11) ≤ (gRm E).locals) (e2 : ws.set q1 (a, .inl (c1, n1, .inl (va_cpy f g sp.toNatClampNeg dp.toNatClampNeg n.toNatClampNeg))) = ws2) (hdg : decode cc pc = .ok (.invokestatic index, 3)) (kk : gW X E cells slots ws2 lv (pc + 3) st) : gW X E cells slots ws lv pc (.int n :: .int dp :: .ref a :: .int sp :: .ref a0 :: st) := by
  obtain ⟨⟨⟨p, l, e, R⟩, s, m, args, below, meth, c⟩, Q, A, H0, nL⟩ := E
  obtain ⟨⟨hx, hb, hml, hown, hts⟩, hK, hN, hA, hn0⟩ := C
  intro H locs ls hP hD hS hl
  exact va_copyi hx hb (hml.trans hl.1.symm) hown (hts _ h1) (hts _ h2) (hts _ h3) (hts _ h4) hK hP hD hS q0 q1 0 0 ha0 ha1 ht0 ht1 rfl hh.1 hh.2.1 hh.2.2.1 hh.2.2.2.1 hh.2.2.2.2 (fun _ _ => rfl) hR.1 hR.2 hdg (fun H1 locs1 hP1 hD1 hS1 => kk H1 locs1 ls (e2 ▸ hP1) (e2 ▸ hD1) hS1 hl)
end GLIB
section GKU
variable {X : gX} {E : gE} {cc : ByteArray} {nL0 : Nat} {own : String} {cells slots pc : Nat} {ws : va_W} {lv : List (Nat × Value)} {rest : List Value}
variable {x y : MethodName} {bytes : ByteArray} {maxL n index : Nat} {ret : Option FieldType} {rm : Room} {B : Option Value → va_W → Prop} {As : List Value}
/-- invokevirtual of an abstract method x; the receiver's y is run -/
theorem g_callU (C : gC X E cc nL0 own) (q0 : Nat) {C0 owner : String} {T : u_T} {N ci b : Nat} {fs : List Value} (hM : ∀ l, gM l X y bytes maxL ret rm (.ref b :: As) ws B) (he : ws[q0]? = some (b, .inr (ci, fs))) (hc : vwCl[ci]? = some (C0, T, N))
    (h1 : Cond.methodLink own index x ∈ gTs) (h2 : Cond.sameMethod x.cls owner x.name x.desc ∈ gTs) (hz : Cond.declares ⟨owner, x.name, x.desc⟩ ∈ gNl) (h3 : Cond.selects C0 x y ∈ gTs) (hi : Cond.instanceMethod y ∈ gTs) (h4 : Cond.initialized y.cls ∈ gTs) (h5 : Cond.code y bytes maxL ret ∈ gTs) (hd : owner ≠ "java/lang/invoke/MethodHandle" ∧ owner ≠ "java/lang/invoke/VarHandle" ∧ (parseMethodDescriptor x.desc).map (fun d => d.parameters.length) = some n) (h6 : rm.cells = 0 ∧ rm.slots = 0)
    (hR : rm.frames + 1 ≤ (gRm E).frames ∧ 8 + (maxL + 11) + rm.locals ≤ (gRm E).locals) (hcs : cells ≤ (gRm E).cells ∧ slots ≤ (gRm E).slots) (hn : As.length = n) {st : List Value} (hst : st = As.reverse ++ .ref b :: rest) (hrest : (rest.map fun v => v.category).sum ≤ 8) (hdg : decode cc pc = .ok (.invokevirtual index, 3))
    (kk : ∀ (v : Option Value) (u : va_W), B v u → gW X E cells slots u lv (pc + 3) (v.toList ++ rest)) : gW X E cells slots ws lv pc st := by
  obtain ⟨⟨⟨p, l, e, R⟩, s, m, args, below, meth, c⟩, Q, A, H0, nL⟩ := E
  obtain ⟨⟨hx, hb, hml, hown, hts⟩, hK, hN, hA, hn0⟩ := C
  intro H locs ls hP hD hS hl
  have hG := gGood h5 gTs_good
  have hlen : ∀ sig, parseMethodDescriptor x.desc = some sig → n = sig.parameters.length := by
    intro sig h
    have h2 := hd.2.2
    rw [h] at h2
    exact (Option.some.inj h2).symm
  have hr := va_runU (e := e) (below := below) (meth := meth) (locs := locs) (cells := cells) (slots := slots) (As := As) (rest := rest) (g := F0 m pc ls st) ⟨hx, hb, hml, hown, hts⟩ (hM l H.size) (R := R) (C := C0) (owner := owner) (index := index) (x := x) (n := n) ⟨⟨h6.1, h6.2, hR.1, hR.2, pay_in hts hG, List.mem_cons_self⟩, hts _ h5, hts _ h4, ⟨hd.1, hd.2.1⟩, hlen, hts _ h1, hts _ h2, va_Decl.abs (hN _ hz), hts _ h3, hts _ hi⟩ ⟨gPc_blind, va_recv hK hP hc he, gPc_at hP hK hD hN⟩ rfl hn hl.1 hst (by show 2 * 0 + _ ≤ 8; omega) hdg hcs
  exact gx_call hr hD hS hA (fun v u H1 locs1 hB hP1 hD1 hS1 => kk v u hB H1 locs1 ls hP1 hD1 hS1 hl)
end GKU
/-! A state of a system: scalars by number, arrays by number. -/
abbrev gS := (Nat → Int32) × (Nat → Nat → Int32)
def up (f : Nat → Int32) (k : Nat) (v : Int32) : Nat → Int32 := fun j => bif Nat.beq j k then v else f j
def ua (f : Nat → Nat → Int32) (k : Nat) (g : Nat → Int32) : Nat → Nat → Int32 := fun j => bif Nat.beq j k then g else f j
def gBi (W : gS → va_W) (Q : Int32 → gS → Prop) : Option Value → va_W → Prop := fun v u => ∃ (r : Int32) (s : gS), v = some (.int r) ∧ u = W s ∧ Q r s
def gBv (W : gS → va_W) (Q : gS → Prop) : Option Value → va_W → Prop := fun v u => ∃ s : gS, v = none ∧ u = W s ∧ Q s
theorem gBi_mk {W : gS → va_W} {Q : Int32 → gS → Prop} {r : Int32} {s : gS} (h : Q r s) : gBi W Q (some (.int r)) (W s) := ⟨r, s, rfl, rfl, h⟩
theorem gBv_mk {W : gS → va_W} {Q : gS → Prop} {s : gS} (h : Q s) : gBv W Q none (W s) := ⟨s, rfl, rfl, h⟩
theorem gki {X : gX} {E : gE} {cells slots pc : Nat} {lv : List (Nat × Value)} {rest : List Value} {W : gS → va_W} {Q : Int32 → gS → Prop} (k : ∀ (r : Int32) (s : gS), Q r s → gW X E cells slots (W s) lv pc (.int r :: rest)) : ∀ (v : Option Value) (u : va_W), gBi W Q v u → gW X E cells slots u lv pc (v.toList ++ rest) := by
  rintro v u ⟨r, s, rfl, rfl, h⟩
  exact k r s h
theorem gkv {X : gX} {E : gE} {cells slots pc : Nat} {lv : List (Nat × Value)} {rest : List Value} {W : gS → va_W} {Q : gS → Prop} (k : ∀ (s : gS), Q s → gW X E cells slots (W s) lv pc rest) : ∀ (v : Option Value) (u : va_W), gBv W Q v u → gW X E cells slots u lv pc (v.toList ++ rest) := by
  rintro v u ⟨s, rfl, rfl, h⟩
  exact k s h
