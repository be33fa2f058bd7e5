/-! Methods that make cells: constructors. -/
def gMk (l : Launch) (X : gX) (y : MethodName) (cc : ByteArray) (nL : Nat) (ret : Option FieldType) (rm : Room) (mc ms : Nat) (av : List Value) (w : va_W) (B : Option Value → va_W → Prop) : Prop := ∀ sz : Nat, Met l y (.code y cc nL ret :: gTs) rm (gPc X av w sz) (gQc X w B sz) mc ms (va_A w sz)
def gInit (E : gE) : Prop := E.1.2.2.2.2.2.1.name = "<init>"
theorem gMk_of {l : Launch} {X : gX} {y : MethodName} {cc : ByteArray} {nL : Nat} {rm : Room} {mc ms : Nat} {av : List Value} {w : va_W} {B : Option Value → va_W → Prop} {own : String} {lv0 : List (Nat × Value)} (hy : plainName y.cls = true) (ho : y.cls = own) (hyn : y.name = "<init>") (hav : (lg_sl av).length ≤ nL) (hlv : lv_args 0 av = lv0)
    (body : ∀ E : gE, gC X E cc nL own → gRm E = rm → gInit E → gRx X E cc none B mc ms → gW X E 0 0 w lv0 0 []) : gMk l X y cc nL none rm mc ms av w B := by
  intro sz
  refine Met.ofW (cc := cc) (maxL := nL) (ret := none) hy rfl ?_
  intro p e s m args below meth c s₁ Bd hml hv
  obtain ⟨rfl, hsz, hP, hK, hD0, hN⟩ := hv
  have hx := Bd.exec
  have hb := Bd.bytes
  have hr := Bd.returns
  have hlocks := Bd.notSynchronized
  have hts := atoms_spec (ws := Cond.code y cc nL none :: gTs) Bd.pre
  have hown : s.vm.findClass own = some m.cls := by rw [← ho]; exact findClass_of_methodNamed Bd.named
  have hnm : meth.name = "<init>" := (name_of_methodNamed Bd.named Bd.method).1.trans hyn
  subst hsz
  have hD := hD0.self (sz := s.heap.size)
  have hS : va_S (va_A w s.heap.size) s.heap s.heap [] := va_S.rf
  have hl := lv_entry av (n := nL) hav
  rw [lg_entry_eq]
  generalize (lg_sl av ++ List.replicate (nL - (lg_sl av).length) Slot.unset).toArray = ls at hl ⊢
  rw [hlv] at hl
  refine body (((p, l, e, (headSpec (Cond.code y cc nL none :: gTs) rm).room), (s, m, av.toArray, below, meth, c)), (MQ below (gQc X w B s.heap.size) av.toArray s mc ms (va_A w s.heap.size), va_A w s.heap.size, s.heap, nL)) ⟨⟨hx, hb, hml, hown, fun w h => hts w (List.mem_cons_of_mem _ h)⟩, hK, hN, fun q h => Or.inr h, rfl⟩ rfl hnm ?_ s.heap [] ls hP hD hS hl
  intro cells slots v u lv pc h1 h2 hB hi H locs ls2 hP2 hD2 hS2 hl2
  refine W.widen h1 h2 ?_
  rcases hi with ⟨rfl, -, hdg⟩ | ⟨x, ty, rfl, hf, hn, hdg⟩
  · exact W.vret hx hb hr (fun t ht hW => ⟨⟨none, u, rfl, hB, by rw [ht]; exact hP2, hD2⟩, hS2.F ht⟩) hS2.2.2 hdg hlocks
  · cases hf
section GCT
variable {X : gX} {E : gE} {cc : ByteArray} {nL0 : Nat} {own : String} {cells slots pc : Nat} {ws : va_W} {lv : List (Nat × Value)} {st : List Value}
theorem g_new (C : gC X E cc nL0 own) {C0 : String} {T : u_T} {N ci index : Nat} {fs : List Value} (hin : ∀ w ∈ u_ws C0 T N, w ∈ gTs) (ty : Nat → FieldType) (hty : ∀ k, k < N → parseFieldDescriptor (T k).2.2.1 = some (ty k)) (h1 : Cond.classLink own index C0 ∈ gTs) (h2 : Cond.instantiable C0 N ∈ gTs) (h3 : Cond.initialized C0 ∈ gTs) (hc : vwCl[ci]? = some (C0, T, N)) (hfs : ∀ j, j < N → defaultValue (ty j) = vp_V fs j) (hcs : cells + 1 ≤ (gRm E).cells ∧ slots + N ≤ (gRm E).slots) (hdg : decode cc pc = .ok (.new index, 3))
    (kk : ∀ q : Nat, gW X E (cells + 1) (slots + N) (ws ++ [(q, .inr (ci, fs))]) lv (pc + 3) (.ref q :: st)) : gW X E cells slots ws lv pc st := by
  obtain ⟨⟨⟨p, l, e, R⟩, s, m, args, below, meth, c⟩, Q, A, H0, nL⟩ := E
  obtain ⟨⟨hx, hb, hml, hown, hts⟩, hK, hN, hA, hn0⟩ := C
  intro H locs ls hP hD hS hl
  exact va_new hx hb hts hin ty hty hown (hts _ h1) (hts _ h2) (hts _ h3) hK hP hD hS hA hc hfs hcs.1 hcs.2 hdg (fun q H1 hP1 hD1 hS1 => kk q H1 locs ls hP1 hD1 hS1 hl)
/-- a new array; its class is the table's -/
theorem g_newa (C : gC X E cc nL0 own) (t0 : Nat) {atype : ArrayType} {ty : FieldType} {cA : ClassId} (h1 : Cond.arrayClass (newarray.typeOf atype) ∈ gTs) (hty : newarray.typeOf atype = ty) (ht : (gT X)[t0]? = some (cA, ty)) (hra : ∀ (U : State) (c : ClassId), va_RA U c ty → U.vm.findClass ("[" ++ ty.toString) = some c) {n : Int32} {N' : Nat} {a0 : vp_A} (ha : ∀ cA : ClassId, vp_cell cA a0 = arrV cA N' (fun _ => defaultValue ty)) (hn : ¬ n < 0) (hNn : n.toNatClampNeg = N') (hbytes : N' * componentBytes ty ≤ 536870912) (hcs : cells + 1 ≤ (gRm E).cells ∧ slots + N' ≤ (gRm E).slots) (hdg : decode cc pc = .ok (.newarray atype, 2))
    (kk : ∀ q : Nat, gW X E (cells + 1) (slots + N') (ws ++ [(q, .inl (cA, a0))]) lv (pc + 2) (.ref q :: st)) : gW X E cells slots ws lv pc (.int n :: st) := by
  obtain ⟨⟨⟨p, l, e, R⟩, s, m, args, below, meth, c⟩, Q, A, H0, nL⟩ := E
  obtain ⟨⟨hx, hb, hml, hown, hts⟩, hK, hN, hA, hn0⟩ := C
  intro H locs ls hP hD hS hl
  subst hty
  refine va_newaK hx hb (hts _ h1) rfl hdg rfl hn hNn hbytes hcs.1 hcs.2 rfl fun H1 cB e1 z1 o1 hAr hNm => ?_
  have hcc : cB = cA := Option.some.inj (hNm.symm.trans (hra s cA (hK.2 t0 _ ht).2))
  subst hcc
  have hk : ∀ (k : Nat) (x : Nat × va_E), ws[k]? = some x → H1[x.1]? = H[x.1]? := fun k x hx => o1 x.1 ((hP k x hx).lt)
  refine kk H.size H1 locs ls ((hP.kept hk).app (fun k x hx => ?_)) (hD.push hP rfl (hA _ hS.1)) ⟨Nat.le_trans hS.1 (by omega), fun x h1 h2 => (o1 x (Nat.lt_of_lt_of_le h1 hS.1)).trans (hS.2.1 x h1 h2), hS.2.2⟩ hl
  have hz : k < 1 := (List.getElem?_eq_some_iff.mp hx).1
  rw [show k = 0 by omega] at hx
  cases hx
  show H1[H.size]? = some (vp_cell _ _)
  rw [ha]
  exact e1
/-- a final field in its class's constructor -/
theorem g_putF (C : gC X E cc nL0 own) (hI : gInit E) (q0 k : Nat) {ref C0 : String} {T : u_T} {N ci index a : Nat} {fs : List Value} {v : Value} {ws2 : va_W} (hin : ∀ w ∈ u_ws C0 T N, w ∈ gTs) (ty0 : Nat → FieldType) (hty : ∀ k, k < N → parseFieldDescriptor (T k).2.2.1 = some (ty0 k)) (hnm : ∀ a, a < N → ∀ b, b < N → a ≠ b → (T a).2.1 ≠ (T b).2.1) (he : ws[q0]? = some (a, .inr (ci, fs))) (hc : vwCl[ci]? = some (C0, T, N)) (hk : k < N) (hlink : Cond.fieldLink own index ref (T k).2.1 (T k).2.2.1 ∈ gTs) (href : (T k).1 = ref) (hfin : (T k).2.2.2 = true) (hdecl : (T k).1 = own) (hn : narrow (ty0 k) v = v) (hfit : fits (ty0 k) v = true) (hlen : k < fs.length) (e2 : ws.set q0 (a, .inr (ci, fs.set k v)) = ws2) (hdg : decode cc pc = .ok (.putfield index, 3)) (kk : gW X E cells slots ws2 lv (pc + 3) st) : gW X E cells slots ws lv pc (v :: .ref a :: st) := by
  obtain ⟨⟨⟨p, l, e, R⟩, s, m, args, below, meth, c⟩, Q, A, H0, nL⟩ := E
  obtain ⟨⟨hx, hb, hml, hown, hts⟩, hK, hN, hA, hn0⟩ := C
  intro H locs ls hP hD hS hl
  exact va_putF hx hb hts hin ty0 hty hnm hown hK hP hD hS q0 he hc k hk (hts _ hlink) (fun x h => by rw [← href]; exact h) hfin hI hdecl (hty k hk) hn hfit hlen hdg (fun H1 locs1 hP1 hD1 hS1 => kk H1 locs1 ls (e2 ▸ hP1) (e2 ▸ hD1) hS1 hl)
/-- Object's constructor -/
theorem g_objInit (C : gC X E cc nL0 own) {idx a : Nat} (h1 : Cond.methodLink own idx objectInit ∈ gTs) (h2 : Cond.instanceMethod objectInit ∈ gTs) (h3 : Cond.code objectInit ⟨#[0xb1]⟩ 1 none ∈ gTs) (hR : 1 ≤ (gRm E).frames ∧ (st.map fun v => v.category).sum + 12 ≤ (gRm E).locals) (hdg : decode cc pc = .ok (.invokespecial idx, 3)) (kk : gW X E cells slots ws lv (pc + 3) st) : gW X E cells slots ws lv pc (.ref a :: st) := by
  obtain ⟨⟨⟨p, l, e, R⟩, s, m, args, below, meth, c⟩, Q, A, H0, nL⟩ := E
  obtain ⟨⟨hx, hb, hml, hown, hts⟩, hK, hN, hA, hn0⟩ := C
  intro H locs ls hP hD hS hl
  have h9 : (st.map fun v => v.category).sum + 12 ≤ R.locals := hR.2
  refine W.objInit hx hb hown (hts _ h1) (hts _ h2) (hts _ h3) rfl (by rw [hml]; exact hl.1) rfl hdg hR.1 (by show 2 * 0 + _ + 12 ≤ R.locals; omega) ?_
  exact kk H locs ls hP hD hS hl
variable {y : MethodName} {bytes : ByteArray} {maxL n index : Nat} {rm : Room} {As rest : List Value} {B : Option Value → va_W → Prop} {mc ms : Nat}
/-- behind a call on a part of the world -/
theorem gx_part {p : Program} {l : Launch} {e : Env} {R : Room} {s : State} {m : MethodId} {args : Array Value} {below : List Frame} {meth : Method} {c : Code} {H : Heap} {locs : List Loc} {Q : State → Prop} {A0 : Nat → Prop} {H0 : Heap} {wc wr : va_W} {a : Array Value} {ls : Array Slot} {st0 : List Value} (isC isR : List Nat) (hC : isC.map (fun i => ws[i]?) = wc.map some) (hR : isR.map (fun i => ws[i]?) = wr.map some) (hnd : va_nd isR = true) (hdis : ∀ i ∈ isR, i ∉ isC)
    (hr : va_Run p l e R s m args below meth c H locs cells slots mc ms (F0 m pc ls st0) rest (gQc X wc B H.size a) (va_A wc H.size)) (hP : va_P X.1 vwCl ws H) (hD : va_D A0 ws) (hS : va_S A0 H0 H locs) (hA : ∀ q, H0.size ≤ q → A0 q)
    (kk : ∀ (v : Option Value) (u : va_W) (H1 : Heap) (locs1 : List Loc), B v u → va_P X.1 vwCl (wr ++ u) H1 → va_D A0 (wr ++ u) → va_S A0 H0 H1 locs1 → W p l e R s m args below meth c H1 locs1 (cells + mc) (slots + ms) Q (F0 m (pc + 3) ls (v.toList ++ rest))) : W p l e R s m args below meth c H locs cells slots Q (F0 m pc ls st0) := by
  have hF := va_free (wc := wc) hD hS hA isC hC
  intro T hT Y
  obtain ⟨v, st₀, t, T', L, h0, Y', hL, e1, e2, ⟨⟨v2, u, hv, hB, hP1, hD1⟩, hz, hk⟩, stp⟩ := hr T hT Y
  cases hv
  rw [h0] at hz hk
  obtain ⟨hPj, hDj⟩ := va_join (wr := wr) (w1 := u) (H1 := T'.heap) hP hD isC isR hC hR hnd hdis (fun q h1 h2 => by rw [e1]; exact hk q h1 h2) hF (by rw [e1]; exact hP1) hD1
  obtain ⟨t2, a1, b1⟩ := kk v u T'.heap (locs ++ L) hB hPj hDj
    ⟨Nat.le_trans hS.1 (by rw [e1]; exact hz), fun q h1 h2 => by rw [e1, hk q (Nat.lt_of_lt_of_le h1 hS.1) (fun z => h2 (hF q z))]; exact hS.2.1 q h1 h2, fun q hq => by
      rcases List.mem_append.mp hq with h | h
      · exact hS.2.2 q h
      · exact hF _ (hL q h)⟩ T' rfl Y'
  exact ⟨t2, stp t2 a1, b1⟩
/-- invokespecial of a nest mate's private constructor -/
theorem g_callIN (C : gC X E cc nL0 own) {host : String} {b : Nat} {wc wr : va_W} (isC isR : List Nat) (hC : isC.map (fun i => ws[i]?) = wc.map some) (hRr : isR.map (fun i => ws[i]?) = wr.map some) (hnc : va_nd isC = true) (hnd : va_nd isR = true) (hdis : ∀ i ∈ isR, i ∉ isC) (hM : ∀ l, gMk l X y bytes maxL none rm mc ms (.ref b :: As) wc B) (hyn : y.name = "<init>")
    (h1 : Cond.methodLinkNest own index y host ∈ gNl) (h2 : Cond.instanceMethod y ∈ gTs) (h4 : Cond.initialized y.cls ∈ gTs) (h5 : Cond.code y bytes maxL none ∈ gTs) (hd : y.cls ≠ "java/lang/invoke/MethodHandle" ∧ y.cls ≠ "java/lang/invoke/VarHandle" ∧ (parseMethodDescriptor y.desc).map (fun d => d.parameters.length) = some n) (h6 : rm.cells = mc ∧ rm.slots = ms) (hR : rm.frames + 1 ≤ (gRm E).frames ∧ 8 + (maxL + 11) + rm.locals ≤ (gRm E).locals) (hcs : cells + mc ≤ (gRm E).cells ∧ slots + ms ≤ (gRm E).slots) (hn : As.length = n) (hst : st = As.reverse ++ .ref b :: rest) (hrest : (rest.map fun v => v.category).sum ≤ 8) (hdg : decode cc pc = .ok (.invokespecial index, 3))
    (kk : ∀ (v : Option Value) (u : va_W), B v u → gW X E (cells + mc) (slots + ms) (wr ++ u) lv (pc + 3) (v.toList ++ rest)) : gW X E cells slots ws lv pc st := by
  obtain ⟨⟨⟨p, l, e, R⟩, s, m, args, below, meth, c⟩, Q, A, H0, nL⟩ := E
  obtain ⟨⟨hx, hb, hml, hown, hts⟩, hK, hN, hA, hn0⟩ := C
  intro H locs ls hP hD hS hl
  have hG := gGood h5 gTs_good
  have hPc : va_P X.1 vwCl wc H := by
    intro k q hq
    have h1 : (isC.map (fun i => ws[i]?))[k]? = some (some q) := by rw [hC, List.getElem?_map, hq]; rfl
    rw [List.getElem?_map] at h1
    cases hi : isC[k]? with
    | none => rw [hi] at h1; cases h1
    | some i => rw [hi] at h1; exact hP i q (Option.some.inj h1)
  have hDw := hD.sub (ws' := wc) isC hnc hC
  have hr := va_runIN (e := e) (below := below) (meth := meth) (locs := locs) (cells := cells) (slots := slots) (As := As) (rest := rest) (g := F0 m pc ls st) ⟨hx, hb, hml, hown, hts⟩ (hM l H.size) (R := R) (host := host) ⟨va_cnB n hts hG rfl h6.1 h6.2 (hN _ h1) (hts _ h4) hd hR, hyn, hts _ h2⟩ ⟨gPc_blind, gPc_at hPc hK hDw hN⟩ rfl hn hl.1 hst (by show 2 * 0 + _ ≤ 8; omega) hdg hcs
  exact gx_part isC isR hC hRr hnd hdis hr hP hD hS hA (fun v u H1 locs1 hB hP1 hD1 hS1 => kk v u hB H1 locs1 ls hP1 hD1 hS1 hl)
/-- .. of a constructor by its plain link -/
theorem g_callI (C : gC X E cc nL0 own) {b : Nat} {wc wr : va_W} (isC isR : List Nat) (hC : isC.map (fun i => ws[i]?) = wc.map some) (hRr : isR.map (fun i => ws[i]?) = wr.map some) (hnc : va_nd isC = true) (hnd : va_nd isR = true) (hdis : ∀ i ∈ isR, i ∉ isC) (hM : ∀ l, gMk l X y bytes maxL none rm mc ms (.ref b :: As) wc B) (hyn : y.name = "<init>")
    (h1 : Cond.methodLink own index y ∈ gTs) (h2 : Cond.instanceMethod y ∈ gTs) (h4 : Cond.initialized y.cls ∈ gTs) (h5 : Cond.code y bytes maxL none ∈ gTs) (hd : y.cls ≠ "java/lang/invoke/MethodHandle" ∧ y.cls ≠ "java/lang/invoke/VarHandle" ∧ (parseMethodDescriptor y.desc).map (fun d => d.parameters.length) = some n) (h6 : rm.cells = mc ∧ rm.slots = ms) (hR : rm.frames + 1 ≤ (gRm E).frames ∧ 8 + (maxL + 11) + rm.locals ≤ (gRm E).locals) (hcs : cells + mc ≤ (gRm E).cells ∧ slots + ms ≤ (gRm E).slots) (hn : As.length = n) (hst : st = As.reverse ++ .ref b :: rest) (hrest : (rest.map fun v => v.category).sum ≤ 8) (hdg : decode cc pc = .ok (.invokespecial index, 3))
    (kk : ∀ (v : Option Value) (u : va_W), B v u → gW X E (cells + mc) (slots + ms) (wr ++ u) lv (pc + 3) (v.toList ++ rest)) : gW X E cells slots ws lv pc st := by
  obtain ⟨⟨⟨p, l, e, R⟩, s, m, args, below, meth, c⟩, Q, A, H0, nL⟩ := E
  obtain ⟨⟨hx, hb, hml, hown, hts⟩, hK, hN, hA, hn0⟩ := C
  intro H locs ls hP hD hS hl
  have hG := gGood h5 gTs_good
  have hPc : va_P X.1 vwCl wc H := by
    intro k q hq
    have h1 : (isC.map (fun i => ws[i]?))[k]? = some (some q) := by rw [hC, List.getElem?_map, hq]; rfl
    rw [List.getElem?_map] at h1
    cases hi : isC[k]? with
    | none => rw [hi] at h1; cases h1
    | some i => rw [hi] at h1; exact hP i q (Option.some.inj h1)
  have hDw := hD.sub (ws' := wc) isC hnc hC
  have hr := va_runI (e := e) (below := below) (meth := meth) (locs := locs) (cells := cells) (slots := slots) (As := As) (rest := rest) (g := F0 m pc ls st) ⟨hx, hb, hml, hown, hts⟩ (hM l H.size) (R := R) ⟨callB_of n hts hG rfl h6.1 h6.2 (hts _ h4) (hts _ h1) hd hR, hyn, hts _ h2⟩ ⟨gPc_blind, gPc_at hPc hK hDw hN⟩ rfl hn hl.1 hst (by show 2 * 0 + _ ≤ 8; omega) hdg hcs
  exact gx_part isC isR hC hRr hnd hdis hr hP hD hS hA (fun v u H1 locs1 hB hP1 hD1 hS1 => kk v u hB H1 locs1 ls hP1 hD1 hS1 hl)
end GCT
