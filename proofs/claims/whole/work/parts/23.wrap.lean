/-! The law's wrappers: a call of the class within a try, its answer into a long array. -/
def wL (ad : Nat → Nat) (X : gX) (s : gS) (f : Nat → Int64) : va_W := wC ad X s ++ [(ad 21, .inl (X.2.2.2, 1, .inr (.inl f)))]
/-- pairs of thrown that are not of one kind -/
def gNcs : List (String × String) := [("java/lang/IllegalArgumentException", "java/lang/IllegalStateException"), ("java/lang/IndexOutOfBoundsException", "java/lang/IllegalStateException")]
def gPw (X : gX) (av : List Value) (w : va_W) (sz : Nat) : Array Value → State → Prop := va_Pc av (fun U => U.heap.size = sz ∧ va_P X.1 vwCl w U.heap ∧ va_K X.1 vwCl (gT X) U ∧ va_D (fun _ => True) w ∧ (∀ x ∈ gNl, va_Nw x U) ∧ gTh (va_A w sz) U U.heap ∧ ∀ q ∈ gNcs, va_Nc q.1 q.2 U)
theorem gPw_blind {X : gX} {av : List Value} {w : va_W} {sz : Nat} : FrameBlind (gPw X av w sz) := by
  intro a U g mk q
  obtain ⟨q0, q1, qP, qK, qD, qN, qT, qC⟩ := q
  exact ⟨q0, q1, qP, va_K.moved (u := U) (U := U.calling g mk a) (Vm.Alike.refl U.vm) qK, qD, fun x hx => gNw_same (s := U) (U := U.calling g mk a) (gNl_ok x hx) rfl (qN x hx), gTh_same (u := U) (U := U.calling g mk a) rfl qT, fun q hq => va_Nc.moved (u := U) (U := U.calling g mk a) (Vm.Alike.refl U.vm) (qC q hq)⟩
def gMw (l : Launch) (X : gX) (y : MethodName) (cc : ByteArray) (nL : Nat) (ret : Option FieldType) (hh : List (Nat × Nat × Nat × Nat)) (rm : Room) (mc ms : Nat) (av : List Value) (w : va_W) (B : Option Value → va_W → Prop) : Prop := ∀ sz : Nat, Met l y (.codeWith y cc nL ret hh :: gTs) rm (gPw X av w sz) (gQc X w B sz) mc ms (va_A w sz)
/-- what a wrapper's walk stands on -/
def gHx (E : gE) (hh : List (Nat × Nat × Nat × Nat)) : Prop := match E with
  | (((_, l, _, _), (s, _, _, _, _, c)), (_, A, H0, _)) => H0 = s.heap ∧ c.exceptionTable.toList = tableOf hh ∧ l.stackTraces = false ∧ gTh A s s.heap ∧ ∀ q ∈ gNcs, va_Nc q.1 q.2 s
theorem gMw_of {l : Launch} {X : gX} {y : MethodName} {cc : ByteArray} {nL : Nat} {ret : Option FieldType} {hh : List (Nat × Nat × Nat × Nat)} {rm : Room} {mc ms : Nat} {av : List Value} {w : va_W} {B : Option Value → va_W → Prop} {own : String} {lv0 : List (Nat × Value)} (hl : l.stackTraces = false) (hy : plainName y.cls = true) (ho : y.cls = own) (hav : (lg_sl av).length ≤ nL) (hlv : lv_args 0 av = lv0)
    (body : ∀ E : gE, gC X E cc nL own → gRm E = rm → gRx X E cc ret B mc ms → gHx E hh → gW X E 0 0 w lv0 0 []) : gMw l X y cc nL ret hh rm mc ms av w B := by
  intro sz
  refine va_MetW (cc := cc) (maxL := nL) (ret := ret) (hh := hh) hy rfl ?_
  intro p e s m args below meth c s₁ Bd hml hv
  obtain ⟨rfl, hsz, hP, hK, hD0, hN, hTh, hNc⟩ := hv
  have hx := Bd.exec
  have hb := Bd.bytes
  have hr := Bd.returns
  have hlocks := Bd.notSynchronized
  have hts := atoms_spec (ws := Cond.codeWith y cc nL ret hh :: gTs) Bd.pre
  have htab := vx_table (x := y) Bd (hts _ List.mem_cons_self)
  have hown : s.vm.findClass own = some m.cls := by rw [← ho]; exact findClass_of_methodNamed Bd.named
  subst hsz
  have hD := hD0.self (sz := s.heap.size)
  have hS : va_S (va_A w s.heap.size) s.heap s.heap [] := va_S.rf
  have hl0 := lv_entry av (n := nL) hav
  rw [lg_entry_eq]
  generalize (lg_sl av ++ List.replicate (nL - (lg_sl av).length) Slot.unset).toArray = ls at hl0 ⊢
  rw [hlv] at hl0
  refine body (((p, l, e, (headSpec (Cond.codeWith y cc nL ret hh :: gTs) rm).room), (s, m, av.toArray, below, meth, c)), (MQ below (gQc X w B s.heap.size) av.toArray s mc ms (va_A w s.heap.size), va_A w s.heap.size, s.heap, nL)) ⟨⟨hx, hb, hml, hown, fun w h => hts w (List.mem_cons_of_mem _ h)⟩, hK, hN, fun q h => Or.inr h, rfl⟩ rfl ?_ ⟨rfl, htab, hl, hTh, hNc⟩ s.heap [] ls hP hD hS hl0
  intro cells slots v u lv pc h1 h2 hB hi H locs ls2 hP2 hD2 hS2 hl2
  refine W.widen h1 h2 ?_
  rcases hi with ⟨rfl, rfl, hdg⟩ | ⟨x, ty, rfl, rfl, hn, hdg⟩
  · exact W.vret hx hb hr (fun t ht hW => ⟨⟨none, u, rfl, hB, by rw [ht]; exact hP2, hD2⟩, hS2.F ht⟩) hS2.2.2 hdg hlocks
  · exact W.zret hx hb hr hn (fun t ht hW => ⟨⟨some (.int x), u, rfl, hB, by rw [ht]; exact hP2, hD2⟩, hS2.F ht⟩) hS2.2.2 hdg hlocks
section GWR
variable {X : gX} {E : gE} {cc : ByteArray} {nL0 : Nat} {own : String} {cells slots pc : Nat} {ws : va_W} {lv : List (Nat × Value)} {st rest : List Value} {hh : List (Nat × Nat × Nat × Nat)}
theorem g_i2l (C : gC X E cc nL0 own) {x : Int32} (hdg : decode cc pc = .ok (.i2l, 1)) (kk : gW X E cells slots ws lv (pc + 1) (.long x.toInt64 :: st)) : gW X E cells slots ws lv pc (.int x :: st) := by
  obtain ⟨⟨⟨p, l, e, R⟩, s, m, args, below, meth, c⟩, Q, A, H0, nL⟩ := E
  obtain ⟨⟨hx, hb, hml, hown, hts⟩, hK, hN, hA, hn0⟩ := C
  intro H locs ls hP hD hS hl
  exact lv_i2l hx hb hdg rfl (kk H locs ls hP hD hS hl)
theorem g_lcmp (C : gC X E cc nL0 own) {x y : Int64} (hdg : decode cc pc = .ok (.lcmp, 1)) (kk : gW X E cells slots ws lv (pc + 1) (.int (lg_cmp x y) :: st)) : gW X E cells slots ws lv pc (.long y :: .long x :: st) := by
  obtain ⟨⟨⟨p, l, e, R⟩, s, m, args, below, meth, c⟩, Q, A, H0, nL⟩ := E
  obtain ⟨⟨hx, hb, hml, hown, hts⟩, hK, hN, hA, hn0⟩ := C
  intro H locs ls hP hD hS hl
  exact W.lcmp hx hb hdg (kk H locs ls hP hD hS hl)
theorem g_lald (C : gC X E cc nL0 own) (q0 t0 : Nat) {cA : ClassId} {n a : Nat} {f : Nat → Int64} {i : Int32} (ha : ws[q0]? = some (a, .inl (cA, n, .inr (.inl f)))) (ht : (gT X)[t0]? = some (cA, .long)) (hin : vp_in i n) (hdg : decode cc pc = .ok (.laload, 1)) (kk : gW X E cells slots ws lv (pc + 1) (.long (f i.toNatClampNeg) :: st)) : gW X E cells slots ws lv pc (.int i :: .ref a :: st) := by
  obtain ⟨⟨⟨p, l, e, R⟩, s, m, args, below, meth, c⟩, Q, A, H0, nL⟩ := E
  obtain ⟨⟨hx, hb, hml, hown, hts⟩, hK, hN, hA, hn0⟩ := C
  intro H locs ls hP hD hS hl
  exact va_lald hx hb hK hP q0 t0 ha ht hin hdg (kk H locs ls hP hD hS hl)
theorem g_last (C : gC X E cc nL0 own) (q0 t0 : Nat) {cA : ClassId} {n a : Nat} {f : Nat → Int64} {i : Int32} {x : Int64} {ws2 : va_W} (ha : ws[q0]? = some (a, .inl (cA, n, .inr (.inl f)))) (ht : (gT X)[t0]? = some (cA, .long)) (hin : vp_in i n) (e2 : ws.set q0 (a, .inl (cA, n, .inr (.inl (vp_updL f i.toNatClampNeg x)))) = ws2) (hdg : decode cc pc = .ok (.lastore, 1)) (kk : gW X E cells slots ws2 lv (pc + 1) st) : gW X E cells slots ws lv pc (.long x :: .int i :: .ref a :: st) := by
  obtain ⟨⟨⟨p, l, e, R⟩, s, m, args, below, meth, c⟩, Q, A, H0, nL⟩ := E
  obtain ⟨⟨hx, hb, hml, hown, hts⟩, hK, hN, hA, hn0⟩ := C
  intro H locs ls hP hD hS hl
  exact va_last hx hb hK hP hD hS q0 t0 ha ht hin hdg (fun H1 locs1 hP1 hD1 hS1 => kk H1 locs1 ls (e2 ▸ hP1) (e2 ▸ hD1) hS1 hl)
variable {y : MethodName} {bytes : ByteArray} {maxL n index : Nat} {ret : Option FieldType} {rm : Room} {As : List Value} {B2 : Option Value → va_W → Prop} {BX2 : String → va_W → Prop} {mc2 ms2 : Nat}
theorem g_subP {D : va_G} {cl : List vw_C} {H : Heap} {wc : va_W} (isC : List Nat) (hC : isC.map (fun i => ws[i]?) = wc.map some) (hP : va_P D cl ws H) : va_P D cl wc H := by
  intro k q hq
  have h1 : (isC.map (fun i => ws[i]?))[k]? = some (some q) := by rw [hC, List.getElem?_map, hq]; rfl
  rw [List.getElem?_map] at h1
  cases hi : isC[k]? with
  | none => rw [hi] at h1; cases h1
  | some i => rw [hi] at h1; exact hP i q (Option.some.inj h1)
/-- what catches the thrown ec at pc -/
def gCatch (E : gE) (own : String) (hh : List (Nat × Nat × Nat × Nat)) (pc : Nat) (ec : String) (hpc : Nat) : Prop :=
  ∃ (pre : List ExceptionTableEntry) (x : ExceptionTableEntry) (suf : List ExceptionTableEntry), tableOf hh = pre ++ x :: suf ∧ (∀ z ∈ pre, covers z pc = false ∨ (z.catchType ≠ 0 ∧ ∃ nm : String, Cond.classLink own z.catchType nm ∈ gTs ∧ (ec, nm) ∈ gNcs)) ∧ covers x pc = true ∧ x.catchType ≠ 0 ∧ Cond.classLink own x.catchType ec ∈ gTs ∧ Cond.castable ec ec ∈ gNl ∧ x.handlerPc = hpc
/-- a call within a try -/
theorem g_callVc (C : gC X E cc nL0 own) (hX : gHx E hh) {wc wr : va_W} (isC isR : List Nat) (hC : isC.map (fun i => ws[i]?) = wc.map some) (hRr : isR.map (fun i => ws[i]?) = wr.map some) (hnc : va_nd isC = true) (hnd : va_nd isR = true) (hdis : ∀ i ∈ isR, i ∉ isC) (q0 : Nat) {C0 : String} {T : u_T} {N ci b : Nat} {fs : List Value} (hM : ∀ l, l.stackTraces = false → gMX l X y bytes maxL ret rm mc2 ms2 (.ref b :: As) wc B2 BX2) (he : ws[q0]? = some (b, .inr (ci, fs))) (hc : vwCl[ci]? = some (C0, T, N))
    (h1 : Cond.methodLink own index y ∈ gTs) (cb : gCb y C0 bytes maxL ret n) (h6 : rm.cells = mc2 ∧ rm.slots = ms2) (hR : rm.frames + 1 ≤ (gRm E).frames ∧ 8 + (maxL + 11) + rm.locals ≤ (gRm E).locals) (hcs : cells + mc2 ≤ (gRm E).cells ∧ slots + ms2 ≤ (gRm E).slots) (hn : As.length = n) (hst : st = As.reverse ++ .ref b :: rest) (hrest : (rest.map fun v => v.category).sum ≤ 8) (hdg : decode cc pc = .ok (.invokevirtual index, 3))
    (kx : ∀ (ec : String) (u : va_W), BX2 ec u → ∃ hpc : Nat, gCatch E own hh pc ec hpc ∧ ∀ q : Nat, gW X E (cells + mc2) (slots + ms2) (wr ++ u) lv hpc [.ref q])
    (kk : ∀ (v : Option Value) (u : va_W), B2 v u → gW X E (cells + mc2) (slots + ms2) (wr ++ u) lv (pc + 3) (v.toList ++ rest)) : gW X E cells slots ws lv pc st := by
  obtain ⟨⟨⟨p, l, e, R⟩, s, m, args, below, meth, c⟩, Q, A, H0, nL⟩ := E
  obtain ⟨⟨hx, hb, hml, hown, hts⟩, hK, hN, hA, hn0⟩ := C
  obtain ⟨rfl, htab, hl, hTh, hNc⟩ := hX
  intro H locs ls hP hD hS hlv
  obtain ⟨⟨h2, h3, h4, h5⟩, hd⟩ := cb
  have hG := gGood h5 gTs_good
  have hF := va_free (wc := wc) hD hS hA isC hC
  have hPc := g_subP isC hC hP
  have hDw := hD.sub (ws' := wc) isC hnc hC
  have hTh2 : gTh (va_A wc H.size) s H := gTh_narrow (gTh_kept hTh hS.2.1) hF
  have hpre : ∀ U : State, U.heap = H → s.WarmedH U.vm → gPx X (Value.ref b :: As) wc H.size (Value.ref b :: As).toArray U := fun U hU hW => ⟨rfl, by rw [hU], by rw [hU]; exact hPc, va_K.moved hW.alike hK, hDw.weaken (fun _ _ _ _ => trivial), fun x hx => gNw_warm (gNl_ok x hx) hW (hN x hx), by rw [hU]; exact gTh_warm hW hTh2⟩
  have hr := vx_runV (e := e) (below := below) (meth := meth) (locs := locs) (cells := cells) (slots := slots) (As := As) (rest := rest) (g := F0 m pc ls st) ⟨hx, hb, hml, hown, hts⟩ (hM l hl H.size) (R := R) (C := C0) ⟨callB_of n hts hG rfl h6.1 h6.2 (hts _ h4) (hts _ h1) hd hR, hts _ h2, hts _ h3⟩ ⟨gPx_blind, va_recv hK hP hc he, hpre⟩ rfl hn hlv.1 hst (by show 2 * 0 + _ ≤ 8; omega) hdg hcs
  intro T hT Y
  rcases hr T hT Y with ⟨v, st₀, t, T', L, h0, Y', hL, e1, e2, ⟨⟨v2, u, hv, hB, hP1, hD1⟩, hFr⟩, stp⟩ | ⟨q, st₀, t, T', L, ec, ce, h0, Y', hL, e1, e2, ⟨⟨u, hB, hP1, hD1⟩, hFr⟩, hce, hcv, hcl, stp⟩
  · cases hv
    obtain ⟨k1, k2, k3⟩ := vx_keep (A0 := A) (A1 := va_A wc H.size) h0 e1 hS (fun q _ h => hF q h) hF hL hFr
    obtain ⟨hPj, hDj⟩ := va_join (wr := wr) (w1 := u) (H1 := T'.heap) hP hD isC isR hC hRr hnd hdis k2 hF (by rw [e1]; exact hP1) hD1
    obtain ⟨t2, a1, b1⟩ := kk v u hB T'.heap (locs ++ L) ls hPj hDj k3 hlv T' rfl Y'
    exact ⟨t2, stp t2 a1, b1⟩
  · obtain ⟨k1, k2, k3⟩ := vx_keep (A0 := A) (A1 := va_A wc H.size) h0 e1 hS (fun q _ h => hF q h) hF hL hFr
    obtain ⟨hPj, hDj⟩ := va_join (wr := wr) (w1 := u) (H1 := T'.heap) hP hD isC isR hC hRr hnd hdis k2 hF (by rw [e1]; exact hP1) hD1
    obtain ⟨hpc, ⟨pre, x, suf, hsp, hps, hcov, hct, hcl9, hcast, hhp⟩, kx2⟩ := kx ec u hB
    subst hhp
    have ho : vx_W p l e R s m args below meth c T'.heap (locs ++ L) (cells + mc2) (slots + ms2) Q (F0 m pc ls rest) q := by
      refine vx_catch (own := own) (name := ec) hown pre x suf (htab.trans hsp) (fun z hz => ?_) hcov hct (hts _ hcl9) (va_Nw.use (gNw_tab (gNl_ok _ hcast)) (hN _ hcast)) (by rw [e1]; exact hce) hcv hcl (kx2 q T'.heap (locs ++ L) ls hPj hDj k3 hlv)
      rcases hps z hz with h | ⟨g1, nm, g2, g3⟩
      · exact Or.inl h
      · exact Or.inr ⟨g1, nm, hts _ g2, hNc _ g3⟩
    obtain ⟨t2, a1, b1⟩ := ho T' rfl Y'
    exact ⟨t2, stp.trans a1, b1⟩
end GWR
