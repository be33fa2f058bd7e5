/-! Methods that may throw: the pack that a throw stands on, contracts, throws, calls. -/
def gTh (A : Nat → Prop) (U : State) (H : Heap) : Prop := vx_Zq Bundle.tN "UNASSIGNED_STACK" Bundle.steD A U H ∧ vx_Zq Bundle.tN "SUPPRESSED_SENTINEL" Bundle.listD A U H ∧ ∀ q ∈ gStr, ∃ sa : Nat, vk_R R_SQ q.1 q.2 sa U
theorem gTh_same {A : Nat → Prop} {u U : State} {H : Heap} (e : U.vm = u.vm) (h : gTh A u H) : gTh A U H :=
  ⟨vx_Zq.moved (by rw [e]; exact Vm.Alike.refl _) h.1, vx_Zq.moved (by rw [e]; exact Vm.Alike.refl _) h.2.1, fun q hq => (h.2.2 q hq).imp fun _ k => vk_R.same e k⟩
theorem gTh_warm {A : Nat → Prop} {s U : State} {H : Heap} (hW : s.WarmedH U.vm) (h : gTh A s H) : gTh A U H :=
  ⟨vx_Zq.moved hW.alike h.1, vx_Zq.moved hW.alike h.2.1, fun q hq => (h.2.2 q hq).imp fun _ k => vk_R.warm hW k⟩
theorem gTh_kept {A : Nat → Prop} {U : State} {H H1 : Heap} (h : gTh A U H) (hq : ∀ a : Nat, a < H.size → ¬ A a → H1[a]? = H[a]?) : gTh A U H1 := ⟨h.1.kept hq, h.2.1.kept hq, h.2.2⟩
theorem gTh_narrow {A B : Nat → Prop} {U : State} {H : Heap} (h : gTh A U H) (hAB : ∀ q, B q → A q) : gTh B U H := ⟨h.1.narrow hAB, h.2.1.narrow hAB, h.2.2⟩
def gPx (X : gX) (av : List Value) (w : va_W) (sz : Nat) : Array Value → State → Prop := va_Pc av (fun U => U.heap.size = sz ∧ va_P X.1 vwCl w U.heap ∧ va_K X.1 vwCl (gT X) U ∧ va_D (fun _ => True) w ∧ (∀ x ∈ gNl, va_Nw x U) ∧ gTh (va_A w sz) U U.heap)
def gXC (X : gX) (w : va_W) (BX : String → va_W → Prop) (sz : Nat) : String → State → State → Prop := fun ec st t => (∃ u : va_W, BX ec u ∧ va_P X.1 vwCl u t.heap ∧ va_D (va_A w sz) u) ∧ va_F (va_A w sz) st t
/-- the contract of a method that returns or throws -/
def gMX (l : Launch) (X : gX) (y : MethodName) (cc : ByteArray) (nL : Nat) (ret : Option FieldType) (rm : Room) (mc ms : Nat) (av : List Value) (w : va_W) (B : Option Value → va_W → Prop) (BX : String → va_W → Prop) : Prop := ∀ sz : Nat, vx_Met l y (.code y cc nL ret :: gTs) rm (gPx X av w sz) (gQc X w B sz) (gXC X w BX sz) mc ms (va_A w sz)
/-- a walk of such a body: what it owes at its ends, and what its throws stand on -/
def gQx (X : gX) (E : gE) (w : va_W) (B : Option Value → va_W → Prop) (BX : String → va_W → Prop) (mc ms sz : Nat) : Prop := match E with
  | (((_, l, _, R), (s, _, args, below, meth, c)), (Q, A, H0, _)) => Q = vx_MQ below (gQc X w B sz) (gXC X w BX sz) args s mc ms (va_A w sz) ∧ A = va_A w sz ∧ H0 = s.heap ∧ s.heap.size = sz ∧ (∀ x ∈ c.exceptionTable.toList, False) ∧ meth.locks = false ∧ l.stackTraces = false ∧ gTh A s s.heap ∧ mc ≤ R.cells ∧ ms ≤ R.slots
def gRx (X : gX) (E : gE) (cc : ByteArray) (ret : Option FieldType) (B : Option Value → va_W → Prop) (mc ms : Nat) : Prop := ∀ (cells slots : Nat) (v : Option Value) (u : va_W) (lv : List (Nat × Value)) (pc : Nat), cells ≤ mc → slots ≤ ms → B v u → ((v = none ∧ ret = none ∧ decode cc pc = .ok (.return_, 1)) ∨ ∃ (x : Int32) (ty : FieldType), v = some (.int x) ∧ ret = some ty ∧ narrow ty (.int x) = .int x ∧ decode cc pc = .ok (.ireturn, 1)) → gW X E cells slots u lv pc v.toList
theorem g_vretx {X : gX} {E : gE} {cc : ByteArray} {B : Option Value → va_W → Prop} {mc ms cells slots : Nat} {ws : va_W} {lv : List (Nat × Value)} {pc : Nat} (r : gRx X E cc none B mc ms) (h1 : cells ≤ mc) (h2 : slots ≤ ms) (hdg : decode cc pc = .ok (.return_, 1)) (h : B none ws) : gW X E cells slots ws lv pc [] := r cells slots none ws lv pc h1 h2 h (Or.inl ⟨rfl, rfl, hdg⟩)
theorem g_iretx {X : gX} {E : gE} {cc : ByteArray} {ty : FieldType} {B : Option Value → va_W → Prop} {mc ms cells slots : Nat} {ws : va_W} {lv : List (Nat × Value)} {pc : Nat} {x : Int32} (r : gRx X E cc (some ty) B mc ms) (h1 : cells ≤ mc) (h2 : slots ≤ ms) (hn : narrow ty (.int x) = .int x) (hdg : decode cc pc = .ok (.ireturn, 1)) (h : B (some (.int x)) ws) : gW X E cells slots ws lv pc [.int x] := r cells slots (some (.int x)) ws lv pc h1 h2 h (Or.inr ⟨x, ty, rfl, rfl, hn, hdg⟩)
theorem gMX_of {l : Launch} {X : gX} {y : MethodName} {cc : ByteArray} {nL : Nat} {ret : Option FieldType} {rm : Room} {mc ms : Nat} {av : List Value} {w : va_W} {B : Option Value → va_W → Prop} {BX : String → va_W → Prop} {own : String} {lv0 : List (Nat × Value)} (hl : l.stackTraces = false) (hy : plainName y.cls = true) (ho : y.cls = own) (hav : (lg_sl av).length ≤ nL) (hlv : lv_args 0 av = lv0) (hmc : mc ≤ rm.cells ∧ ms ≤ rm.slots)
    (body : ∀ (E : gE) (sz : Nat), gC X E cc nL own → gRm E = rm → gRx X E cc ret B mc ms → gQx X E w B BX mc ms sz → gW X E 0 0 w lv0 0 []) : gMX l X y cc nL ret rm mc ms av w B BX := by
  intro sz
  refine vx_ofW (cc := cc) (maxL := nL) (ret := ret) hy rfl ?_
  intro p e s m args below meth c s₁ Bd hml hnh hv
  obtain ⟨rfl, hsz, hP, hK, hD0, hN, hTh⟩ := hv
  have hx := Bd.exec
  have hb := Bd.bytes
  have hr := Bd.returns
  have hlocks := Bd.notSynchronized
  have hts := atoms_spec (ws := Cond.code y cc nL ret :: gTs) Bd.pre
  have hown : s.vm.findClass own = some m.cls := by rw [← ho]; exact findClass_of_methodNamed Bd.named
  subst hsz
  have hD := hD0.self (sz := s.heap.size)
  have hS : va_S (va_A w s.heap.size) s.heap s.heap [] := va_S.rf
  have hl0 := lv_entry av (n := nL) hav
  rw [lg_entry_eq]
  generalize (lg_sl av ++ List.replicate (nL - (lg_sl av).length) Slot.unset).toArray = ls at hl0 ⊢
  rw [hlv] at hl0
  refine body (((p, l, e, (headSpec (Cond.code y cc nL ret :: gTs) rm).room), (s, m, av.toArray, below, meth, c)), (vx_MQ below (gQc X w B s.heap.size) (gXC X w BX s.heap.size) av.toArray s mc ms (va_A w s.heap.size), va_A w s.heap.size, s.heap, nL)) s.heap.size ⟨⟨hx, hb, hml, hown, fun w h => hts w (List.mem_cons_of_mem _ h)⟩, hK, hN, fun q h => Or.inr h, rfl⟩ rfl ?_ ⟨rfl, rfl, rfl, rfl, hnh, hlocks, hl, hTh, hmc.1, hmc.2⟩ s.heap [] ls hP hD hS hl0
  intro cells slots v u lv pc h1 h2 hB hi H locs ls2 hP2 hD2 hS2 hl2
  refine vx_ret (W.widen h1 h2 ?_)
  rcases hi with ⟨rfl, rfl, hdg⟩ | ⟨x, ty, rfl, rfl, hn, hdg⟩
  · exact W.vret hx hb hr (fun t ht hW => ⟨⟨none, u, rfl, hB, by rw [ht]; exact hP2, hD2⟩, hS2.F ht⟩) hS2.2.2 hdg hlocks
  · exact W.zret hx hb hr hn (fun t ht hW => ⟨⟨some (.int x), u, rfl, hB, by rw [ht]; exact hP2, hD2⟩, hS2.F ht⟩) hS2.2.2 hdg hlocks
theorem gPx_blind {X : gX} {av : List Value} {w : va_W} {sz : Nat} : FrameBlind (gPx X av w sz) := by
  intro a U g mk q
  obtain ⟨q0, q1, qP, qK, qD, qN, qT⟩ := q
  exact ⟨q0, q1, qP, va_K.moved (u := U) (U := U.calling g mk a) (Vm.Alike.refl U.vm) qK, qD, fun x hx => gNw_same (s := U) (U := U.calling g mk a) (gNl_ok x hx) rfl (qN x hx), gTh_same (u := U) (U := U.calling g mk a) rfl qT⟩
section GTHROW
variable {X : gX} {E : gE} {cc : ByteArray} {nL0 : Nat} {own : String} {cells slots pc : Nat} {ws w : va_W} {lv : List (Nat × Value)} {st : List Value} {B : Option Value → va_W → Prop} {BX : String → va_W → Prop} {mc ms sz : Nat}
/-- throw new E("text") -/
theorem g_throw (C : gC X E cc nL0 R_SQ) (hX : gQx X E w B BX mc ms sz) {cls text : String} {ik is ic : Nat} (names : List String) (hcls : Bundle.fit cls = true) (hnames : ∀ n ∈ names, Bundle.fit n = true) (hk : Cond.classLink R_SQ ik cls ∈ gTs) (hini : Cond.initialized cls ∈ gTs) (hq : (is, text) ∈ gStr) (hat : ∀ w ∈ vx_atS R_SQ ic cls names, w ∈ gNl) (hgood : ∀ w ∈ Cond.classLink R_SQ ik cls :: Cond.initialized cls :: vx_atS R_SQ ic cls names, vx_ot w = true)
    (d0 : decode cc pc = .ok (.new ik, 3)) (d3 : decode cc (pc + 3) = .ok (.dup, 1)) (d4 : decode cc (pc + 4) = .ok (.ldc is, 2)) (d6 : decode cc (pc + 6) = .ok (.invokespecial ic, 3)) (d9 : decode cc (pc + 9) = .ok (.athrow, 1))
    (hR : names.length + 3 < (gRm E).frames ∧ (st.map fun v => v.category).sum + (13 * (names.length + 1) + 43) ≤ (gRm E).locals) (hc : cells + 1 ≤ mc ∧ slots + 6 ≤ ms) (h : BX cls ws) : gW X E cells slots ws lv pc st := by
  obtain ⟨⟨⟨p, l, e, R⟩, s, m, args, below, meth, c⟩, Q, A, H0, nL⟩ := E
  obtain ⟨⟨hx, hb, hml, hown, hts⟩, hK, hN, hA, hn0⟩ := C
  obtain ⟨rfl, rfl, rfl, hsz, hnh, hlocks, hl, hTh, hRc, hRs⟩ := hX
  intro H locs ls hP hD hS hlv
  obtain ⟨sa, hstr⟩ := hTh.2.2 _ hq
  refine vx_throwS (A := va_A w sz) (sa := sa) (text := text) hx hb hl hown hcls hnames (hts _ hk) (hts _ hini) hstr (fun z hz => va_Nw.use (gNw_tab (gNl_ok z (hat z hz))) (hN z (hat z hz))) hgood hTh.1 hTh.2.1 hS (hlv.1.trans hml.symm) d0 d3 d4 d6 d9 (fun z hz => (hnh z hz).elim) hR.1 hR.2 (Nat.le_trans hc.1 hRc) (Nat.le_trans hc.2 hRs) hlocks ?_ hS.2.2 hc.1 hc.2
  intro t hal hz hk2
  refine ⟨⟨ws, h, hP.kept (fun k q hq => hk2 q.1 (hP k q hq).lt), hD⟩, Nat.le_trans hS.1 hz, fun q h1 h2 => ?_⟩
  rw [hk2 q (Nat.lt_of_lt_of_le h1 hS.1)]
  exact hS.2.1 q h1 h2
variable {y : MethodName} {bytes : ByteArray} {maxL n index : Nat} {ret : Option FieldType} {rm : Room} {As rest : List Value} {B2 : Option Value → va_W → Prop} {BX2 : String → va_W → Prop} {mc2 ms2 : Nat}
/-- invokevirtual of a method that may throw; what is thrown goes on to the caller -/
theorem g_callVx (C : gC X E cc nL0 own) (hX : gQx X E w B BX mc ms sz) (q0 : Nat) {C0 : String} {T : u_T} {N ci b : Nat} {fs : List Value} (hM : ∀ l, l.stackTraces = false → gMX l X y bytes maxL ret rm mc2 ms2 (.ref b :: As) ws B2 BX2) (he : ws[q0]? = some (b, .inr (ci, fs))) (hc : vwCl[ci]? = some (C0, T, N))
    (h1 : Cond.methodLink own index y ∈ gTs) (cb : gCb y C0 bytes maxL ret n) (h6 : rm.cells = mc2 ∧ rm.slots = ms2) (hR : rm.frames + 1 ≤ (gRm E).frames ∧ 8 + (maxL + 11) + rm.locals ≤ (gRm E).locals) (hcs : cells + mc2 ≤ mc ∧ slots + ms2 ≤ ms) (hn : As.length = n) (hst : st = As.reverse ++ .ref b :: rest) (hrest : (rest.map fun v => v.category).sum ≤ 8) (hdg : decode cc pc = .ok (.invokevirtual index, 3))
    (kx : ∀ (ec : String) (u : va_W), BX2 ec u → BX ec u)
    (kk : ∀ (v : Option Value) (u : va_W), B2 v u → gW X E (cells + mc2) (slots + ms2) u lv (pc + 3) (v.toList ++ rest)) : gW X E cells slots ws lv pc st := by
  obtain ⟨⟨⟨p, l, e, R⟩, s, m, args, below, meth, c⟩, Q, A, H0, nL⟩ := E
  obtain ⟨⟨hx, hb, hml, hown, hts⟩, hK, hN, hA, hn0⟩ := C
  obtain ⟨rfl, rfl, rfl, hsz, hnh, hlocks, hl, hTh, hRc, hRs⟩ := hX
  intro H locs ls hP hD hS hlv
  obtain ⟨⟨h2, h3, h4, h5⟩, hd⟩ := cb
  have hG := gGood h5 gTs_good
  have hF : ∀ q, va_A ws H.size q → va_A w sz q := by
    intro q h
    rcases h with ⟨k, e, h⟩ | h
    · exact hD.2 k (q, e) h
    · exact hA q (Nat.le_trans hS.1 h)
  have hTh2 : gTh (va_A ws H.size) s H := gTh_narrow (gTh_kept hTh hS.2.1) hF
  have hpre : ∀ U : State, U.heap = H → s.WarmedH U.vm → gPx X (Value.ref b :: As) ws H.size (Value.ref b :: As).toArray U := fun U hU hW => ⟨rfl, by rw [hU], by rw [hU]; exact hP, va_K.moved hW.alike hK, hD.weaken (fun _ _ _ _ => trivial), fun x hx => gNw_warm (gNl_ok x hx) hW (hN x hx), by rw [hU]; exact gTh_warm hW hTh2⟩
  have hr := vx_runV (e := e) (below := below) (meth := meth) (locs := locs) (cells := cells) (slots := slots) (As := As) (rest := rest) (g := F0 m pc ls st) ⟨hx, hb, hml, hown, hts⟩ (hM l hl H.size) (R := R) (C := C0) ⟨callB_of n hts hG rfl h6.1 h6.2 (hts _ h4) (hts _ h1) hd hR, hts _ h2, hts _ h3⟩ ⟨gPx_blind, va_recv hK hP hc he, hpre⟩ rfl hn hlv.1 hst (by show 2 * 0 + _ ≤ 8; omega) hdg ⟨Nat.le_trans hcs.1 hRc, Nat.le_trans hcs.2 hRs⟩
  intro T hT Y
  rcases hr T hT Y with ⟨v, st₀, t, T', L, h0, Y', hL, e1, e2, ⟨⟨v2, u, hv, hB, hP1, hD1⟩, hFr⟩, stp⟩ | ⟨q, st₀, t, T', L, ec, ce, h0, Y', hL, e1, e2, ⟨⟨u, hB, hP1, hD1⟩, hFr⟩, hce, hcv, hcl, stp⟩
  · cases hv
    obtain ⟨k1, k2, k3⟩ := vx_keep (A0 := va_A w sz) (A1 := va_A ws H.size) h0 e1 hS (fun q _ h => hF q h) hF hL hFr
    obtain ⟨t2, a1, b1⟩ := kk v u hB T'.heap (locs ++ L) ls (by rw [e1]; exact hP1) (hD1.weaken (fun k q _ h => hF q.1 h)) k3 hlv T' rfl Y'
    exact ⟨t2, stp t2 a1, b1⟩
  · obtain ⟨k1, k2, k3⟩ := vx_keep (A0 := va_A w sz) (A1 := va_A ws H.size) h0 e1 hS (fun q _ h => hF q h) hF hL hFr
    have ho : vx_W p l e R s m args below meth c T'.heap (locs ++ L) (cells + mc2) (slots + ms2) (vx_MQ below (gQc X w B sz) (gXC X w BX sz) args s mc ms (va_A w sz)) (F0 m pc ls rest) q := by
      refine vx_out (fun z hz => (hnh z hz).elim) hlocks (by rw [e1]; exact hce) hcv hcl (fun t9 ht9 _ => ⟨⟨u, kx ec u hB, by rw [ht9, e1]; exact hP1, hD1.weaken (fun k q _ h => hF q.1 h)⟩, ?_⟩) k3.2.2 hcs.1 hcs.2
      exact k3.F ht9
    obtain ⟨t2, a1, b1⟩ := ho T' rfl Y'
    exact ⟨t2, stp.trans a1, b1⟩
end GTHROW
/-- the thrown, by number -/
def gEx : Nat → String
  | 0 => "java/lang/IllegalStateException"
  | 1 => "java/lang/IllegalArgumentException"
  | _ => "java/lang/IndexOutOfBoundsException"
def gBx (W : gS → va_W) (XQ : Nat → gS → Prop) : String → va_W → Prop := fun ec u => ∃ (k : Nat) (s : gS), ec = gEx k ∧ u = W s ∧ XQ k s
theorem gBx_mk {W : gS → va_W} {XQ : Nat → gS → Prop} (k : Nat) {s : gS} (h : XQ k s) : gBx W XQ (gEx k) (W s) := ⟨k, s, rfl, rfl, h⟩
