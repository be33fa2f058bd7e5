/-! Rows for the law's own walk. -/
def wA (ad am : Nat → Nat) (X : gX) (s : gS) (f : Nat → Int64) (t : gS) : va_W := wL ad X s f ++ wM am X t
/-- the script, and what the law's calls stand on -/
def gSc (E : gE) (b L : Nat) (xs : Nat → Int32) : Prop := match E with
  | (((_, l, _, _), (s, _, _, _, _, _)), (_, A, H0, _)) => va_X b L xs s H0 ∧ b < H0.size ∧ ¬ A b ∧ H0 = s.heap ∧ l.stackTraces = false ∧ gTh A s s.heap ∧ ∀ q ∈ gNcs, va_Nc q.1 q.2 s
section GLW
variable {X : gX} {E : gE} {cc : ByteArray} {nL0 : Nat} {own : String} {cells slots pc : Nat} {ws : va_W} {lv : List (Nat × Value)} {st rest : List Value} {b L : Nat} {xs : Nat → Int32}
theorem g_sld (C : gC X E cc nL0 own) (hs : gSc E b L xs) {i : Int32} (hin : vp_in i L) (hdg : decode cc pc = .ok (.iaload, 1)) (kk : gW X E cells slots ws lv (pc + 1) (.int (xs i.toNatClampNeg) :: st)) : gW X E cells slots ws lv pc (.int i :: .ref b :: st) := by
  obtain ⟨⟨⟨p, l, e, R⟩, s, m, args, below, meth, c⟩, Q, A, H0, nL⟩ := E
  obtain ⟨⟨hx, hb, hml, hown, hts⟩, hK, hN, hA, hn0⟩ := C
  obtain ⟨h1, h2, h3, -⟩ := hs
  intro H locs ls hP hD hS hl
  exact va_sld hx hb h1 h2 h3 hS hin hdg (kk H locs ls hP hD hS hl)
theorem g_slen (C : gC X E cc nL0 own) (hs : gSc E b L xs) (hdg : decode cc pc = .ok (.arraylength, 1)) (kk : gW X E cells slots ws lv (pc + 1) (.int (Int32.ofNat L) :: st)) : gW X E cells slots ws lv pc (.ref b :: st) := by
  obtain ⟨⟨⟨p, l, e, R⟩, s, m, args, below, meth, c⟩, Q, A, H0, nL⟩ := E
  obtain ⟨⟨hx, hb, hml, hown, hts⟩, hK, hN, hA, hn0⟩ := C
  obtain ⟨h1, h2, h3, -⟩ := hs
  intro H locs ls hP hD hS hl
  exact va_slen hx hb h1 h2 h3 hS hdg (kk H locs ls hP hD hS hl)
theorem g_widen {k n : Nat} (h1 : cells ≤ k) (h2 : slots ≤ n) (kk : gW X E k n ws lv pc st) : gW X E cells slots ws lv pc st := by
  obtain ⟨⟨⟨p, l, e, R⟩, s, m, args, below, meth, c⟩, Q, A, H0, nL⟩ := E
  intro H locs ls hP hD hS hl
  exact W.widen h1 h2 (kk H locs ls hP hD hS hl)
variable {y : MethodName} {bytes : ByteArray} {maxL n index : Nat} {ret : Option FieldType} {rm : Room} {As : List Value} {B : Option Value → va_W → Prop} {mc ms : Nat} {hh : List (Nat × Nat × Nat × Nat)}
/-- invokevirtual of a method that makes nothing, on a part of the world -/
theorem g_callVp (C : gC X E cc nL0 own) {wc wr : va_W} (isC isR : List Nat) (hC : isC.map (fun i => ws[i]?) = wc.map some) (hRr : isR.map (fun i => ws[i]?) = wr.map some) (hnc : va_nd isC = true) (hnd : va_nd isR = true) (hdis : ∀ i ∈ isR, i ∉ isC) (q0 : Nat) {C0 : String} {T : u_T} {N ci b : Nat} {fs : List Value} (hM : ∀ l, gM l X y bytes maxL ret rm (.ref b :: As) wc B) (he : ws[q0]? = some (b, .inr (ci, fs))) (hc : vwCl[ci]? = some (C0, T, N))
    (h1 : Cond.methodLink own index y ∈ gTs) (cb : gCb y C0 bytes maxL ret n) (h6 : rm.cells = 0 ∧ rm.slots = 0) (hR : rm.frames + 1 ≤ (gRm E).frames ∧ 8 + (maxL + 11) + rm.locals ≤ (gRm E).locals) (hcs : cells ≤ (gRm E).cells ∧ slots ≤ (gRm E).slots) (hn : As.length = n) (hst : st = As.reverse ++ .ref b :: rest) (hrest : (rest.map fun v => v.category).sum ≤ 8) (hdg : decode cc pc = .ok (.invokevirtual index, 3))
    (kk : ∀ (v : Option Value) (u : va_W), B v u → gW X E cells slots (wr ++ u) lv (pc + 3) (v.toList ++ rest)) : gW X E cells slots ws lv pc st := by
  obtain ⟨⟨⟨p, l, e, R⟩, s, m, args, below, meth, c⟩, Q, A, H0, nL⟩ := E
  obtain ⟨⟨hx, hb, hml, hown, hts⟩, hK, hN, hA, hn0⟩ := C
  intro H locs ls hP hD hS hl
  obtain ⟨⟨h2, h3, h4, h5⟩, hd⟩ := cb
  have hG := gGood h5 gTs_good
  have hPc := g_subP isC hC hP
  have hDw := hD.sub (ws' := wc) isC hnc hC
  have hr := va_runV (e := e) (below := below) (meth := meth) (locs := locs) (cells := cells) (slots := slots) (As := As) (rest := rest) (g := F0 m pc ls st) ⟨hx, hb, hml, hown, hts⟩ (hM l H.size) (R := R) (C := C0) ⟨callB_of n hts hG rfl h6.1 h6.2 (hts _ h4) (hts _ h1) hd hR, hts _ h2, hts _ h3⟩ ⟨gPc_blind, va_recv hK hP hc he, gPc_at hPc hK hDw hN⟩ rfl hn hl.1 hst (by show 2 * 0 + _ ≤ 8; omega) hdg hcs
  exact gx_part (mc := 0) (ms := 0) isC isR hC hRr hnd hdis hr hP hD hS hA (fun v u H1 locs1 hB hP1 hD1 hS1 => kk v u hB H1 locs1 ls hP1 hD1 hS1 hl)
/-- invokestatic of a wrapper, on a part of the world -/
theorem g_callSw (C : gC X E cc nL0 own) (hs : gSc E b L xs) {wc wr : va_W} (isC isR : List Nat) (hC : isC.map (fun i => ws[i]?) = wc.map some) (hRr : isR.map (fun i => ws[i]?) = wr.map some) (hnc : va_nd isC = true) (hnd : va_nd isR = true) (hdis : ∀ i ∈ isR, i ∉ isC) (hM : ∀ l, l.stackTraces = false → gMw l X y bytes maxL ret hh rm mc ms As wc B)
    (h1 : Cond.methodLink own index y ∈ gTs) (h2 : Cond.static y ∈ gTs) (h4 : Cond.initialized y.cls ∈ gTs) (h5 : Cond.codeWith y bytes maxL ret hh ∈ gTs) (hd : y.cls ≠ "java/lang/invoke/MethodHandle" ∧ y.cls ≠ "java/lang/invoke/VarHandle" ∧ (parseMethodDescriptor y.desc).map (fun d => d.parameters.length) = some n) (h6 : rm.cells = mc ∧ rm.slots = ms) (hR : rm.frames + 1 ≤ (gRm E).frames ∧ 8 + (maxL + 11) + rm.locals ≤ (gRm E).locals) (hcs : cells + mc ≤ (gRm E).cells ∧ slots + ms ≤ (gRm E).slots) (hn : As.length = n) (hst : st = As.reverse ++ rest) (hrest : (rest.map fun v => v.category).sum ≤ 8) (hdg : decode cc pc = .ok (.invokestatic index, 3))
    (kk : ∀ (v : Option Value) (u : va_W), B v u → gW X E (cells + mc) (slots + ms) (wr ++ u) lv (pc + 3) (v.toList ++ rest)) : gW X E cells slots ws lv pc st := by
  obtain ⟨⟨⟨p, l, e, R⟩, s, m, args, below, meth, c⟩, Q, A, H0, nL⟩ := E
  obtain ⟨⟨hx, hb, hml, hown, hts⟩, hK, hN, hA, hn0⟩ := C
  obtain ⟨-, -, -, rfl, hl, hTh, hNc⟩ := hs
  intro H locs ls hP hD hS hlv
  have hG : GoodIn gTs (Cond.codeWith y bytes maxL ret hh :: gTs) := by
    intro w hw
    rcases List.mem_cons.mp hw with rfl | hw
    · exact ⟨h5, gTs_good _ h5⟩
    · exact ⟨hw, gTs_good w hw⟩
  have hF := va_free (wc := wc) hD hS hA isC hC
  have hPc := g_subP isC hC hP
  have hDw := hD.sub (ws' := wc) isC hnc hC
  have hTh2 : gTh (va_A wc H.size) s H := gTh_narrow (gTh_kept hTh hS.2.1) hF
  have hlen : ∀ sig, parseMethodDescriptor y.desc = some sig → n = sig.parameters.length := by
    intro sig h
    have h2 := hd.2.2
    rw [h] at h2
    exact (Option.some.inj h2).symm
  have hpre : ∀ U : State, U.heap = H → s.WarmedH U.vm → gPw X As wc H.size As.toArray U := fun U hU hW => ⟨rfl, by rw [hU], by rw [hU]; exact hPc, va_K.moved hW.alike hK, hDw.weaken (fun _ _ _ _ => trivial), fun x hx => gNw_warm (gNl_ok x hx) hW (hN x hx), by rw [hU]; exact gTh_warm hW hTh2, fun q hq => va_Nc.moved hW.alike (hNc q hq)⟩
  have hr := vx_runSW (e := e) (below := below) (meth := meth) (locs := locs) (cells := cells) (slots := slots) (As := As) (rest := rest) (g := F0 m pc ls st) ⟨hx, hb, hml, hown, hts⟩ (hM l hl H.size) (R := R) (hh := hh) ⟨⟨h6.1, h6.2, hR.1, hR.2, pay_in hts hG, List.mem_cons_self⟩, hts _ h5, hts _ h4, ⟨hd.1, hd.2.1⟩, hlen, hts _ h1, hts _ h2⟩ ⟨gPw_blind, hpre⟩ rfl hn hlv.1 hst (by show 2 * 0 + _ ≤ 8; omega) hdg hcs
  exact gx_part isC isR hC hRr hnd hdis hr hP hD hS hA (fun v u H1 locs1 hB hP1 hD1 hS1 => kk v u hB H1 locs1 ls hP1 hD1 hS1 hlv)
end GLW
