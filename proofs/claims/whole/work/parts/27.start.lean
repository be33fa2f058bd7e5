/-! THE CLAIM OUT OF ONE WALK OF THE LAW'S BODY. Your part is whole_start (and what it stands on); all else here is the same for every law, but numbers. -/
def R_law : String := "SpillQueueLaw"
def lw_P (b : Addr) (xs : List Int32) (args : Array Value) (s : State) : Prop := args = #[.ref b] ∧ s.IntsAt b xs ∧ xs.length ≤ 2560 ∧ (Jvm.Cond.and given_1 narrow_1).before args s = true
def lw_Q (_ : Array Value) (s : State) (o : Outcome) (t : State) : Prop := o = .returned (some (.int 1)) ∧ Framed s o t [] 1074 26192
def lw_Z (below : List Frame) (a : Array Value) (s : State) : State → Prop := fun t => ∃ o, t.status = .running ∧ Ended t below o ∧ lw_Q a s o t
/-- the law's own end, with 1 on the stack, nothing written that was there before, its room as the claim has it -/
theorem lw_ret {p : Program} {l : Launch} {e : Env} {s : State} {m : MethodId} {below : List Frame} {meth : Method} {c : Code} {b : Nat} (hx : p.tables.exec = Jvm.exec) (hb : c.code = code) (hr : meth.sig.returnType = ret) (hlocks : meth.locks = false) {pc : Nat} {H : Heap} {ls : Array Slot} (hdg : decode code pc = .ok (.ireturn, 1)) : W p l e room_1 s m #[Value.ref b] below meth c H [] 1074 26192 (lw_Z below #[Value.ref b] s) (F0 m pc ls [.int 1]) := by
  intro T hT X
  obtain ⟨fs, hret, hrun, hended, hW, hframe⟩ := X.leave (v := some (.int 1)) (hlocks := hlocks) (fun h => by rw [hr] at h; cases h)
  have hmeth' : T.vm.method? m = some meth := X.method'
  refine ⟨T.setFrames fs, ?_, .returned (some (.int 1)), hrun, hended, rfl, ⟨_, rfl⟩, hW, hframe⟩
  jvm_step X.here [X.here.top, hx, hb, hdg, hmeth', hr, ret, narrow_b1]
  (try refine ⟨rfl, ?_⟩); (try refine ⟨rfl, ?_⟩)
  first | (intro acts; rw [hret _ acts rfl rfl rfl]) | rw [hret _ _ rfl rfl rfl]
  exact Steps.refl _
/-- what holds at the law's entry: the machine, the code, the tables' words (any of lw_tbl by 'hts w (by decide +kernel)'), the script of L ints xs at the cell b, what the Statement gives of the start (any of its parts by flat_of_before) -/
def lw_At (p : Program) (s : State) (m : MethodId) (meth : Method) (c : Code) (b L : Nat) (xs : Nat → Int32) : Prop :=
  p.tables.exec = Jvm.exec ∧ c.code = code ∧ meth.sig.returnType = ret ∧ c.maxLocals = 7 ∧ s.vm.findClass R_law = some m.cls ∧ (∀ w ∈ lw_tbl, w.before #[Value.ref b] s = true) ∧ va_X b L xs s s.heap ∧ b < s.heap.size ∧ meth.locks = false ∧ (Jvm.Cond.and given_1 narrow_1).before #[Value.ref b] s = true
/-- what is owed of the pure part: a relation that every call keeps, with equal answers -/
def LawRel (Rel : gS → gS → Prop) : Prop := Rel (fun _ => 0, fun _ _ => 0) (fun _ => 0, fun _ _ => 0) ∧ (∀ (a1 a2 a3 a4 : Int32) (s : gS) (f : Nat → Int64) (t : gS), Rel s t → lawStep_format a1 a2 a3 a4 s f t (fun s1 _ t1 => Rel s1 t1)) ∧ (∀ (a1 a2 a3 a4 : Int32) (s : gS) (f : Nat → Int64) (t : gS), Rel s t → lawStep_insert a1 a2 a3 a4 s f t (fun s1 _ t1 => Rel s1 t1)) ∧ (∀ (a1 a2 a3 a4 : Int32) (s : gS) (f : Nat → Int64) (t : gS), Rel s t → lawStep_min a1 a2 a3 a4 s f t (fun s1 _ t1 => Rel s1 t1)) ∧ (∀ (a1 a2 a3 a4 : Int32) (s : gS) (f : Nat → Int64) (t : gS), Rel s t → lawStep_take a1 a2 a3 a4 s f t (fun s1 _ t1 => Rel s1 t1)) ∧ (∀ (a1 a2 a3 a4 : Int32) (s : gS) (f : Nat → Int64) (t : gS), Rel s t → lawStep_sync a1 a2 a3 a4 s f t (fun s1 _ t1 => Rel s1 t1)) ∧ (∀ (a1 a2 a3 a4 : Int32) (s : gS) (f : Nat → Int64) (t : gS), Rel s t → lawStep_cutAt a1 a2 a3 a4 s f t (fun s1 _ t1 => Rel s1 t1)) ∧ (∀ (a1 a2 a3 a4 : Int32) (s : gS) (f : Nat → Int64) (t : gS), Rel s t → lawStep_cut a1 a2 a3 a4 s f t (fun s1 _ t1 => Rel s1 t1)) ∧ (∀ (a1 a2 a3 a4 : Int32) (s : gS) (f : Nat → Int64) (t : gS), Rel s t → lawStep_recover a1 a2 a3 a4 s f t (fun s1 _ t1 => Rel s1 t1)) ∧ (∀ (a1 a2 a3 a4 : Int32) (s : gS) (f : Nat → Int64) (t : gS), Rel s t → lawStep_size a1 a2 a3 a4 s f t (fun s1 _ t1 => Rel s1 t1)) ∧ (∀ (a1 a2 a3 a4 : Int32) (s : gS) (f : Nat → Int64) (t : gS), Rel s t → lawStep_run a1 a2 a3 a4 s f t (fun s1 _ t1 => Rel s1 t1)) ∧ (∀ (a1 a2 a3 a4 : Int32) (s : gS) (f : Nat → Int64) (t : gS), Rel s t → lawStep_about a1 a2 a3 a4 s f t (fun s1 _ t1 => Rel s1 t1)) ∧ (∀ (a1 a2 a3 a4 : Int32) (s : gS) (f : Nat → Int64) (t : gS), Rel s t → lawStep_word a1 a2 a3 a4 s f t (fun s1 _ t1 => Rel s1 t1)) ∧ (∀ (a1 a2 a3 a4 : Int32) (s : gS) (f : Nat → Int64) (t : gS), Rel s t → lawStep_spoil a1 a2 a3 a4 s f t (fun s1 _ t1 => Rel s1 t1))
theorem arr_of {args : Array Value} {s : State} {ty : FieldType} (h : (Cond.arrayClass ty).before args s = true) (hp : ∀ c : ClassId, s.vm.findClass ("[" ++ ty.toString) = some c → va_RA s c ty) : ∃ c : ClassId, ArrOfT s c ty ∧ va_RA s c ty := by
  obtain ⟨cA, kA, comp, h1, h2, h3⟩ := Cond.arrayClass_spec h
  exact ⟨cA, fun n z => ⟨fun k h => (by cases h), kA, h2, comp, h3⟩, hp cA h1⟩
theorem str_of {args : Array Value} {s : State} {k : Nat} {tx : String} (h1 : (Cond.stringRef R_SQ k tx).before args s = true) (h2 : (Cond.exactly (.string R_SQ k) "java/lang/String").before args s = true) : ∃ sa : Nat, vk_R R_SQ k tx sa s := by
  obtain ⟨a, c, cA, kA, q1, -⟩ := Cond.exactly_spec (args := args) (first := s) (o := none) (s := s) (idx := []) (t := .string R_SQ k) (cls := "java/lang/String") h2
  refine ⟨a, ?_, ?_⟩
  · first
      | exact va_tabs rfl rfl h1
      | exact h1
  · first
      | exact q1
      | (rw [Term.string_eval_of_vm (args := #[]) rfl] ; exact q1)
set_option maxHeartbeats 8000000 in
set_option maxRecDepth 100000 in
theorem whole_start_open {p : Program} {e : Env} {s : State} {m : MethodId} {below : List Frame} {meth : Method} {c : Code} (l : Launch) (hl : l.stackTraces = false) (Rel : gS → gS → Prop) (hRel : LawRel Rel) {b L : Nat} {xs : Nat → Int32} (hL : L ≤ 2560) (C0 : lw_At p s m meth c b L xs) : W p l e room_1 s m #[Value.ref b] below meth c s.heap [] 0 0 (lw_Z below #[Value.ref b] s) (entryFrame m ([Value.ref b] : List Value).toArray 7) := by
  obtain ⟨hx, hb, hr, hml, hown, hts, hX, hbl, hlocks, hgv⟩ := C0
  have hfl := flat_of_before _ hgv
  have hG : ∀ w ∈ gTs, w.before #[Value.ref b] s = true := fun w h => hts w (List.mem_filter.mp h).1
  have hN : ∀ w ∈ gNl, va_Nw w s := fun w h => va_Nw.of (gNw_tab (gNl_ok w h)) (hts w (List.mem_filter.mp h).1)
  obtain ⟨c0, iS0, hKn0⟩ := u_known (C := R_BS) (T := T_BS) (N := 1) (n := 1) hG iw_BS (hG _ (gt 211 (by decide +kernel) rfl))
  obtain ⟨c1, iS1, hKn1⟩ := u_known (C := R_DK) (T := T_DK) (N := 6) (n := 6) hG iw_DK (hG _ (gt 113 (by decide +kernel) rfl))
  obtain ⟨c2, iS2, hKn2⟩ := u_known (C := R_ME) (T := T_ME) (N := 3) (n := 3) hG iw_ME (hG _ (gt 143 (by decide +kernel) rfl))
  obtain ⟨c3, iS3, hKn3⟩ := u_known (C := R_RU) (T := T_RU) (N := 8) (n := 8) hG iw_RU (hG _ (gt 163 (by decide +kernel) rfl))
  obtain ⟨c4, iS4, hKn4⟩ := u_known (C := R_SB) (T := T_SB) (N := 2) (n := 2) hG iw_SB (hG _ (gt 205 (by decide +kernel) rfl))
  obtain ⟨c5, iS5, hKn5⟩ := u_known (C := R_SQ) (T := T_SQ) (N := 10) (n := 10) hG iw_SQ (hG _ (gt 105 (by decide +kernel) rfl))
  obtain ⟨c6, iS6, hKn6⟩ := u_known (C := R_MO) (T := T_MO) (N := 27) (n := 27) hG iw_MO (hG _ (gt 726 (by decide +kernel) rfl))
  obtain ⟨cA0, hA0⟩ := arr_of (ty := .int) (hG _ (gt 141 (by decide +kernel) rfl)) (fun _ h => h)
  obtain ⟨cA1, hA1⟩ := arr_of (ty := .boolean) (hG _ (gt 203 (by decide +kernel) rfl)) (fun _ h => h)
  obtain ⟨cA2, hA2⟩ := arr_of (ty := .long) (hG _ (gt 1004 (by decide +kernel) rfl)) (fun _ h => h)
  let X : gX := ((fun k => match k with | 0 => c0 | 1 => c1 | 2 => c2 | 3 => c3 | 4 => c4 | 5 => c5 | _ => c6, fun k => match k with | 0 => iS0 | 1 => iS1 | 2 => iS2 | 3 => iS3 | 4 => iS4 | 5 => iS5 | _ => iS6), cA0, cA1, cA2)
  have hK : va_K X.1 vwCl (gT X) s := by
    refine ⟨fun k q hq => ?_, fun k q hq => ?_⟩
    · match k, hq with
      | 0, hq => cases hq; exact hKn0
      | 1, hq => cases hq; exact hKn1
      | 2, hq => cases hq; exact hKn2
      | 3, hq => cases hq; exact hKn3
      | 4, hq => cases hq; exact hKn4
      | 5, hq => cases hq; exact hKn5
      | 6, hq => cases hq; exact hKn6
      | k + 7, hq => simp [vwCl] at hq
    · match k, hq with
      | 0, hq => cases hq; exact hA0
      | 1, hq => cases hq; exact hA1
      | 2, hq => cases hq; exact hA2
      | k + 3, hq => simp [gT] at hq
  have hnA : ∀ a : Nat, a < s.heap.size → ¬ (fun q : Nat => s.heap.size ≤ q) a := fun a h h2 => absurd h2 (Nat.not_le.mpr h)
  have hini : (Cond.initialized Bundle.tN).before #[Value.ref b] s = true := hG _ (gt 95 (by decide +kernel) rfl)
  have hTh : gTh (fun q : Nat => s.heap.size ≤ q) s s.heap := by
    refine ⟨vx_Zqof (hts _ (List.mem_of_getElem? (i := 307) (by decide +kernel))) hini (hfl _ (by decide +kernel)) hnA, vx_Zqof (hts _ (List.mem_of_getElem? (i := 309) (by decide +kernel))) hini (hfl _ (by decide +kernel)) hnA, ?_⟩
    intro q hq
    simp only [gStr, List.mem_cons, List.not_mem_nil, or_false] at hq
    rcases hq with rfl | rfl | rfl | rfl | rfl | rfl | rfl | rfl | rfl | rfl | rfl | rfl | rfl
    · exact str_of (hts _ (List.mem_of_getElem? (i := 321) (by decide +kernel))) (hfl _ (by decide +kernel))
    · exact str_of (hts _ (List.mem_of_getElem? (i := 348) (by decide +kernel))) (hfl _ (by decide +kernel))
    · exact str_of (hts _ (List.mem_of_getElem? (i := 349) (by decide +kernel))) (hfl _ (by decide +kernel))
    · exact str_of (hts _ (List.mem_of_getElem? (i := 350) (by decide +kernel))) (hfl _ (by decide +kernel))
    · exact str_of (hts _ (List.mem_of_getElem? (i := 441) (by decide +kernel))) (hfl _ (by decide +kernel))
    · exact str_of (hts _ (List.mem_of_getElem? (i := 598) (by decide +kernel))) (hfl _ (by decide +kernel))
    · exact str_of (hts _ (List.mem_of_getElem? (i := 679) (by decide +kernel))) (hfl _ (by decide +kernel))
    · exact str_of (hts _ (List.mem_of_getElem? (i := 686) (by decide +kernel))) (hfl _ (by decide +kernel))
    · exact str_of (hts _ (List.mem_of_getElem? (i := 694) (by decide +kernel))) (hfl _ (by decide +kernel))
    · exact str_of (hts _ (List.mem_of_getElem? (i := 719) (by decide +kernel))) (hfl _ (by decide +kernel))
    · exact str_of (hts _ (List.mem_of_getElem? (i := 434) (by decide +kernel))) (hfl _ (by decide +kernel))
    · exact str_of (hts _ (List.mem_of_getElem? (i := 610) (by decide +kernel))) (hfl _ (by decide +kernel))
    · exact str_of (hts _ (List.mem_of_getElem? (i := 710) (by decide +kernel))) (hfl _ (by decide +kernel))
  have hNc : ∀ q ∈ gNcs, va_Nc q.1 q.2 s := by
    intro q hq
    simp only [gNcs, List.mem_cons, List.not_mem_nil, or_false] at hq
    rcases hq with rfl | rfl
    · exact va_Nc.of (hfl _ (by decide +kernel))
    · exact va_Nc.of (hfl _ (by decide +kernel))
  have hS : va_S (fun q : Nat => s.heap.size ≤ q) s.heap s.heap [] := va_S.rf
  have hP : va_P X.1 vwCl [] s.heap := fun k q h => by simp at h
  have hD : va_D (fun q : Nat => s.heap.size ≤ q) [] := ⟨fun i j p q h => by simp at h, fun k q h => by simp at h⟩
  have hl0 := lv_entry ([.ref b]) (n := 7) (Nat.le_of_ble_eq_true rfl)
  rw [lg_entry_eq]
  generalize (lg_sl ([.ref b]) ++ List.replicate (7 - (lg_sl ([.ref b])).length) Slot.unset).toArray = ls at hl0 ⊢
  have hl0 : lv_has ls 7 [(0, .ref b)] := hl0
  obtain ⟨E, hE⟩ : ∃ E : gE, E = (((p, l, e, room_1), (s, m, #[Value.ref b], below, meth, c)), (lw_Z below #[Value.ref b] s, (fun q : Nat => s.heap.size ≤ q), s.heap, 7)) := ⟨_, rfl⟩
  have C : gC X E code 7 R_LA := by rw [hE]; exact ⟨⟨hx, hb, hml, hown, hG⟩, hK, hN, fun q h => h, rfl⟩
  have hs : gSc E b L xs := by rw [hE]; exact ⟨hX, hbl, hnA b hbl, rfl, hl, hTh, hNc⟩
  have hRm : gRm E = room_1 := by rw [hE]; rfl
  have hend : ∀ (cells slots : Nat) (ws : va_W) (lv : List (Nat × Value)), cells ≤ 1074 → slots ≤ 26192 → gW X E cells slots ws lv 740 [.int 1] := by
    intro cells slots ws lv h1 h2
    rw [hE]
    intro H locs ls2 hP2 hD2 hS2 hl2
    refine va_forget (fun q hq => hS2.2.2 q hq) ?_
    refine W.widen h1 h2 ?_
    exact lw_ret hx hb hr hlocks d_law_740
  suffices K : gW X E 0 0 [] [(0, .ref b)] 0 [] by
    rw [hE] at K
    exact K s.heap [] ls hP hD hS hl0
  refine g_new C (ci := 5) (fs := [.null, .null, .null, .null, .null, .null, .null, .int 0, .int 0, .int 0]) iw_SQ ty_SQ tyok_SQ (gt 104 (by decide +kernel) rfl) (gt 105 (by decide +kernel) rfl) (gt 87 (by decide +kernel) rfl) rfl dv_SQ (by rw [hRm]; decide) d_law_0 (fun h0 => ?_)
  refine g_dup C rfl d_law_3 ?_
  refine g_callI C (n := 0) (rest := [.ref h0]) (wr := []) [0] [] rfl rfl rfl rfl (by decide) (fun l => m_SQ_init X h0 l) rfl (gt 106 (by decide +kernel) rfl) (gt 107 (by decide +kernel) rfl) (gt 87 (by decide +kernel) rfl) (gt 108 rfl rfl) (by decide +kernel) ⟨rfl, rfl⟩ (by rw [hRm]; decide) (by rw [hRm]; decide) rfl rfl (Nat.le_of_ble_eq_true rfl) d_law_4 ?_
  rintro v u ⟨rfl, q1, q2, q3, q4, q5, q6, q7, q8, q9, q10, q11, q12, q13, q14, q15, q16, q17, q18, q19, q20, rfl⟩
  let ad0 : Nat → Nat := fun k => match k with | 0 => h0 | 1 => q1 | 2 => q2 | 3 => q3 | 4 => q4 | 5 => q5 | 6 => q6 | 7 => q7 | 8 => q8 | 9 => q9 | 10 => q10 | 11 => q11 | 12 => q12 | 13 => q13 | 14 => q14 | 15 => q15 | 16 => q16 | 17 => q17 | 18 => q18 | 19 => q19 | 20 => q20 | _ => 0
  refine g_perm (ws2 := wC ad0 X (fun _ => 0, fun _ _ => 0)) [0, 1, 2, 3, 4, 5, 6, 7, 8, 9, 10, 11, 12, 13, 14, 15, 16, 17, 18, 19, 20] rfl rfl ?_
  show gW X E _ _ _ _ _ [.ref h0]
  refine g_astore_n C (lv2 := [(0, .ref b), (1, .ref h0)]) d_law_7 rfl (by decide) rfl ?_
  refine g_new C (ci := 6) (fs := [.int 0, .int 0, .int 0, .int 0, .int 0, .int 0, .null, .int 0, .int 0, .int 0, .int 0, .int 0, .null, .int 0, .int 0, .null, .null, .null, .null, .null, .null, .null, .null, .null, .null, .null, .null]) iw_MO ty_MO tyok_MO (gt 725 (by decide +kernel) rfl) (gt 726 (by decide +kernel) rfl) (gt 94 (by decide +kernel) rfl) rfl dv_MO (by rw [hRm]; decide) d_law_8 (fun g0 => ?_)
  refine g_dup C rfl d_law_11 ?_
  refine g_callI C (n := 0) (rest := [.ref g0]) (wr := wC ad0 X (fun _ => 0, fun _ _ => 0)) [21] [0, 1, 2, 3, 4, 5, 6, 7, 8, 9, 10, 11, 12, 13, 14, 15, 16, 17, 18, 19, 20] rfl rfl rfl rfl (by decide) (fun l => m_MO_init X g0 l) rfl (gt 727 (by decide +kernel) rfl) (gt 728 (by decide +kernel) rfl) (gt 94 (by decide +kernel) rfl) (gt 729 rfl rfl) (by decide +kernel) ⟨rfl, rfl⟩ (by rw [hRm]; decide) (by rw [hRm]; decide) rfl rfl (Nat.le_of_ble_eq_true rfl) d_law_12 ?_
  rintro v u ⟨rfl, g1, g2, g3, g4, g5, g6, g7, g8, g9, g10, g11, g12, g13, g14, rfl⟩
  let am : Nat → Nat := fun k => match k with | 0 => g0 | 1 => g1 | 2 => g2 | 3 => g3 | 4 => g4 | 5 => g5 | 6 => g6 | 7 => g7 | 8 => g8 | 9 => g9 | 10 => g10 | 11 => g11 | 12 => g12 | 13 => g13 | 14 => g14 | _ => 0
  refine g_perm (ws2 := wC ad0 X (fun _ => 0, fun _ _ => 0) ++ wM am X (fun _ => 0, fun _ _ => 0)) [0, 1, 2, 3, 4, 5, 6, 7, 8, 9, 10, 11, 12, 13, 14, 15, 16, 17, 18, 19, 20, 21, 22, 23, 24, 25, 26, 27, 28, 29, 30, 31, 32, 33, 34, 35] rfl rfl ?_
  show gW X E _ _ _ _ _ [.ref g0]
  refine g_astore_n C (lv2 := [(0, .ref b), (1, .ref h0), (2, .ref g0)]) d_law_15 rfl (by decide) rfl ?_
  refine g_iconst C 1 d_law_16 (by decide) ?_
  refine g_newa C 2 (ty := .long) (a0 := (1, .inr (.inl (fun _ => 0)))) (gt 1004 (by decide +kernel) rfl) rfl rfl (fun _ _ h => h) (fun _ => rfl) (by decide) (by decide) (by decide) (by rw [hRm]; decide) d_law_17 (fun z0 => ?_)
  let ad : Nat → Nat := fun k => match k with | 0 => h0 | 1 => q1 | 2 => q2 | 3 => q3 | 4 => q4 | 5 => q5 | 6 => q6 | 7 => q7 | 8 => q8 | 9 => q9 | 10 => q10 | 11 => q11 | 12 => q12 | 13 => q13 | 14 => q14 | 15 => q15 | 16 => q16 | 17 => q17 | 18 => q18 | 19 => q19 | 20 => q20 | 21 => z0 | _ => 0
  refine g_perm (ws2 := wA ad am X (fun _ => 0, fun _ _ => 0) (fun _ => 0) (fun _ => 0, fun _ _ => 0)) [0, 1, 2, 3, 4, 5, 6, 7, 8, 9, 10, 11, 12, 13, 14, 15, 16, 17, 18, 19, 20, 36, 21, 22, 23, 24, 25, 26, 27, 28, 29, 30, 31, 32, 33, 34, 35] rfl rfl ?_
  refine g_astore_n C (lv2 := [(0, .ref b), (1, .ref h0), (2, .ref g0), (3, .ref z0)]) d_law_19 rfl (by decide) rfl ?_
  refine g_iconst C 0 d_law_20 (by decide) ?_
  refine g_istore C (lv2 := [(0, .ref b), (1, .ref h0), (2, .ref g0), (3, .ref z0), (4, .int 0)]) d_law_21 (by decide) rfl ?_
  obtain ⟨r0, r_format, r_insert, r_min, r_take, r_sync, r_cutAt, r_cut, r_recover, r_size, r_run, r_about, r_word, r_spoil⟩ := hRel
  refine g_widen (k := 37 + 2 * 0) (n := 17922 + 12 * 0) (by decide) (by decide) ?_
  exact law_loop X ad am b L xs hL E C hs hRm Rel r_format r_insert r_min r_take r_sync r_cutAt r_cut r_recover r_size r_run r_about r_word r_spoil hend 513 0 0 _ _ _ (by decide) (by decide) (by decide) r0
