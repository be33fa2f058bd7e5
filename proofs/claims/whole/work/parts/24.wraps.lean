/-! The wrappers' contracts. -/
theorem vp_in_01 : vp_in 0 1 := by unfold vp_in; decide
def gBw (W : gS → (Nat → Int64) → va_W) (Q : Int32 → gS → (Nat → Int64) → Prop) : Option Value → va_W → Prop := fun v u => ∃ (k : Int32) (s : gS) (f : Nat → Int64), v = some (.int k) ∧ u = W s f ∧ Q k s f
theorem g_perm {X : gX} {E : gE} {cells slots pc : Nat} {ws ws2 : va_W} {lv : List (Nat × Value)} {st : List Value} (is : List Nat) (hn : va_nd is = true) (hs : is.map (fun i => ws[i]?) = ws2.map some) (kk : gW X E cells slots ws2 lv pc st) : gW X E cells slots ws lv pc st := by
  obtain ⟨⟨⟨p, l, e, R⟩, s, m, args, below, meth, c⟩, Q, A, H0, nL⟩ := E
  intro H locs ls hP hD hS hl
  exact kk H locs ls (g_subP is hs hP) (hD.sub is hn hs) hS hl
def wp_L_format (a1 : Int32) (a2 : Int32) (a3 : Int32) (a4 : Int32) (s : gS) (f : Nat → Int64) (Q : Int32 → gS → (Nat → Int64) → Prop) : Prop := wp_SpillQueue_format a1 a2 a3 a4 s (fun s1 => Q 0 s1 f) (fun k s1 => (k = 1 ∧ Q 1 s1 f))
def rm_L_format : Room := { frames := 7, cells := 1, slots := 6, locals := 113 }
set_option maxHeartbeats 4000000 in
set_option maxRecDepth 100000 in
theorem m_L_format (X : gX) (ad : Nat → Nat) (a1 : Int32) (a2 : Int32) (a3 : Int32) (a4 : Int32) (s : gS) (f : Nat → Int64) (Q : Int32 → gS → (Nat → Int64) → Prop) (h : wp_L_format a1 a2 a3 a4 s f Q) (l : Launch) (hl : l.stackTraces = false) : gMw l X y_LA_format b_LA_format 6 (some .int) [(0, 9, 12, 13)] rm_L_format 1 6 [.ref (ad 0), .int a1, .int a2, .int a3, .int a4] (wL ad X s f) (gBw (wL ad X) Q) := by
  refine gMw_of (lv0 := [(0, .ref (ad 0)), (1, .int a1), (2, .int a2), (3, .int a3), (4, .int a4)]) hl (by decide +kernel) rfl (Nat.le_of_ble_eq_true rfl) rfl (fun E C hRm r hX => ?_)
  have h : wp_SpillQueue_format a1 a2 a3 a4 s (fun s1 => Q 0 s1 f) (fun k s1 => (k = 1 ∧ Q 1 s1 f)) := h
  refine g_aload_n C d_LA_format_0 rfl 0 rfl ?_
  refine g_iload_n C d_LA_format_1 rfl 1 rfl ?_
  refine g_iload_n C d_LA_format_2 rfl 2 rfl ?_
  refine g_iload_n C d_LA_format_3 rfl 3 rfl ?_
  refine g_iload C d_LA_format_4 4 rfl ?_
  refine g_callVc C hX (rest := []) (wr := [(ad 21, .inl (X.2.2.2, 1, .inr (.inl f)))]) [0, 1, 2, 3, 4, 5, 6, 7, 8, 9, 10, 11, 12, 13, 14, 15, 16, 17, 18, 19, 20] [21] rfl rfl rfl rfl (by decide) 0 (fun l hl => m_SpillQueue_format X ad a1 a2 a3 a4 s _ _ h l hl) rfl rfl (gt 276 (by decide +kernel) rfl) cb_SQ_format ⟨rfl, rfl⟩ (by rw [hRm]; decide) (by rw [hRm]; decide) rfl rfl (Nat.le_of_ble_eq_true rfl) d_LA_format_6 ?_ ?_
  · rintro ec u ⟨k, s1, rfl, rfl, h⟩
    obtain ⟨rfl, h⟩ := h
    refine ⟨12, ⟨[], ⟨0, 9, 12, 13⟩, [], rfl, (fun z hz => absurd hz List.not_mem_nil), rfl, by decide, (gt 275 (by decide +kernel) rfl), (gn 282 (by decide +kernel) rfl), rfl⟩, fun q => ?_⟩
    refine g_perm (ws2 := wL ad X s1 f) [1, 2, 3, 4, 5, 6, 7, 8, 9, 10, 11, 12, 13, 14, 15, 16, 17, 18, 19, 20, 21, 0] rfl rfl ?_
    refine g_astore C (lv2 := [(0, .ref (ad 0)), (1, .int a1), (2, .int a2), (3, .int a3), (4, .int a4), (5, .ref q)]) d_LA_format_12 (by decide) rfl ?_
    refine g_iconst C 1 d_LA_format_14 (by decide) ?_
    exact g_iretx r (by decide) (by decide) rfl d_LA_format_15 ⟨_, s1, f, rfl, rfl, h⟩
  · rintro v u ⟨s1, rfl, rfl, h⟩
    refine g_perm (ws2 := wL ad X s1 f) [1, 2, 3, 4, 5, 6, 7, 8, 9, 10, 11, 12, 13, 14, 15, 16, 17, 18, 19, 20, 21, 0] rfl rfl ?_
    show gW X E _ _ _ _ _ []
    refine g_goto C 16 d_LA_format_9 (by decide) ?_
    refine g_iconst C 0 d_LA_format_16 (by decide) ?_
    exact g_iretx r (by decide) (by decide) rfl d_LA_format_17 ⟨_, s1, f, rfl, rfl, h⟩
def wp_L_insert (a1 : Int32) (s : gS) (f : Nat → Int64) (Q : Int32 → gS → (Nat → Int64) → Prop) : Prop := wp_SpillQueue_insert a1 s (fun r s1 => Q 0 s1 (vp_updL f (0 : Int32).toNatClampNeg r.toInt64)) (fun k s1 => (k = 0 ∧ Q 1 s1 f) ∨ (k = 1 ∧ Q 2 s1 f))
def rm_L_insert : Room := { frames := 8, cells := 2, slots := 12, locals := 163 }
set_option maxHeartbeats 4000000 in
set_option maxRecDepth 100000 in
theorem m_L_insert (X : gX) (ad : Nat → Nat) (a1 : Int32) (s : gS) (f : Nat → Int64) (Q : Int32 → gS → (Nat → Int64) → Prop) (h : wp_L_insert a1 s f Q) (l : Launch) (hl : l.stackTraces = false) : gMw l X y_LA_insert b_LA_insert 4 (some .int) [(0, 9, 12, 19), (0, 9, 15, 13)] rm_L_insert 2 12 [.ref (ad 0), .int a1, .ref (ad 21)] (wL ad X s f) (gBw (wL ad X) Q) := by
  refine gMw_of (lv0 := [(0, .ref (ad 0)), (1, .int a1), (2, .ref (ad 21))]) hl (by decide +kernel) rfl (Nat.le_of_ble_eq_true rfl) rfl (fun E C hRm r hX => ?_)
  have h : wp_SpillQueue_insert a1 s (fun r s1 => Q 0 s1 (vp_updL f (0 : Int32).toNatClampNeg r.toInt64)) (fun k s1 => (k = 0 ∧ Q 1 s1 f) ∨ (k = 1 ∧ Q 2 s1 f)) := h
  refine g_aload_n C d_LA_insert_0 rfl 2 rfl ?_
  refine g_iconst C 0 d_LA_insert_1 (by decide) ?_
  refine g_aload_n C d_LA_insert_2 rfl 0 rfl ?_
  refine g_iload_n C d_LA_insert_3 rfl 1 rfl ?_
  refine g_callVc C hX (rest := [.int 0, .ref (ad 21)]) (wr := [(ad 21, .inl (X.2.2.2, 1, .inr (.inl f)))]) [0, 1, 2, 3, 4, 5, 6, 7, 8, 9, 10, 11, 12, 13, 14, 15, 16, 17, 18, 19, 20] [21] rfl rfl rfl rfl (by decide) 0 (fun l hl => m_SpillQueue_insert X ad a1 s _ _ h l hl) rfl rfl (gt 417 (by decide +kernel) rfl) cb_SQ_insert ⟨rfl, rfl⟩ (by rw [hRm]; decide) (by rw [hRm]; decide) rfl rfl (Nat.le_of_ble_eq_true rfl) d_LA_insert_4 ?_ ?_
  · rintro ec u ⟨k, s1, rfl, rfl, h⟩
    rcases h with ⟨rfl, h⟩ | ⟨rfl, h⟩
    · refine ⟨12, ⟨[], ⟨0, 9, 12, 19⟩, [⟨0, 9, 15, 13⟩], rfl, (fun z hz => absurd hz List.not_mem_nil), rfl, by decide, (gt 416 (by decide +kernel) rfl), (gn 427 (by decide +kernel) rfl), rfl⟩, fun q => ?_⟩
      refine g_perm (ws2 := wL ad X s1 f) [1, 2, 3, 4, 5, 6, 7, 8, 9, 10, 11, 12, 13, 14, 15, 16, 17, 18, 19, 20, 21, 0] rfl rfl ?_
      refine g_astore_n C (lv2 := [(0, .ref (ad 0)), (1, .int a1), (2, .ref (ad 21)), (3, .ref q)]) d_LA_insert_12 rfl (by decide) rfl ?_
      refine g_iconst C 1 d_LA_insert_13 (by decide) ?_
      exact g_iretx r (by decide) (by decide) rfl d_LA_insert_14 ⟨_, s1, f, rfl, rfl, h⟩
    · refine ⟨15, ⟨[⟨0, 9, 12, 19⟩], ⟨0, 9, 15, 13⟩, [], rfl, (fun z hz => by cases List.mem_singleton.mp hz; exact Or.inr ⟨by decide, "java/lang/IllegalStateException", (gt 416 (by decide +kernel) rfl), gm 0 rfl⟩), rfl, by decide, (gt 275 (by decide +kernel) rfl), (gn 282 (by decide +kernel) rfl), rfl⟩, fun q => ?_⟩
      refine g_perm (ws2 := wL ad X s1 f) [1, 2, 3, 4, 5, 6, 7, 8, 9, 10, 11, 12, 13, 14, 15, 16, 17, 18, 19, 20, 21, 0] rfl rfl ?_
      refine g_astore_n C (lv2 := [(0, .ref (ad 0)), (1, .int a1), (2, .ref (ad 21)), (3, .ref q)]) d_LA_insert_15 rfl (by decide) rfl ?_
      refine g_iconst C 2 d_LA_insert_16 (by decide) ?_
      exact g_iretx r (by decide) (by decide) rfl d_LA_insert_17 ⟨_, s1, f, rfl, rfl, h⟩
  · rintro v u ⟨r1, s1, rfl, rfl, h⟩
    refine g_perm (ws2 := wL ad X s1 f) [1, 2, 3, 4, 5, 6, 7, 8, 9, 10, 11, 12, 13, 14, 15, 16, 17, 18, 19, 20, 21, 0] rfl rfl ?_
    show gW X E _ _ _ _ _ [.int r1, .int 0, .ref (ad 21)]
    refine g_i2l C d_LA_insert_7 ?_
    refine g_last C 21 2 (ws2 := wL ad X s1 (vp_updL f (0 : Int32).toNatClampNeg r1.toInt64)) rfl rfl vp_in_01 rfl d_LA_insert_8 ?_
    refine g_goto C 18 d_LA_insert_9 (by decide) ?_
    refine g_iconst C 0 d_LA_insert_18 (by decide) ?_
    exact g_iretx r (by decide) (by decide) rfl d_LA_insert_19 ⟨_, s1, (vp_updL f (0 : Int32).toNatClampNeg r1.toInt64), rfl, rfl, h⟩
def wp_L_min (s : gS) (f : Nat → Int64) (Q : Int32 → gS → (Nat → Int64) → Prop) : Prop := wp_SpillQueue_min  s (fun r s1 => Q 0 s1 (vp_updL f (0 : Int32).toNatClampNeg r.toInt64)) (fun k s1 => (k = 0 ∧ Q 1 s1 f))
def rm_L_min : Room := { frames := 8, cells := 1, slots := 6, locals := 123 }
set_option maxHeartbeats 4000000 in
set_option maxRecDepth 100000 in
theorem m_L_min (X : gX) (ad : Nat → Nat) (s : gS) (f : Nat → Int64) (Q : Int32 → gS → (Nat → Int64) → Prop) (h : wp_L_min  s f Q) (l : Launch) (hl : l.stackTraces = false) : gMw l X y_LA_min b_LA_min 3 (some .int) [(0, 8, 11, 19)] rm_L_min 1 6 [.ref (ad 0), .ref (ad 21)] (wL ad X s f) (gBw (wL ad X) Q) := by
  refine gMw_of (lv0 := [(0, .ref (ad 0)), (1, .ref (ad 21))]) hl (by decide +kernel) rfl (Nat.le_of_ble_eq_true rfl) rfl (fun E C hRm r hX => ?_)
  have h : wp_SpillQueue_min  s (fun r s1 => Q 0 s1 (vp_updL f (0 : Int32).toNatClampNeg r.toInt64)) (fun k s1 => (k = 0 ∧ Q 1 s1 f)) := h
  refine g_aload_n C d_LA_min_0 rfl 1 rfl ?_
  refine g_iconst C 0 d_LA_min_1 (by decide) ?_
  refine g_aload_n C d_LA_min_2 rfl 0 rfl ?_
  refine g_callVc C hX (rest := [.int 0, .ref (ad 21)]) (wr := [(ad 21, .inl (X.2.2.2, 1, .inr (.inl f)))]) [0, 1, 2, 3, 4, 5, 6, 7, 8, 9, 10, 11, 12, 13, 14, 15, 16, 17, 18, 19, 20] [21] rfl rfl rfl rfl (by decide) 0 (fun l hl => m_SpillQueue_min X ad  s _ _ h l hl) rfl rfl (gt 561 (by decide +kernel) rfl) cb_SQ_min ⟨rfl, rfl⟩ (by rw [hRm]; decide) (by rw [hRm]; decide) rfl rfl (Nat.le_of_ble_eq_true rfl) d_LA_min_3 ?_ ?_
  · rintro ec u ⟨k, s1, rfl, rfl, h⟩
    obtain ⟨rfl, h⟩ := h
    refine ⟨11, ⟨[], ⟨0, 8, 11, 19⟩, [], rfl, (fun z hz => absurd hz List.not_mem_nil), rfl, by decide, (gt 416 (by decide +kernel) rfl), (gn 427 (by decide +kernel) rfl), rfl⟩, fun q => ?_⟩
    refine g_perm (ws2 := wL ad X s1 f) [1, 2, 3, 4, 5, 6, 7, 8, 9, 10, 11, 12, 13, 14, 15, 16, 17, 18, 19, 20, 21, 0] rfl rfl ?_
    refine g_astore_n C (lv2 := [(0, .ref (ad 0)), (1, .ref (ad 21)), (2, .ref q)]) d_LA_min_11 rfl (by decide) rfl ?_
    refine g_iconst C 1 d_LA_min_12 (by decide) ?_
    exact g_iretx r (by decide) (by decide) rfl d_LA_min_13 ⟨_, s1, f, rfl, rfl, h⟩
  · rintro v u ⟨r1, s1, rfl, rfl, h⟩
    refine g_perm (ws2 := wL ad X s1 f) [1, 2, 3, 4, 5, 6, 7, 8, 9, 10, 11, 12, 13, 14, 15, 16, 17, 18, 19, 20, 21, 0] rfl rfl ?_
    show gW X E _ _ _ _ _ [.int r1, .int 0, .ref (ad 21)]
    refine g_i2l C d_LA_min_6 ?_
    refine g_last C 21 2 (ws2 := wL ad X s1 (vp_updL f (0 : Int32).toNatClampNeg r1.toInt64)) rfl rfl vp_in_01 rfl d_LA_min_7 ?_
    refine g_goto C 14 d_LA_min_8 (by decide) ?_
    refine g_iconst C 0 d_LA_min_14 (by decide) ?_
    exact g_iretx r (by decide) (by decide) rfl d_LA_min_15 ⟨_, s1, (vp_updL f (0 : Int32).toNatClampNeg r1.toInt64), rfl, rfl, h⟩
def wp_L_take (s : gS) (f : Nat → Int64) (Q : Int32 → gS → (Nat → Int64) → Prop) : Prop := wp_SpillQueue_take  s (fun r s1 => Q 0 s1 (vp_updL f (0 : Int32).toNatClampNeg r.toInt64)) (fun k s1 => (k = 0 ∧ Q 1 s1 f))
def rm_L_take : Room := { frames := 8, cells := 1, slots := 6, locals := 124 }
set_option maxHeartbeats 4000000 in
set_option maxRecDepth 100000 in
theorem m_L_take (X : gX) (ad : Nat → Nat) (s : gS) (f : Nat → Int64) (Q : Int32 → gS → (Nat → Int64) → Prop) (h : wp_L_take  s f Q) (l : Launch) (hl : l.stackTraces = false) : gMw l X y_LA_take b_LA_take 3 (some .int) [(0, 8, 11, 19)] rm_L_take 1 6 [.ref (ad 0), .ref (ad 21)] (wL ad X s f) (gBw (wL ad X) Q) := by
  refine gMw_of (lv0 := [(0, .ref (ad 0)), (1, .ref (ad 21))]) hl (by decide +kernel) rfl (Nat.le_of_ble_eq_true rfl) rfl (fun E C hRm r hX => ?_)
  have h : wp_SpillQueue_take  s (fun r s1 => Q 0 s1 (vp_updL f (0 : Int32).toNatClampNeg r.toInt64)) (fun k s1 => (k = 0 ∧ Q 1 s1 f)) := h
  refine g_aload_n C d_LA_take_0 rfl 1 rfl ?_
  refine g_iconst C 0 d_LA_take_1 (by decide) ?_
  refine g_aload_n C d_LA_take_2 rfl 0 rfl ?_
  refine g_callVc C hX (rest := [.int 0, .ref (ad 21)]) (wr := [(ad 21, .inl (X.2.2.2, 1, .inr (.inl f)))]) [0, 1, 2, 3, 4, 5, 6, 7, 8, 9, 10, 11, 12, 13, 14, 15, 16, 17, 18, 19, 20] [21] rfl rfl rfl rfl (by decide) 0 (fun l hl => m_SpillQueue_take X ad  s _ _ h l hl) rfl rfl (gt 578 (by decide +kernel) rfl) cb_SQ_take ⟨rfl, rfl⟩ (by rw [hRm]; decide) (by rw [hRm]; decide) rfl rfl (Nat.le_of_ble_eq_true rfl) d_LA_take_3 ?_ ?_
  · rintro ec u ⟨k, s1, rfl, rfl, h⟩
    obtain ⟨rfl, h⟩ := h
    refine ⟨11, ⟨[], ⟨0, 8, 11, 19⟩, [], rfl, (fun z hz => absurd hz List.not_mem_nil), rfl, by decide, (gt 416 (by decide +kernel) rfl), (gn 427 (by decide +kernel) rfl), rfl⟩, fun q => ?_⟩
    refine g_perm (ws2 := wL ad X s1 f) [1, 2, 3, 4, 5, 6, 7, 8, 9, 10, 11, 12, 13, 14, 15, 16, 17, 18, 19, 20, 21, 0] rfl rfl ?_
    refine g_astore_n C (lv2 := [(0, .ref (ad 0)), (1, .ref (ad 21)), (2, .ref q)]) d_LA_take_11 rfl (by decide) rfl ?_
    refine g_iconst C 1 d_LA_take_12 (by decide) ?_
    exact g_iretx r (by decide) (by decide) rfl d_LA_take_13 ⟨_, s1, f, rfl, rfl, h⟩
  · rintro v u ⟨r1, s1, rfl, rfl, h⟩
    refine g_perm (ws2 := wL ad X s1 f) [1, 2, 3, 4, 5, 6, 7, 8, 9, 10, 11, 12, 13, 14, 15, 16, 17, 18, 19, 20, 21, 0] rfl rfl ?_
    show gW X E _ _ _ _ _ [.int r1, .int 0, .ref (ad 21)]
    refine g_i2l C d_LA_take_6 ?_
    refine g_last C 21 2 (ws2 := wL ad X s1 (vp_updL f (0 : Int32).toNatClampNeg r1.toInt64)) rfl rfl vp_in_01 rfl d_LA_take_7 ?_
    refine g_goto C 14 d_LA_take_8 (by decide) ?_
    refine g_iconst C 0 d_LA_take_14 (by decide) ?_
    exact g_iretx r (by decide) (by decide) rfl d_LA_take_15 ⟨_, s1, (vp_updL f (0 : Int32).toNatClampNeg r1.toInt64), rfl, rfl, h⟩
def wp_L_sync (s : gS) (f : Nat → Int64) (Q : Int32 → gS → (Nat → Int64) → Prop) : Prop := wp_SpillQueue_sync  s (fun r s1 => Q 0 s1 (vp_updL f (0 : Int32).toNatClampNeg r.toInt64)) (fun k s1 => (k = 0 ∧ Q 1 s1 f))
def rm_L_sync : Room := { frames := 8, cells := 1, slots := 6, locals := 162 }
set_option maxHeartbeats 4000000 in
set_option maxRecDepth 100000 in
theorem m_L_sync (X : gX) (ad : Nat → Nat) (s : gS) (f : Nat → Int64) (Q : Int32 → gS → (Nat → Int64) → Prop) (h : wp_L_sync  s f Q) (l : Launch) (hl : l.stackTraces = false) : gMw l X y_LA_sync b_LA_sync 3 (some .int) [(0, 8, 11, 19)] rm_L_sync 1 6 [.ref (ad 0), .ref (ad 21)] (wL ad X s f) (gBw (wL ad X) Q) := by
  refine gMw_of (lv0 := [(0, .ref (ad 0)), (1, .ref (ad 21))]) hl (by decide +kernel) rfl (Nat.le_of_ble_eq_true rfl) rfl (fun E C hRm r hX => ?_)
  have h : wp_SpillQueue_sync  s (fun r s1 => Q 0 s1 (vp_updL f (0 : Int32).toNatClampNeg r.toInt64)) (fun k s1 => (k = 0 ∧ Q 1 s1 f)) := h
  refine g_aload_n C d_LA_sync_0 rfl 1 rfl ?_
  refine g_iconst C 0 d_LA_sync_1 (by decide) ?_
  refine g_aload_n C d_LA_sync_2 rfl 0 rfl ?_
  refine g_callVc C hX (rest := [.int 0, .ref (ad 21)]) (wr := [(ad 21, .inl (X.2.2.2, 1, .inr (.inl f)))]) [0, 1, 2, 3, 4, 5, 6, 7, 8, 9, 10, 11, 12, 13, 14, 15, 16, 17, 18, 19, 20] [21] rfl rfl rfl rfl (by decide) 0 (fun l hl => m_SpillQueue_sync X ad  s _ _ h l hl) rfl rfl (gt 587 (by decide +kernel) rfl) cb_SQ_sync ⟨rfl, rfl⟩ (by rw [hRm]; decide) (by rw [hRm]; decide) rfl rfl (Nat.le_of_ble_eq_true rfl) d_LA_sync_3 ?_ ?_
  · rintro ec u ⟨k, s1, rfl, rfl, h⟩
    obtain ⟨rfl, h⟩ := h
    refine ⟨11, ⟨[], ⟨0, 8, 11, 19⟩, [], rfl, (fun z hz => absurd hz List.not_mem_nil), rfl, by decide, (gt 416 (by decide +kernel) rfl), (gn 427 (by decide +kernel) rfl), rfl⟩, fun q => ?_⟩
    refine g_perm (ws2 := wL ad X s1 f) [1, 2, 3, 4, 5, 6, 7, 8, 9, 10, 11, 12, 13, 14, 15, 16, 17, 18, 19, 20, 21, 0] rfl rfl ?_
    refine g_astore_n C (lv2 := [(0, .ref (ad 0)), (1, .ref (ad 21)), (2, .ref q)]) d_LA_sync_11 rfl (by decide) rfl ?_
    refine g_iconst C 1 d_LA_sync_12 (by decide) ?_
    exact g_iretx r (by decide) (by decide) rfl d_LA_sync_13 ⟨_, s1, f, rfl, rfl, h⟩
  · rintro v u ⟨r1, s1, rfl, rfl, h⟩
    refine g_perm (ws2 := wL ad X s1 f) [1, 2, 3, 4, 5, 6, 7, 8, 9, 10, 11, 12, 13, 14, 15, 16, 17, 18, 19, 20, 21, 0] rfl rfl ?_
    show gW X E _ _ _ _ _ [.int r1, .int 0, .ref (ad 21)]
    refine g_i2l C d_LA_sync_6 ?_
    refine g_last C 21 2 (ws2 := wL ad X s1 (vp_updL f (0 : Int32).toNatClampNeg r1.toInt64)) rfl rfl vp_in_01 rfl d_LA_sync_7 ?_
    refine g_goto C 14 d_LA_sync_8 (by decide) ?_
    refine g_iconst C 0 d_LA_sync_14 (by decide) ?_
    exact g_iretx r (by decide) (by decide) rfl d_LA_sync_15 ⟨_, s1, (vp_updL f (0 : Int32).toNatClampNeg r1.toInt64), rfl, rfl, h⟩
def wp_L_cutAt (a1 : Int32) (s : gS) (f : Nat → Int64) (Q : Int32 → gS → (Nat → Int64) → Prop) : Prop := wp_SpillQueue_cutAt a1 s (fun s1 => Q 0 s1 f) (fun k s1 => (k = 0 ∧ Q 1 s1 f) ∨ (k = 1 ∧ Q 2 s1 f))
def rm_L_cutAt : Room := { frames := 8, cells := 2, slots := 12, locals := 123 }
set_option maxHeartbeats 4000000 in
set_option maxRecDepth 100000 in
theorem m_L_cutAt (X : gX) (ad : Nat → Nat) (a1 : Int32) (s : gS) (f : Nat → Int64) (Q : Int32 → gS → (Nat → Int64) → Prop) (h : wp_L_cutAt a1 s f Q) (l : Launch) (hl : l.stackTraces = false) : gMw l X y_LA_cutAt b_LA_cutAt 3 (some .int) [(0, 5, 8, 19), (0, 5, 11, 13)] rm_L_cutAt 2 12 [.ref (ad 0), .int a1] (wL ad X s f) (gBw (wL ad X) Q) := by
  refine gMw_of (lv0 := [(0, .ref (ad 0)), (1, .int a1)]) hl (by decide +kernel) rfl (Nat.le_of_ble_eq_true rfl) rfl (fun E C hRm r hX => ?_)
  have h : wp_SpillQueue_cutAt a1 s (fun s1 => Q 0 s1 f) (fun k s1 => (k = 0 ∧ Q 1 s1 f) ∨ (k = 1 ∧ Q 2 s1 f)) := h
  refine g_aload_n C d_LA_cutAt_0 rfl 0 rfl ?_
  refine g_iload_n C d_LA_cutAt_1 rfl 1 rfl ?_
  refine g_callVc C hX (rest := []) (wr := [(ad 21, .inl (X.2.2.2, 1, .inr (.inl f)))]) [0, 1, 2, 3, 4, 5, 6, 7, 8, 9, 10, 11, 12, 13, 14, 15, 16, 17, 18, 19, 20] [21] rfl rfl rfl rfl (by decide) 0 (fun l hl => m_SpillQueue_cutAt X ad a1 s _ _ h l hl) rfl rfl (gt 594 (by decide +kernel) rfl) cb_SQ_cutAt ⟨rfl, rfl⟩ (by rw [hRm]; decide) (by rw [hRm]; decide) rfl rfl (Nat.le_of_ble_eq_true rfl) d_LA_cutAt_2 ?_ ?_
  · rintro ec u ⟨k, s1, rfl, rfl, h⟩
    rcases h with ⟨rfl, h⟩ | ⟨rfl, h⟩
    · refine ⟨8, ⟨[], ⟨0, 5, 8, 19⟩, [⟨0, 5, 11, 13⟩], rfl, (fun z hz => absurd hz List.not_mem_nil), rfl, by decide, (gt 416 (by decide +kernel) rfl), (gn 427 (by decide +kernel) rfl), rfl⟩, fun q => ?_⟩
      refine g_perm (ws2 := wL ad X s1 f) [1, 2, 3, 4, 5, 6, 7, 8, 9, 10, 11, 12, 13, 14, 15, 16, 17, 18, 19, 20, 21, 0] rfl rfl ?_
      refine g_astore_n C (lv2 := [(0, .ref (ad 0)), (1, .int a1), (2, .ref q)]) d_LA_cutAt_8 rfl (by decide) rfl ?_
      refine g_iconst C 1 d_LA_cutAt_9 (by decide) ?_
      exact g_iretx r (by decide) (by decide) rfl d_LA_cutAt_10 ⟨_, s1, f, rfl, rfl, h⟩
    · refine ⟨11, ⟨[⟨0, 5, 8, 19⟩], ⟨0, 5, 11, 13⟩, [], rfl, (fun z hz => by cases List.mem_singleton.mp hz; exact Or.inr ⟨by decide, "java/lang/IllegalStateException", (gt 416 (by decide +kernel) rfl), gm 0 rfl⟩), rfl, by decide, (gt 275 (by decide +kernel) rfl), (gn 282 (by decide +kernel) rfl), rfl⟩, fun q => ?_⟩
      refine g_perm (ws2 := wL ad X s1 f) [1, 2, 3, 4, 5, 6, 7, 8, 9, 10, 11, 12, 13, 14, 15, 16, 17, 18, 19, 20, 21, 0] rfl rfl ?_
      refine g_astore_n C (lv2 := [(0, .ref (ad 0)), (1, .int a1), (2, .ref q)]) d_LA_cutAt_11 rfl (by decide) rfl ?_
      refine g_iconst C 2 d_LA_cutAt_12 (by decide) ?_
      exact g_iretx r (by decide) (by decide) rfl d_LA_cutAt_13 ⟨_, s1, f, rfl, rfl, h⟩
  · rintro v u ⟨s1, rfl, rfl, h⟩
    refine g_perm (ws2 := wL ad X s1 f) [1, 2, 3, 4, 5, 6, 7, 8, 9, 10, 11, 12, 13, 14, 15, 16, 17, 18, 19, 20, 21, 0] rfl rfl ?_
    show gW X E _ _ _ _ _ []
    refine g_goto C 14 d_LA_cutAt_5 (by decide) ?_
    refine g_iconst C 0 d_LA_cutAt_14 (by decide) ?_
    exact g_iretx r (by decide) (by decide) rfl d_LA_cutAt_15 ⟨_, s1, f, rfl, rfl, h⟩
def wp_L_cut (s : gS) (f : Nat → Int64) (Q : Int32 → gS → (Nat → Int64) → Prop) : Prop := wp_SpillQueue_cut  s (fun s1 => Q 0 s1 f) (fun k s1 => (k = 0 ∧ Q 1 s1 f))
def rm_L_cut : Room := { frames := 8, cells := 1, slots := 6, locals := 122 }
set_option maxHeartbeats 4000000 in
set_option maxRecDepth 100000 in
theorem m_L_cut (X : gX) (ad : Nat → Nat) (s : gS) (f : Nat → Int64) (Q : Int32 → gS → (Nat → Int64) → Prop) (h : wp_L_cut  s f Q) (l : Launch) (hl : l.stackTraces = false) : gMw l X y_LA_cut b_LA_cut 2 (some .int) [(0, 4, 7, 19)] rm_L_cut 1 6 [.ref (ad 0)] (wL ad X s f) (gBw (wL ad X) Q) := by
  refine gMw_of (lv0 := [(0, .ref (ad 0))]) hl (by decide +kernel) rfl (Nat.le_of_ble_eq_true rfl) rfl (fun E C hRm r hX => ?_)
  have h : wp_SpillQueue_cut  s (fun s1 => Q 0 s1 f) (fun k s1 => (k = 0 ∧ Q 1 s1 f)) := h
  refine g_aload_n C d_LA_cut_0 rfl 0 rfl ?_
  refine g_callVc C hX (rest := []) (wr := [(ad 21, .inl (X.2.2.2, 1, .inr (.inl f)))]) [0, 1, 2, 3, 4, 5, 6, 7, 8, 9, 10, 11, 12, 13, 14, 15, 16, 17, 18, 19, 20] [21] rfl rfl rfl rfl (by decide) 0 (fun l hl => m_SpillQueue_cut X ad  s _ _ h l hl) rfl rfl (gt 602 (by decide +kernel) rfl) cb_SQ_cut ⟨rfl, rfl⟩ (by rw [hRm]; decide) (by rw [hRm]; decide) rfl rfl (Nat.le_of_ble_eq_true rfl) d_LA_cut_1 ?_ ?_
  · rintro ec u ⟨k, s1, rfl, rfl, h⟩
    obtain ⟨rfl, h⟩ := h
    refine ⟨7, ⟨[], ⟨0, 4, 7, 19⟩, [], rfl, (fun z hz => absurd hz List.not_mem_nil), rfl, by decide, (gt 416 (by decide +kernel) rfl), (gn 427 (by decide +kernel) rfl), rfl⟩, fun q => ?_⟩
    refine g_perm (ws2 := wL ad X s1 f) [1, 2, 3, 4, 5, 6, 7, 8, 9, 10, 11, 12, 13, 14, 15, 16, 17, 18, 19, 20, 21, 0] rfl rfl ?_
    refine g_astore_n C (lv2 := [(0, .ref (ad 0)), (1, .ref q)]) d_LA_cut_7 rfl (by decide) rfl ?_
    refine g_iconst C 1 d_LA_cut_8 (by decide) ?_
    exact g_iretx r (by decide) (by decide) rfl d_LA_cut_9 ⟨_, s1, f, rfl, rfl, h⟩
  · rintro v u ⟨s1, rfl, rfl, h⟩
    refine g_perm (ws2 := wL ad X s1 f) [1, 2, 3, 4, 5, 6, 7, 8, 9, 10, 11, 12, 13, 14, 15, 16, 17, 18, 19, 20, 21, 0] rfl rfl ?_
    show gW X E _ _ _ _ _ []
    refine g_goto C 10 d_LA_cut_4 (by decide) ?_
    refine g_iconst C 0 d_LA_cut_10 (by decide) ?_
    exact g_iretx r (by decide) (by decide) rfl d_LA_cut_11 ⟨_, s1, f, rfl, rfl, h⟩
def wp_L_recover (s : gS) (f : Nat → Int64) (Q : Int32 → gS → (Nat → Int64) → Prop) : Prop := wp_SpillQueue_recover  s (fun r s1 => Q 0 s1 (vp_updL f (0 : Int32).toNatClampNeg r.toInt64)) (fun k s1 => (k = 0 ∧ Q 1 s1 f))
def rm_L_recover : Room := { frames := 8, cells := 1, slots := 6, locals := 170 }
set_option maxHeartbeats 4000000 in
set_option maxRecDepth 100000 in
theorem m_L_recover (X : gX) (ad : Nat → Nat) (s : gS) (f : Nat → Int64) (Q : Int32 → gS → (Nat → Int64) → Prop) (h : wp_L_recover  s f Q) (l : Launch) (hl : l.stackTraces = false) : gMw l X y_LA_recover b_LA_recover 3 (some .int) [(0, 8, 11, 19)] rm_L_recover 1 6 [.ref (ad 0), .ref (ad 21)] (wL ad X s f) (gBw (wL ad X) Q) := by
  refine gMw_of (lv0 := [(0, .ref (ad 0)), (1, .ref (ad 21))]) hl (by decide +kernel) rfl (Nat.le_of_ble_eq_true rfl) rfl (fun E C hRm r hX => ?_)
  have h : wp_SpillQueue_recover  s (fun r s1 => Q 0 s1 (vp_updL f (0 : Int32).toNatClampNeg r.toInt64)) (fun k s1 => (k = 0 ∧ Q 1 s1 f)) := h
  refine g_aload_n C d_LA_recover_0 rfl 1 rfl ?_
  refine g_iconst C 0 d_LA_recover_1 (by decide) ?_
  refine g_aload_n C d_LA_recover_2 rfl 0 rfl ?_
  refine g_callVc C hX (rest := [.int 0, .ref (ad 21)]) (wr := [(ad 21, .inl (X.2.2.2, 1, .inr (.inl f)))]) [0, 1, 2, 3, 4, 5, 6, 7, 8, 9, 10, 11, 12, 13, 14, 15, 16, 17, 18, 19, 20] [21] rfl rfl rfl rfl (by decide) 0 (fun l hl => m_SpillQueue_recover X ad  s _ _ h l hl) rfl rfl (gt 614 (by decide +kernel) rfl) cb_SQ_recover ⟨rfl, rfl⟩ (by rw [hRm]; decide) (by rw [hRm]; decide) rfl rfl (Nat.le_of_ble_eq_true rfl) d_LA_recover_3 ?_ ?_
  · rintro ec u ⟨k, s1, rfl, rfl, h⟩
    obtain ⟨rfl, h⟩ := h
    refine ⟨11, ⟨[], ⟨0, 8, 11, 19⟩, [], rfl, (fun z hz => absurd hz List.not_mem_nil), rfl, by decide, (gt 416 (by decide +kernel) rfl), (gn 427 (by decide +kernel) rfl), rfl⟩, fun q => ?_⟩
    refine g_perm (ws2 := wL ad X s1 f) [1, 2, 3, 4, 5, 6, 7, 8, 9, 10, 11, 12, 13, 14, 15, 16, 17, 18, 19, 20, 21, 0] rfl rfl ?_
    refine g_astore_n C (lv2 := [(0, .ref (ad 0)), (1, .ref (ad 21)), (2, .ref q)]) d_LA_recover_11 rfl (by decide) rfl ?_
    refine g_iconst C 1 d_LA_recover_12 (by decide) ?_
    exact g_iretx r (by decide) (by decide) rfl d_LA_recover_13 ⟨_, s1, f, rfl, rfl, h⟩
  · rintro v u ⟨r1, s1, rfl, rfl, h⟩
    refine g_perm (ws2 := wL ad X s1 f) [1, 2, 3, 4, 5, 6, 7, 8, 9, 10, 11, 12, 13, 14, 15, 16, 17, 18, 19, 20, 21, 0] rfl rfl ?_
    show gW X E _ _ _ _ _ [.int r1, .int 0, .ref (ad 21)]
    refine g_i2l C d_LA_recover_6 ?_
    refine g_last C 21 2 (ws2 := wL ad X s1 (vp_updL f (0 : Int32).toNatClampNeg r1.toInt64)) rfl rfl vp_in_01 rfl d_LA_recover_7 ?_
    refine g_goto C 14 d_LA_recover_8 (by decide) ?_
    refine g_iconst C 0 d_LA_recover_14 (by decide) ?_
    exact g_iretx r (by decide) (by decide) rfl d_LA_recover_15 ⟨_, s1, (vp_updL f (0 : Int32).toNatClampNeg r1.toInt64), rfl, rfl, h⟩
def wp_L_run (a1 : Int32) (a2 : Int32) (s : gS) (f : Nat → Int64) (Q : Int32 → gS → (Nat → Int64) → Prop) : Prop := wp_SpillQueue_run a1 a2 s (fun r s1 => Q 0 s1 (vp_updL f (0 : Int32).toNatClampNeg r.toInt64)) (fun k s1 => (k = 0 ∧ Q 1 s1 f) ∨ (k = 2 ∧ Q 2 s1 f))
def rm_L_run : Room := { frames := 8, cells := 2, slots := 12, locals := 124 }
set_option maxHeartbeats 4000000 in
set_option maxRecDepth 100000 in
theorem m_L_run (X : gX) (ad : Nat → Nat) (a1 : Int32) (a2 : Int32) (s : gS) (f : Nat → Int64) (Q : Int32 → gS → (Nat → Int64) → Prop) (h : wp_L_run a1 a2 s f Q) (l : Launch) (hl : l.stackTraces = false) : gMw l X y_LA_run b_LA_run 5 (some .int) [(0, 10, 13, 19), (0, 10, 17, 45)] rm_L_run 2 12 [.ref (ad 0), .int a1, .int a2, .ref (ad 21)] (wL ad X s f) (gBw (wL ad X) Q) := by
  refine gMw_of (lv0 := [(0, .ref (ad 0)), (1, .int a1), (2, .int a2), (3, .ref (ad 21))]) hl (by decide +kernel) rfl (Nat.le_of_ble_eq_true rfl) rfl (fun E C hRm r hX => ?_)
  have h : wp_SpillQueue_run a1 a2 s (fun r s1 => Q 0 s1 (vp_updL f (0 : Int32).toNatClampNeg r.toInt64)) (fun k s1 => (k = 0 ∧ Q 1 s1 f) ∨ (k = 2 ∧ Q 2 s1 f)) := h
  refine g_aload_n C d_LA_run_0 rfl 3 rfl ?_
  refine g_iconst C 0 d_LA_run_1 (by decide) ?_
  refine g_aload_n C d_LA_run_2 rfl 0 rfl ?_
  refine g_iload_n C d_LA_run_3 rfl 1 rfl ?_
  refine g_iload_n C d_LA_run_4 rfl 2 rfl ?_
  refine g_callVc C hX (rest := [.int 0, .ref (ad 21)]) (wr := [(ad 21, .inl (X.2.2.2, 1, .inr (.inl f)))]) [0, 1, 2, 3, 4, 5, 6, 7, 8, 9, 10, 11, 12, 13, 14, 15, 16, 17, 18, 19, 20] [21] rfl rfl rfl rfl (by decide) 0 (fun l hl => m_SpillQueue_run X ad a1 a2 s _ _ h l hl) rfl rfl (gt 665 (by decide +kernel) rfl) cb_SQ_run ⟨rfl, rfl⟩ (by rw [hRm]; decide) (by rw [hRm]; decide) rfl rfl (Nat.le_of_ble_eq_true rfl) d_LA_run_5 ?_ ?_
  · rintro ec u ⟨k, s1, rfl, rfl, h⟩
    rcases h with ⟨rfl, h⟩ | ⟨rfl, h⟩
    · refine ⟨13, ⟨[], ⟨0, 10, 13, 19⟩, [⟨0, 10, 17, 45⟩], rfl, (fun z hz => absurd hz List.not_mem_nil), rfl, by decide, (gt 416 (by decide +kernel) rfl), (gn 427 (by decide +kernel) rfl), rfl⟩, fun q => ?_⟩
      refine g_perm (ws2 := wL ad X s1 f) [1, 2, 3, 4, 5, 6, 7, 8, 9, 10, 11, 12, 13, 14, 15, 16, 17, 18, 19, 20, 21, 0] rfl rfl ?_
      refine g_astore C (lv2 := [(0, .ref (ad 0)), (1, .int a1), (2, .int a2), (3, .ref (ad 21)), (4, .ref q)]) d_LA_run_13 (by decide) rfl ?_
      refine g_iconst C 1 d_LA_run_15 (by decide) ?_
      exact g_iretx r (by decide) (by decide) rfl d_LA_run_16 ⟨_, s1, f, rfl, rfl, h⟩
    · refine ⟨17, ⟨[⟨0, 10, 13, 19⟩], ⟨0, 10, 17, 45⟩, [], rfl, (fun z hz => by cases List.mem_singleton.mp hz; exact Or.inr ⟨by decide, "java/lang/IllegalStateException", (gt 416 (by decide +kernel) rfl), gm 1 rfl⟩), rfl, by decide, (gt 664 (by decide +kernel) rfl), (gn 672 (by decide +kernel) rfl), rfl⟩, fun q => ?_⟩
      refine g_perm (ws2 := wL ad X s1 f) [1, 2, 3, 4, 5, 6, 7, 8, 9, 10, 11, 12, 13, 14, 15, 16, 17, 18, 19, 20, 21, 0] rfl rfl ?_
      refine g_astore C (lv2 := [(0, .ref (ad 0)), (1, .int a1), (2, .int a2), (3, .ref (ad 21)), (4, .ref q)]) d_LA_run_17 (by decide) rfl ?_
      refine g_iconst C 2 d_LA_run_19 (by decide) ?_
      exact g_iretx r (by decide) (by decide) rfl d_LA_run_20 ⟨_, s1, f, rfl, rfl, h⟩
  · rintro v u ⟨r1, s1, rfl, rfl, h⟩
    refine g_perm (ws2 := wL ad X s1 f) [1, 2, 3, 4, 5, 6, 7, 8, 9, 10, 11, 12, 13, 14, 15, 16, 17, 18, 19, 20, 21, 0] rfl rfl ?_
    show gW X E _ _ _ _ _ [.int r1, .int 0, .ref (ad 21)]
    refine g_i2l C d_LA_run_8 ?_
    refine g_last C 21 2 (ws2 := wL ad X s1 (vp_updL f (0 : Int32).toNatClampNeg r1.toInt64)) rfl rfl vp_in_01 rfl d_LA_run_9 ?_
    refine g_goto C 21 d_LA_run_10 (by decide) ?_
    refine g_iconst C 0 d_LA_run_21 (by decide) ?_
    exact g_iretx r (by decide) (by decide) rfl d_LA_run_22 ⟨_, s1, (vp_updL f (0 : Int32).toNatClampNeg r1.toInt64), rfl, rfl, h⟩
def wp_L_about (a1 : Int32) (s : gS) (f : Nat → Int64) (Q : Int32 → gS → (Nat → Int64) → Prop) : Prop := wp_SpillQueue_about a1 s (fun r s1 => Q 0 s1 (vp_updL f (0 : Int32).toNatClampNeg r.toInt64)) (fun k s1 => (k = 2 ∧ Q 1 s1 f))
def rm_L_about : Room := { frames := 7, cells := 1, slots := 6, locals := 103 }
set_option maxHeartbeats 4000000 in
set_option maxRecDepth 100000 in
theorem m_L_about (X : gX) (ad : Nat → Nat) (a1 : Int32) (s : gS) (f : Nat → Int64) (Q : Int32 → gS → (Nat → Int64) → Prop) (h : wp_L_about a1 s f Q) (l : Launch) (hl : l.stackTraces = false) : gMw l X y_LA_about b_LA_about 4 (some .int) [(0, 9, 12, 45)] rm_L_about 1 6 [.ref (ad 0), .int a1, .ref (ad 21)] (wL ad X s f) (gBw (wL ad X) Q) := by
  refine gMw_of (lv0 := [(0, .ref (ad 0)), (1, .int a1), (2, .ref (ad 21))]) hl (by decide +kernel) rfl (Nat.le_of_ble_eq_true rfl) rfl (fun E C hRm r hX => ?_)
  have h : wp_SpillQueue_about a1 s (fun r s1 => Q 0 s1 (vp_updL f (0 : Int32).toNatClampNeg r.toInt64)) (fun k s1 => (k = 2 ∧ Q 1 s1 f)) := h
  refine g_aload_n C d_LA_about_0 rfl 2 rfl ?_
  refine g_iconst C 0 d_LA_about_1 (by decide) ?_
  refine g_aload_n C d_LA_about_2 rfl 0 rfl ?_
  refine g_iload_n C d_LA_about_3 rfl 1 rfl ?_
  refine g_callVc C hX (rest := [.int 0, .ref (ad 21)]) (wr := [(ad 21, .inl (X.2.2.2, 1, .inr (.inl f)))]) [0, 1, 2, 3, 4, 5, 6, 7, 8, 9, 10, 11, 12, 13, 14, 15, 16, 17, 18, 19, 20] [21] rfl rfl rfl rfl (by decide) 0 (fun l hl => m_SpillQueue_about X ad a1 s _ _ h l hl) rfl rfl (gt 690 (by decide +kernel) rfl) cb_SQ_about ⟨rfl, rfl⟩ (by rw [hRm]; decide) (by rw [hRm]; decide) rfl rfl (Nat.le_of_ble_eq_true rfl) d_LA_about_4 ?_ ?_
  · rintro ec u ⟨k, s1, rfl, rfl, h⟩
    obtain ⟨rfl, h⟩ := h
    refine ⟨12, ⟨[], ⟨0, 9, 12, 45⟩, [], rfl, (fun z hz => absurd hz List.not_mem_nil), rfl, by decide, (gt 664 (by decide +kernel) rfl), (gn 672 (by decide +kernel) rfl), rfl⟩, fun q => ?_⟩
    refine g_perm (ws2 := wL ad X s1 f) [1, 2, 3, 4, 5, 6, 7, 8, 9, 10, 11, 12, 13, 14, 15, 16, 17, 18, 19, 20, 21, 0] rfl rfl ?_
    refine g_astore_n C (lv2 := [(0, .ref (ad 0)), (1, .int a1), (2, .ref (ad 21)), (3, .ref q)]) d_LA_about_12 rfl (by decide) rfl ?_
    refine g_iconst C 1 d_LA_about_13 (by decide) ?_
    exact g_iretx r (by decide) (by decide) rfl d_LA_about_14 ⟨_, s1, f, rfl, rfl, h⟩
  · rintro v u ⟨r1, s1, rfl, rfl, h⟩
    refine g_perm (ws2 := wL ad X s1 f) [1, 2, 3, 4, 5, 6, 7, 8, 9, 10, 11, 12, 13, 14, 15, 16, 17, 18, 19, 20, 21, 0] rfl rfl ?_
    show gW X E _ _ _ _ _ [.int r1, .int 0, .ref (ad 21)]
    refine g_i2l C d_LA_about_7 ?_
    refine g_last C 21 2 (ws2 := wL ad X s1 (vp_updL f (0 : Int32).toNatClampNeg r1.toInt64)) rfl rfl vp_in_01 rfl d_LA_about_8 ?_
    refine g_goto C 15 d_LA_about_9 (by decide) ?_
    refine g_iconst C 0 d_LA_about_15 (by decide) ?_
    exact g_iretx r (by decide) (by decide) rfl d_LA_about_16 ⟨_, s1, (vp_updL f (0 : Int32).toNatClampNeg r1.toInt64), rfl, rfl, h⟩
def wp_L_word (a1 : Int32) (a2 : Int32) (s : gS) (f : Nat → Int64) (Q : Int32 → gS → (Nat → Int64) → Prop) : Prop := wp_SpillQueue_word a1 a2 s (fun r s1 => Q 0 s1 (vp_updL f (0 : Int32).toNatClampNeg r.toInt64)) (fun k s1 => (k = 2 ∧ Q 1 s1 f))
def rm_L_word : Room := { frames := 8, cells := 1, slots := 6, locals := 126 }
set_option maxHeartbeats 4000000 in
set_option maxRecDepth 100000 in
theorem m_L_word (X : gX) (ad : Nat → Nat) (a1 : Int32) (a2 : Int32) (s : gS) (f : Nat → Int64) (Q : Int32 → gS → (Nat → Int64) → Prop) (h : wp_L_word a1 a2 s f Q) (l : Launch) (hl : l.stackTraces = false) : gMw l X y_LA_word b_LA_word 5 (some .int) [(0, 10, 13, 45)] rm_L_word 1 6 [.ref (ad 0), .int a1, .int a2, .ref (ad 21)] (wL ad X s f) (gBw (wL ad X) Q) := by
  refine gMw_of (lv0 := [(0, .ref (ad 0)), (1, .int a1), (2, .int a2), (3, .ref (ad 21))]) hl (by decide +kernel) rfl (Nat.le_of_ble_eq_true rfl) rfl (fun E C hRm r hX => ?_)
  have h : wp_SpillQueue_word a1 a2 s (fun r s1 => Q 0 s1 (vp_updL f (0 : Int32).toNatClampNeg r.toInt64)) (fun k s1 => (k = 2 ∧ Q 1 s1 f)) := h
  refine g_aload_n C d_LA_word_0 rfl 3 rfl ?_
  refine g_iconst C 0 d_LA_word_1 (by decide) ?_
  refine g_aload_n C d_LA_word_2 rfl 0 rfl ?_
  refine g_iload_n C d_LA_word_3 rfl 1 rfl ?_
  refine g_iload_n C d_LA_word_4 rfl 2 rfl ?_
  refine g_callVc C hX (rest := [.int 0, .ref (ad 21)]) (wr := [(ad 21, .inl (X.2.2.2, 1, .inr (.inl f)))]) [0, 1, 2, 3, 4, 5, 6, 7, 8, 9, 10, 11, 12, 13, 14, 15, 16, 17, 18, 19, 20] [21] rfl rfl rfl rfl (by decide) 0 (fun l hl => m_SpillQueue_word X ad a1 a2 s _ _ h l hl) rfl rfl (gt 698 (by decide +kernel) rfl) cb_SQ_word ⟨rfl, rfl⟩ (by rw [hRm]; decide) (by rw [hRm]; decide) rfl rfl (Nat.le_of_ble_eq_true rfl) d_LA_word_5 ?_ ?_
  · rintro ec u ⟨k, s1, rfl, rfl, h⟩
    obtain ⟨rfl, h⟩ := h
    refine ⟨13, ⟨[], ⟨0, 10, 13, 45⟩, [], rfl, (fun z hz => absurd hz List.not_mem_nil), rfl, by decide, (gt 664 (by decide +kernel) rfl), (gn 672 (by decide +kernel) rfl), rfl⟩, fun q => ?_⟩
    refine g_perm (ws2 := wL ad X s1 f) [1, 2, 3, 4, 5, 6, 7, 8, 9, 10, 11, 12, 13, 14, 15, 16, 17, 18, 19, 20, 21, 0] rfl rfl ?_
    refine g_astore C (lv2 := [(0, .ref (ad 0)), (1, .int a1), (2, .int a2), (3, .ref (ad 21)), (4, .ref q)]) d_LA_word_13 (by decide) rfl ?_
    refine g_iconst C 1 d_LA_word_15 (by decide) ?_
    exact g_iretx r (by decide) (by decide) rfl d_LA_word_16 ⟨_, s1, f, rfl, rfl, h⟩
  · rintro v u ⟨r1, s1, rfl, rfl, h⟩
    refine g_perm (ws2 := wL ad X s1 f) [1, 2, 3, 4, 5, 6, 7, 8, 9, 10, 11, 12, 13, 14, 15, 16, 17, 18, 19, 20, 21, 0] rfl rfl ?_
    show gW X E _ _ _ _ _ [.int r1, .int 0, .ref (ad 21)]
    refine g_i2l C d_LA_word_8 ?_
    refine g_last C 21 2 (ws2 := wL ad X s1 (vp_updL f (0 : Int32).toNatClampNeg r1.toInt64)) rfl rfl vp_in_01 rfl d_LA_word_9 ?_
    refine g_goto C 17 d_LA_word_10 (by decide) ?_
    refine g_iconst C 0 d_LA_word_17 (by decide) ?_
    exact g_iretx r (by decide) (by decide) rfl d_LA_word_18 ⟨_, s1, (vp_updL f (0 : Int32).toNatClampNeg r1.toInt64), rfl, rfl, h⟩
def wp_L_spoil (a1 : Int32) (a2 : Int32) (a3 : Int32) (s : gS) (f : Nat → Int64) (Q : Int32 → gS → (Nat → Int64) → Prop) : Prop := wp_SpillQueue_spoil a1 a2 a3 s (fun s1 => Q 0 s1 f) (fun k s1 => (k = 0 ∧ Q 1 s1 f) ∨ (k = 2 ∧ Q 2 s1 f))
def rm_L_spoil : Room := { frames := 8, cells := 1, slots := 6, locals := 127 }
set_option maxHeartbeats 4000000 in
set_option maxRecDepth 100000 in
theorem m_L_spoil (X : gX) (ad : Nat → Nat) (a1 : Int32) (a2 : Int32) (a3 : Int32) (s : gS) (f : Nat → Int64) (Q : Int32 → gS → (Nat → Int64) → Prop) (h : wp_L_spoil a1 a2 a3 s f Q) (l : Launch) (hl : l.stackTraces = false) : gMw l X y_LA_spoil b_LA_spoil 5 (some .int) [(0, 7, 10, 19), (0, 7, 14, 45)] rm_L_spoil 1 6 [.ref (ad 0), .int a1, .int a2, .int a3] (wL ad X s f) (gBw (wL ad X) Q) := by
  refine gMw_of (lv0 := [(0, .ref (ad 0)), (1, .int a1), (2, .int a2), (3, .int a3)]) hl (by decide +kernel) rfl (Nat.le_of_ble_eq_true rfl) rfl (fun E C hRm r hX => ?_)
  have h : wp_SpillQueue_spoil a1 a2 a3 s (fun s1 => Q 0 s1 f) (fun k s1 => (k = 0 ∧ Q 1 s1 f) ∨ (k = 2 ∧ Q 2 s1 f)) := h
  refine g_aload_n C d_LA_spoil_0 rfl 0 rfl ?_
  refine g_iload_n C d_LA_spoil_1 rfl 1 rfl ?_
  refine g_iload_n C d_LA_spoil_2 rfl 2 rfl ?_
  refine g_iload_n C d_LA_spoil_3 rfl 3 rfl ?_
  refine g_callVc C hX (rest := []) (wr := [(ad 21, .inl (X.2.2.2, 1, .inr (.inl f)))]) [0, 1, 2, 3, 4, 5, 6, 7, 8, 9, 10, 11, 12, 13, 14, 15, 16, 17, 18, 19, 20] [21] rfl rfl rfl rfl (by decide) 0 (fun l hl => m_SpillQueue_spoil X ad a1 a2 a3 s _ _ h l hl) rfl rfl (gt 715 (by decide +kernel) rfl) cb_SQ_spoil ⟨rfl, rfl⟩ (by rw [hRm]; decide) (by rw [hRm]; decide) rfl rfl (Nat.le_of_ble_eq_true rfl) d_LA_spoil_4 ?_ ?_
  · rintro ec u ⟨k, s1, rfl, rfl, h⟩
    rcases h with ⟨rfl, h⟩ | ⟨rfl, h⟩
    · refine ⟨10, ⟨[], ⟨0, 7, 10, 19⟩, [⟨0, 7, 14, 45⟩], rfl, (fun z hz => absurd hz List.not_mem_nil), rfl, by decide, (gt 416 (by decide +kernel) rfl), (gn 427 (by decide +kernel) rfl), rfl⟩, fun q => ?_⟩
      refine g_perm (ws2 := wL ad X s1 f) [1, 2, 3, 4, 5, 6, 7, 8, 9, 10, 11, 12, 13, 14, 15, 16, 17, 18, 19, 20, 21, 0] rfl rfl ?_
      refine g_astore C (lv2 := [(0, .ref (ad 0)), (1, .int a1), (2, .int a2), (3, .int a3), (4, .ref q)]) d_LA_spoil_10 (by decide) rfl ?_
      refine g_iconst C 1 d_LA_spoil_12 (by decide) ?_
      exact g_iretx r (by decide) (by decide) rfl d_LA_spoil_13 ⟨_, s1, f, rfl, rfl, h⟩
    · refine ⟨14, ⟨[⟨0, 7, 10, 19⟩], ⟨0, 7, 14, 45⟩, [], rfl, (fun z hz => by cases List.mem_singleton.mp hz; exact Or.inr ⟨by decide, "java/lang/IllegalStateException", (gt 416 (by decide +kernel) rfl), gm 1 rfl⟩), rfl, by decide, (gt 664 (by decide +kernel) rfl), (gn 672 (by decide +kernel) rfl), rfl⟩, fun q => ?_⟩
      refine g_perm (ws2 := wL ad X s1 f) [1, 2, 3, 4, 5, 6, 7, 8, 9, 10, 11, 12, 13, 14, 15, 16, 17, 18, 19, 20, 21, 0] rfl rfl ?_
      refine g_astore C (lv2 := [(0, .ref (ad 0)), (1, .int a1), (2, .int a2), (3, .int a3), (4, .ref q)]) d_LA_spoil_14 (by decide) rfl ?_
      refine g_iconst C 2 d_LA_spoil_16 (by decide) ?_
      exact g_iretx r (by decide) (by decide) rfl d_LA_spoil_17 ⟨_, s1, f, rfl, rfl, h⟩
  · rintro v u ⟨s1, rfl, rfl, h⟩
    refine g_perm (ws2 := wL ad X s1 f) [1, 2, 3, 4, 5, 6, 7, 8, 9, 10, 11, 12, 13, 14, 15, 16, 17, 18, 19, 20, 21, 0] rfl rfl ?_
    show gW X E _ _ _ _ _ []
    refine g_goto C 18 d_LA_spoil_7 (by decide) ?_
    refine g_iconst C 0 d_LA_spoil_18 (by decide) ?_
    exact g_iretx r (by decide) (by decide) rfl d_LA_spoil_19 ⟨_, s1, f, rfl, rfl, h⟩
