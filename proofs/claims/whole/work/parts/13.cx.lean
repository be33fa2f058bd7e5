def rm_SpillQueue_format : Room := { frames := 6, cells := 1, slots := 6, locals := 89 }
def wp_SpillQueue_format (a1 : Int32) (a2 : Int32) (a3 : Int32) (a4 : Int32) (s : gS) (Q : gS → Prop) (XQ : Nat → gS → Prop) : Prop := ((a1 < 4 → XQ 1 s) ∧ (¬ a1 < 4 → ((a1 ≤ 200 → ((a2 < 11 → XQ 1 s) ∧ (¬ a2 < 11 → ((a2 ≤ 40 → ((a3 < 1 → XQ 1 s) ∧ (¬ a3 < 1 → ((a3 ≤ 100 → ((a4 < 2 → XQ 1 s) ∧ (¬ a4 < 2 → ((a4 ≤ 5 → wp_SpillQueue_powerOff s (fun s9 => wp_Disk_renew a1 a2 s9 (fun s11 => wp_SpillQueue_writeNextEpoch (up (up (up s11.1 8 (a3)) 0 (a4)) 2 (1), s11.2) (fun r14 s13 => Q s13)))) ∧ (¬ a4 ≤ 5 → XQ 1 s))))) ∧ (¬ a3 ≤ 100 → XQ 1 s))))) ∧ (¬ a2 ≤ 40 → XQ 1 s))))) ∧ (¬ a1 ≤ 200 → XQ 1 s))))
set_option maxHeartbeats 4000000 in
set_option maxRecDepth 100000 in
theorem w_SpillQueue_format (X : gX) (ad : Nat → Nat) (a1 : Int32) (a2 : Int32) (a3 : Int32) (a4 : Int32) (s : gS) (Q : gS → Prop) (XQ : Nat → gS → Prop) (h : wp_SpillQueue_format a1 a2 a3 a4 s Q XQ) (E : gE) (sz : Nat) (C : gC X E b_SQ_format 5 R_SQ) (hRm : gRm E = rm_SpillQueue_format) (r : gRx X E b_SQ_format none (gBv (wC ad X) Q) 1 6) (hX : gQx X E (wC ad X s) (gBv (wC ad X) Q) (gBx (wC ad X) XQ) 1 6 sz) : gW X E 0 0 (wC ad X s) [(0, .ref (ad 0)), (1, .int a1), (2, .int a2), (3, .int a3), (4, .int a4)] 0 [] := by
  have h : ((a1 < 4 → XQ 1 s) ∧ (¬ a1 < 4 → ((a1 ≤ 200 → ((a2 < 11 → XQ 1 s) ∧ (¬ a2 < 11 → ((a2 ≤ 40 → ((a3 < 1 → XQ 1 s) ∧ (¬ a3 < 1 → ((a3 ≤ 100 → ((a4 < 2 → XQ 1 s) ∧ (¬ a4 < 2 → ((a4 ≤ 5 → wp_SpillQueue_powerOff s (fun s9 => wp_Disk_renew a1 a2 s9 (fun s11 => wp_SpillQueue_writeNextEpoch (up (up (up s11.1 8 (a3)) 0 (a4)) 2 (1), s11.2) (fun r14 s13 => Q s13)))) ∧ (¬ a4 ≤ 5 → XQ 1 s))))) ∧ (¬ a3 ≤ 100 → XQ 1 s))))) ∧ (¬ a2 ≤ 40 → XQ 1 s))))) ∧ (¬ a1 ≤ 200 → XQ 1 s)))) := h
  refine g_iload_n C d_SQ_format_0 rfl 1 rfl ?_
  refine g_iconst C 4 d_SQ_format_1 (by decide) ?_
  refine g_icmp_lt C 12 d_SQ_format_2 (by decide) (fun c1 => ?_) (fun c1 => ?_)
  · have h := h.1 c1
    exact g_throw C hX (text := "blocks are 4 .. 200") gExN (by decide +kernel) (by decide +kernel) (gt 280 (by decide +kernel) rfl) (gt 98 (by decide +kernel) rfl) (gm 0 rfl) at_1 got_1 d_SQ_format_12 d_SQ_format_15 d_SQ_format_16 d_SQ_format_18 d_SQ_format_21 (by rw [hRm]; decide) (by decide) (gBx_mk 1 h)
  · have h := h.2 c1
    refine g_iload_n C d_SQ_format_5 rfl 1 rfl ?_
    refine g_sipush C 200 d_SQ_format_6 (by decide) ?_
    refine g_icmp_le C 22 d_SQ_format_9 (by decide) (fun c2 => ?_) (fun c2 => ?_)
    · have h := h.1 c2
      refine g_iload_n C d_SQ_format_22 rfl 2 rfl ?_
      refine g_bipush C 11 d_SQ_format_23 (by decide) ?_
      refine g_icmp_lt C 34 d_SQ_format_25 (by decide) (fun c3 => ?_) (fun c3 => ?_)
      · have h := h.1 c3
        exact g_throw C hX (text := "words are 11 .. 40") gExN (by decide +kernel) (by decide +kernel) (gt 280 (by decide +kernel) rfl) (gt 98 (by decide +kernel) rfl) (gm 1 rfl) at_1 got_1 d_SQ_format_34 d_SQ_format_37 d_SQ_format_38 d_SQ_format_40 d_SQ_format_43 (by rw [hRm]; decide) (by decide) (gBx_mk 1 h)
      · have h := h.2 c3
        refine g_iload_n C d_SQ_format_28 rfl 2 rfl ?_
        refine g_bipush C 40 d_SQ_format_29 (by decide) ?_
        refine g_icmp_le C 44 d_SQ_format_31 (by decide) (fun c4 => ?_) (fun c4 => ?_)
        · have h := h.1 c4
          refine g_iload_n C d_SQ_format_44 rfl 3 rfl ?_
          refine g_iconst C 1 d_SQ_format_45 (by decide) ?_
          refine g_icmp_lt C 55 d_SQ_format_46 (by decide) (fun c5 => ?_) (fun c5 => ?_)
          · have h := h.1 c5
            exact g_throw C hX (text := "mem is 1 .. 100") gExN (by decide +kernel) (by decide +kernel) (gt 280 (by decide +kernel) rfl) (gt 98 (by decide +kernel) rfl) (gm 2 rfl) at_1 got_1 d_SQ_format_55 d_SQ_format_58 d_SQ_format_59 d_SQ_format_61 d_SQ_format_64 (by rw [hRm]; decide) (by decide) (gBx_mk 1 h)
          · have h := h.2 c5
            refine g_iload_n C d_SQ_format_49 rfl 3 rfl ?_
            refine g_bipush C 100 d_SQ_format_50 (by decide) ?_
            refine g_icmp_le C 65 d_SQ_format_52 (by decide) (fun c6 => ?_) (fun c6 => ?_)
            · have h := h.1 c6
              refine g_iload C d_SQ_format_65 4 rfl ?_
              refine g_iconst C 2 d_SQ_format_67 (by decide) ?_
              refine g_icmp_lt C 77 d_SQ_format_68 (by decide) (fun c7 => ?_) (fun c7 => ?_)
              · have h := h.1 c7
                exact g_throw C hX (text := "fan is 2 .. 5") gExN (by decide +kernel) (by decide +kernel) (gt 280 (by decide +kernel) rfl) (gt 98 (by decide +kernel) rfl) (gm 3 rfl) at_1 got_1 d_SQ_format_77 d_SQ_format_80 d_SQ_format_81 d_SQ_format_83 d_SQ_format_86 (by rw [hRm]; decide) (by decide) (gBx_mk 1 h)
              · have h := h.2 c7
                refine g_iload C d_SQ_format_71 4 rfl ?_
                refine g_iconst C 5 d_SQ_format_73 (by decide) ?_
                refine g_icmp_le C 87 d_SQ_format_74 (by decide) (fun c8 => ?_) (fun c8 => ?_)
                · have h := h.1 c8
                  refine g_aload_n C d_SQ_format_87 rfl 0 rfl ?_
                  refine g_callV C (rest := []) 0 (fun l => m_SpillQueue_powerOff X ad  s _ h l) rfl rfl (gt 351 (by decide +kernel) rfl) cb_SQ_powerOff ⟨rfl, rfl⟩ (by rw [hRm]; decide) (by rw [hRm]; decide) rfl rfl (Nat.le_of_ble_eq_true rfl) d_SQ_format_88 (gkv (fun s9 h => ?_))
                  refine g_aload_n C d_SQ_format_91 rfl 0 rfl ?_
                  refine g_get C (v := .ref (ad 1)) 0 0 iw_SQ rfl rfl (by decide) (gt 229 (by decide +kernel) rfl) rfl rfl d_SQ_format_92 ?_
                  refine g_iload_n C d_SQ_format_95 rfl 1 rfl ?_
                  refine g_iload_n C d_SQ_format_96 rfl 2 rfl ?_
                  refine g_callVN (host := "SpillQueue") C (rest := []) 1 (fun l => m_Disk_renew X ad a1 a2 s9 _ h l) rfl rfl (gn 367 (by decide +kernel) rfl) cb_DK_renew ⟨rfl, rfl⟩ (by rw [hRm]; decide) (by rw [hRm]; decide) rfl rfl (Nat.le_of_ble_eq_true rfl) d_SQ_format_97 (gkv (fun s11 h => ?_))
                  refine g_aload_n C d_SQ_format_100 rfl 0 rfl ?_
                  refine g_get C (v := .ref (ad 4)) 0 1 iw_SQ rfl rfl (by decide) (gt 230 (by decide +kernel) rfl) rfl rfl d_SQ_format_101 ?_
                  refine g_iload_n C d_SQ_format_104 rfl 3 rfl ?_
                  refine g_putN (host := "SpillQueue") C (ws2 := wC ad X (up s11.1 8 (a3), s11.2)) 4 2 iw_ME ty_ME tyok_ME nm_ME rfl rfl (by decide) (gn 153 (by decide +kernel) rfl) rfl rfl rfl rfl (Nat.le_of_ble_eq_true rfl) rfl d_SQ_format_105 ?_
                  refine g_aload_n C d_SQ_format_108 rfl 0 rfl ?_
                  refine g_iload C d_SQ_format_109 4 rfl ?_
                  refine g_put C (ws2 := wC ad X (up (up s11.1 8 (a3)) 0 (a4), s11.2)) 0 7 iw_SQ ty_SQ tyok_SQ nm_SQ rfl rfl (by decide) (gt 236 (by decide +kernel) rfl) rfl rfl rfl rfl (Nat.le_of_ble_eq_true rfl) rfl d_SQ_format_111 ?_
                  refine g_aload_n C d_SQ_format_114 rfl 0 rfl ?_
                  refine g_iconst C 1 d_SQ_format_115 (by decide) ?_
                  refine g_put C (ws2 := wC ad X (up (up (up s11.1 8 (a3)) 0 (a4)) 2 (1), s11.2)) 0 9 iw_SQ ty_SQ tyok_SQ nm_SQ rfl rfl (by decide) (gt 238 (by decide +kernel) rfl) rfl rfl (by decide +kernel) (by decide +kernel) (Nat.le_of_ble_eq_true rfl) rfl d_SQ_format_116 ?_
                  refine g_aload_n C d_SQ_format_119 rfl 0 rfl ?_
                  refine g_callV C (rest := []) 0 (fun l => m_SpillQueue_writeNextEpoch X ad  (up (up (up s11.1 8 (a3)) 0 (a4)) 2 (1), s11.2) _ h l) rfl rfl (gt 374 (by decide +kernel) rfl) cb_SQ_writeNextEpoch ⟨rfl, rfl⟩ (by rw [hRm]; decide) (by rw [hRm]; decide) rfl rfl (Nat.le_of_ble_eq_true rfl) d_SQ_format_120 (gki (fun r14 s13 h => ?_))
                  refine g_pop C rfl d_SQ_format_123 ?_
                  exact g_vretx r (by decide) (by decide) d_SQ_format_124 (gBv_mk h)
                · have h := h.2 c8
                  exact g_throw C hX (text := "fan is 2 .. 5") gExN (by decide +kernel) (by decide +kernel) (gt 280 (by decide +kernel) rfl) (gt 98 (by decide +kernel) rfl) (gm 3 rfl) at_1 got_1 d_SQ_format_77 d_SQ_format_80 d_SQ_format_81 d_SQ_format_83 d_SQ_format_86 (by rw [hRm]; decide) (by decide) (gBx_mk 1 h)
            · have h := h.2 c6
              exact g_throw C hX (text := "mem is 1 .. 100") gExN (by decide +kernel) (by decide +kernel) (gt 280 (by decide +kernel) rfl) (gt 98 (by decide +kernel) rfl) (gm 2 rfl) at_1 got_1 d_SQ_format_55 d_SQ_format_58 d_SQ_format_59 d_SQ_format_61 d_SQ_format_64 (by rw [hRm]; decide) (by decide) (gBx_mk 1 h)
        · have h := h.2 c4
          exact g_throw C hX (text := "words are 11 .. 40") gExN (by decide +kernel) (by decide +kernel) (gt 280 (by decide +kernel) rfl) (gt 98 (by decide +kernel) rfl) (gm 1 rfl) at_1 got_1 d_SQ_format_34 d_SQ_format_37 d_SQ_format_38 d_SQ_format_40 d_SQ_format_43 (by rw [hRm]; decide) (by decide) (gBx_mk 1 h)
    · have h := h.2 c2
      exact g_throw C hX (text := "blocks are 4 .. 200") gExN (by decide +kernel) (by decide +kernel) (gt 280 (by decide +kernel) rfl) (gt 98 (by decide +kernel) rfl) (gm 0 rfl) at_1 got_1 d_SQ_format_12 d_SQ_format_15 d_SQ_format_16 d_SQ_format_18 d_SQ_format_21 (by rw [hRm]; decide) (by decide) (gBx_mk 1 h)
theorem m_SpillQueue_format (X : gX) (ad : Nat → Nat) (a1 : Int32) (a2 : Int32) (a3 : Int32) (a4 : Int32) (s : gS) (Q : gS → Prop) (XQ : Nat → gS → Prop) (h : wp_SpillQueue_format a1 a2 a3 a4 s Q XQ) (l : Launch) (hl : l.stackTraces = false) : gMX l X y_SQ_format b_SQ_format 5 none rm_SpillQueue_format 1 6 [.ref (ad 0), .int a1, .int a2, .int a3, .int a4] (wC ad X s) (gBv (wC ad X) Q) (gBx (wC ad X) XQ) :=
  gMX_of hl (by decide +kernel) rfl (Nat.le_of_ble_eq_true rfl) rfl (by decide) (fun E sz C hRm r hX => w_SpillQueue_format X ad a1 a2 a3 a4 s Q XQ h E sz C hRm r hX)
def rm_SpillQueue_requireLive : Room := { frames := 6, cells := 1, slots := 6, locals := 82 }
def wp_SpillQueue_requireLive (s : gS) (Q : gS → Prop) (XQ : Nat → gS → Prop) : Prop := ((¬ (s.1 2) = 0 → Q s) ∧ ((s.1 2) = 0 → XQ 0 s))
set_option maxHeartbeats 4000000 in
set_option maxRecDepth 100000 in
theorem w_SpillQueue_requireLive (X : gX) (ad : Nat → Nat) (s : gS) (Q : gS → Prop) (XQ : Nat → gS → Prop) (h : wp_SpillQueue_requireLive  s Q XQ) (E : gE) (sz : Nat) (C : gC X E b_SQ_requireLive 1 R_SQ) (hRm : gRm E = rm_SpillQueue_requireLive) (r : gRx X E b_SQ_requireLive none (gBv (wC ad X) Q) 1 6) (hX : gQx X E (wC ad X s) (gBv (wC ad X) Q) (gBx (wC ad X) XQ) 1 6 sz) : gW X E 0 0 (wC ad X s) [(0, .ref (ad 0))] 0 [] := by
  have h : ((¬ (s.1 2) = 0 → Q s) ∧ ((s.1 2) = 0 → XQ 0 s)) := h
  refine g_aload_n C d_SQ_requireLive_0 rfl 0 rfl ?_
  refine g_get C (v := .int (s.1 2)) 0 9 iw_SQ rfl rfl (by decide) (gt 238 (by decide +kernel) rfl) rfl rfl d_SQ_requireLive_1 ?_
  refine g_if_ne C 17 d_SQ_requireLive_4 (by decide) (fun c1 => ?_) (fun c1 => ?_)
  · have h := h.1 c1
    exact g_vretx r (by decide) (by decide) d_SQ_requireLive_17 (gBv_mk h)
  · have h := h.2 c1
    exact g_throw C hX (text := "the queue is dead") gExN (by decide +kernel) (by decide +kernel) (gt 425 (by decide +kernel) rfl) (gt 101 (by decide +kernel) rfl) (gm 10 rfl) at_0 got_0 d_SQ_requireLive_7 d_SQ_requireLive_10 d_SQ_requireLive_11 d_SQ_requireLive_13 d_SQ_requireLive_16 (by rw [hRm]; decide) (by decide) (gBx_mk 0 h)
theorem m_SpillQueue_requireLive (X : gX) (ad : Nat → Nat) (s : gS) (Q : gS → Prop) (XQ : Nat → gS → Prop) (h : wp_SpillQueue_requireLive  s Q XQ) (l : Launch) (hl : l.stackTraces = false) : gMX l X y_SQ_requireLive b_SQ_requireLive 1 none rm_SpillQueue_requireLive 1 6 [.ref (ad 0)] (wC ad X s) (gBv (wC ad X) Q) (gBx (wC ad X) XQ) :=
  gMX_of hl (by decide +kernel) rfl (Nat.le_of_ble_eq_true rfl) rfl (by decide) (fun E sz C hRm r hX => w_SpillQueue_requireLive X ad  s Q XQ h E sz C hRm r hX)
def rm_SpillQueue_insert : Room := { frames := 7, cells := 2, slots := 12, locals := 141 }
def wp_SpillQueue_insert (a1 : Int32) (s : gS) (Q : Int32 → gS → Prop) (XQ : Nat → gS → Prop) : Prop := wp_SpillQueue_requireLive s (fun s1 => ((0 ≤ a1 → wp_Memory_isFull s1 (fun r5 s4 => ((r5 = 0 → wp_Memory_add a1 s4 (fun s7 => Q 0 s7)) ∧ (¬ r5 = 0 → wp_SpillQueue_spill s4 (fun r10 s9 => ((r10 = 0 → wp_Memory_add a1 s9 (fun s12 => Q 0 s12)) ∧ (¬ r10 = 0 → Q r10 s9))))))) ∧ (¬ 0 ≤ a1 → XQ 1 s1))) XQ
set_option maxHeartbeats 4000000 in
set_option maxRecDepth 100000 in
theorem w_SpillQueue_insert (X : gX) (ad : Nat → Nat) (a1 : Int32) (s : gS) (Q : Int32 → gS → Prop) (XQ : Nat → gS → Prop) (h : wp_SpillQueue_insert a1 s Q XQ) (E : gE) (sz : Nat) (C : gC X E b_SQ_insert 3 R_SQ) (hRm : gRm E = rm_SpillQueue_insert) (r : gRx X E b_SQ_insert (some .int) (gBi (wC ad X) Q) 2 12) (hX : gQx X E (wC ad X s) (gBi (wC ad X) Q) (gBx (wC ad X) XQ) 2 12 sz) : gW X E 0 0 (wC ad X s) [(0, .ref (ad 0)), (1, .int a1)] 0 [] := by
  have h : wp_SpillQueue_requireLive s (fun s1 => ((0 ≤ a1 → wp_Memory_isFull s1 (fun r5 s4 => ((r5 = 0 → wp_Memory_add a1 s4 (fun s7 => Q 0 s7)) ∧ (¬ r5 = 0 → wp_SpillQueue_spill s4 (fun r10 s9 => ((r10 = 0 → wp_Memory_add a1 s9 (fun s12 => Q 0 s12)) ∧ (¬ r10 = 0 → Q r10 s9))))))) ∧ (¬ 0 ≤ a1 → XQ 1 s1))) XQ := h
  refine g_aload_n C d_SQ_insert_0 rfl 0 rfl ?_
  refine g_callVx C hX (rest := []) 0 (fun l hl => m_SpillQueue_requireLive X ad  s _ _ h l hl) rfl rfl (gt 421 (by decide +kernel) rfl) cb_SQ_requireLive ⟨rfl, rfl⟩ (by rw [hRm]; decide) (by decide) rfl rfl (Nat.le_of_ble_eq_true rfl) d_SQ_insert_1 (fun _ _ h => h) (gkv (fun s1 h => ?_))
  refine g_iload_n C d_SQ_insert_4 rfl 1 rfl ?_
  refine g_if_ge C 18 d_SQ_insert_5 (by decide) (fun c3 => ?_) (fun c3 => ?_)
  · have h := h.1 c3
    refine g_aload_n C d_SQ_insert_18 rfl 0 rfl ?_
    refine g_get C (v := .ref (ad 4)) 0 1 iw_SQ rfl rfl (by decide) (gt 230 (by decide +kernel) rfl) rfl rfl d_SQ_insert_19 ?_
    refine g_callVN (host := "SpillQueue") C (rest := []) 4 (fun l => m_Memory_isFull X ad  s1 _ h l) rfl rfl (gn 442 (by decide +kernel) rfl) cb_ME_isFull ⟨rfl, rfl⟩ (by rw [hRm]; decide) (by rw [hRm]; decide) rfl rfl (Nat.le_of_ble_eq_true rfl) d_SQ_insert_22 (gki (fun r5 s4 h => ?_))
    refine g_if_eq C 39 d_SQ_insert_25 (by decide) (fun c6 => ?_) (fun c6 => ?_)
    · have h := h.1 c6
      refine g_aload_n C d_SQ_insert_39 rfl 0 rfl ?_
      refine g_get C (v := .ref (ad 4)) 0 1 iw_SQ rfl rfl (by decide) (gt 230 (by decide +kernel) rfl) rfl rfl d_SQ_insert_40 ?_
      refine g_iload_n C d_SQ_insert_43 rfl 1 rfl ?_
      refine g_callVN (host := "SpillQueue") C (rest := []) 4 (fun l => m_Memory_add X ad a1 s4 _ h l) rfl rfl (gn 554 (by decide +kernel) rfl) cb_ME_add ⟨rfl, rfl⟩ (by rw [hRm]; decide) (by rw [hRm]; decide) rfl rfl (Nat.le_of_ble_eq_true rfl) d_SQ_insert_44 (gkv (fun s7 h => ?_))
      refine g_iconst C 0 d_SQ_insert_47 (by decide) ?_
      exact g_iretx r (by decide) (by decide) rfl d_SQ_insert_48 (gBi_mk h)
    · have h := h.2 c6
      refine g_aload_n C d_SQ_insert_28 rfl 0 rfl ?_
      refine g_callV C (rest := []) 0 (fun l => m_SpillQueue_spill X ad  s4 _ h l) rfl rfl (gt 446 (by decide +kernel) rfl) cb_SQ_spill ⟨rfl, rfl⟩ (by rw [hRm]; decide) (by rw [hRm]; decide) rfl rfl (Nat.le_of_ble_eq_true rfl) d_SQ_insert_29 (gki (fun r10 s9 h => ?_))
      refine g_istore_n C (lv2 := [(0, .ref (ad 0)), (1, .int a1), (2, .int r10)]) d_SQ_insert_32 rfl (by decide) rfl ?_
      refine g_iload_n C d_SQ_insert_33 rfl 2 rfl ?_
      refine g_if_eq C 39 d_SQ_insert_34 (by decide) (fun c11 => ?_) (fun c11 => ?_)
      · have h := h.1 c11
        refine g_aload_n C d_SQ_insert_39 rfl 0 rfl ?_
        refine g_get C (v := .ref (ad 4)) 0 1 iw_SQ rfl rfl (by decide) (gt 230 (by decide +kernel) rfl) rfl rfl d_SQ_insert_40 ?_
        refine g_iload_n C d_SQ_insert_43 rfl 1 rfl ?_
        refine g_callVN (host := "SpillQueue") C (rest := []) 4 (fun l => m_Memory_add X ad a1 s9 _ h l) rfl rfl (gn 554 (by decide +kernel) rfl) cb_ME_add ⟨rfl, rfl⟩ (by rw [hRm]; decide) (by rw [hRm]; decide) rfl rfl (Nat.le_of_ble_eq_true rfl) d_SQ_insert_44 (gkv (fun s12 h => ?_))
        refine g_iconst C 0 d_SQ_insert_47 (by decide) ?_
        exact g_iretx r (by decide) (by decide) rfl d_SQ_insert_48 (gBi_mk h)
      · have h := h.2 c11
        refine g_iload_n C d_SQ_insert_37 rfl 2 rfl ?_
        exact g_iretx r (by decide) (by decide) rfl d_SQ_insert_38 (gBi_mk h)
  · have h := h.2 c3
    exact g_throw C hX (text := "a key is 0 or more") gExN (by decide +kernel) (by decide +kernel) (gt 280 (by decide +kernel) rfl) (gt 98 (by decide +kernel) rfl) (gm 4 rfl) at_1 got_1 d_SQ_insert_8 d_SQ_insert_11 d_SQ_insert_12 d_SQ_insert_14 d_SQ_insert_17 (by rw [hRm]; decide) (by decide) (gBx_mk 1 h)
theorem m_SpillQueue_insert (X : gX) (ad : Nat → Nat) (a1 : Int32) (s : gS) (Q : Int32 → gS → Prop) (XQ : Nat → gS → Prop) (h : wp_SpillQueue_insert a1 s Q XQ) (l : Launch) (hl : l.stackTraces = false) : gMX l X y_SQ_insert b_SQ_insert 3 (some .int) rm_SpillQueue_insert 2 12 [.ref (ad 0), .int a1] (wC ad X s) (gBi (wC ad X) Q) (gBx (wC ad X) XQ) :=
  gMX_of hl (by decide +kernel) rfl (Nat.le_of_ble_eq_true rfl) rfl (by decide) (fun E sz C hRm r hX => w_SpillQueue_insert X ad a1 s Q XQ h E sz C hRm r hX)
def rm_SpillQueue_min : Room := { frames := 7, cells := 1, slots := 6, locals := 102 }
def wp_SpillQueue_min (s : gS) (Q : Int32 → gS → Prop) (XQ : Nat → gS → Prop) : Prop := wp_SpillQueue_requireLive s (fun s1 => wp_Runs_leastAt 0 s1 (fun r4 s3 => wp_SpillQueue_isLeastInMemory r4 s3 (fun r6 s5 => ((r6 = 0 → wp_Runs_headOf r4 s5 (fun r9 s8 => Q r9 s8)) ∧ (¬ r6 = 0 → wp_Memory_least s5 (fun r11 s10 => Q r11 s10)))))) XQ
set_option maxHeartbeats 4000000 in
set_option maxRecDepth 100000 in
theorem w_SpillQueue_min (X : gX) (ad : Nat → Nat) (s : gS) (Q : Int32 → gS → Prop) (XQ : Nat → gS → Prop) (h : wp_SpillQueue_min  s Q XQ) (E : gE) (sz : Nat) (C : gC X E b_SQ_min 2 R_SQ) (hRm : gRm E = rm_SpillQueue_min) (r : gRx X E b_SQ_min (some .int) (gBi (wC ad X) Q) 1 6) (hX : gQx X E (wC ad X s) (gBi (wC ad X) Q) (gBx (wC ad X) XQ) 1 6 sz) : gW X E 0 0 (wC ad X s) [(0, .ref (ad 0))] 0 [] := by
  have h : wp_SpillQueue_requireLive s (fun s1 => wp_Runs_leastAt 0 s1 (fun r4 s3 => wp_SpillQueue_isLeastInMemory r4 s3 (fun r6 s5 => ((r6 = 0 → wp_Runs_headOf r4 s5 (fun r9 s8 => Q r9 s8)) ∧ (¬ r6 = 0 → wp_Memory_least s5 (fun r11 s10 => Q r11 s10)))))) XQ := h
  refine g_aload_n C d_SQ_min_0 rfl 0 rfl ?_
  refine g_callVx C hX (rest := []) 0 (fun l hl => m_SpillQueue_requireLive X ad  s _ _ h l hl) rfl rfl (gt 421 (by decide +kernel) rfl) cb_SQ_requireLive ⟨rfl, rfl⟩ (by rw [hRm]; decide) (by decide) rfl rfl (Nat.le_of_ble_eq_true rfl) d_SQ_min_1 (fun _ _ h => h) (gkv (fun s1 h => ?_))
  refine g_aload_n C d_SQ_min_4 rfl 0 rfl ?_
  refine g_get C (v := .ref (ad 6)) 0 2 iw_SQ rfl rfl (by decide) (gt 231 (by decide +kernel) rfl) rfl rfl d_SQ_min_5 ?_
  refine g_iconst C 0 d_SQ_min_8 (by decide) ?_
  refine g_callVN (host := "SpillQueue") C (rest := []) 6 (fun l => m_Runs_leastAt X ad 0 s1 _ h l) rfl rfl (gn 565 (by decide +kernel) rfl) cb_RU_leastAt ⟨rfl, rfl⟩ (by rw [hRm]; decide) (by rw [hRm]; decide) rfl rfl (Nat.le_of_ble_eq_true rfl) d_SQ_min_9 (gki (fun r4 s3 h => ?_))
  refine g_istore_n C (lv2 := [(0, .ref (ad 0)), (1, .int r4)]) d_SQ_min_12 rfl (by decide) rfl ?_
  refine g_aload_n C d_SQ_min_13 rfl 0 rfl ?_
  refine g_iload_n C d_SQ_min_14 rfl 1 rfl ?_
  refine g_callV C (rest := []) 0 (fun l => m_SpillQueue_isLeastInMemory X ad r4 s3 _ h l) rfl rfl (gt 566 (by decide +kernel) rfl) cb_SQ_isLeastInMemory ⟨rfl, rfl⟩ (by rw [hRm]; decide) (by rw [hRm]; decide) rfl rfl (Nat.le_of_ble_eq_true rfl) d_SQ_min_15 (gki (fun r6 s5 h => ?_))
  refine g_if_eq C 31 d_SQ_min_18 (by decide) (fun c7 => ?_) (fun c7 => ?_)
  · have h := h.1 c7
    refine g_aload_n C d_SQ_min_31 rfl 0 rfl ?_
    refine g_get C (v := .ref (ad 6)) 0 2 iw_SQ rfl rfl (by decide) (gt 231 (by decide +kernel) rfl) rfl rfl d_SQ_min_32 ?_
    refine g_iload_n C d_SQ_min_35 rfl 1 rfl ?_
    refine g_callVN (host := "SpillQueue") C (rest := []) 6 (fun l => m_Runs_headOf X ad r4 s5 _ h l) rfl rfl (gn 571 (by decide +kernel) rfl) cb_RU_headOf ⟨rfl, rfl⟩ (by rw [hRm]; decide) (by rw [hRm]; decide) rfl rfl (Nat.le_of_ble_eq_true rfl) d_SQ_min_36 (gki (fun r9 s8 h => ?_))
    exact g_iretx r (by decide) (by decide) rfl d_SQ_min_39 (gBi_mk h)
  · have h := h.2 c7
    refine g_aload_n C d_SQ_min_21 rfl 0 rfl ?_
    refine g_get C (v := .ref (ad 4)) 0 1 iw_SQ rfl rfl (by decide) (gt 230 (by decide +kernel) rfl) rfl rfl d_SQ_min_22 ?_
    refine g_callVN (host := "SpillQueue") C (rest := []) 4 (fun l => m_Memory_least X ad  s5 _ h l) rfl rfl (gn 570 (by decide +kernel) rfl) cb_ME_least ⟨rfl, rfl⟩ (by rw [hRm]; decide) (by rw [hRm]; decide) rfl rfl (Nat.le_of_ble_eq_true rfl) d_SQ_min_25 (gki (fun r11 s10 h => ?_))
    refine g_goto C 39 d_SQ_min_28 (by decide) ?_
    exact g_iretx r (by decide) (by decide) rfl d_SQ_min_39 (gBi_mk h)
theorem m_SpillQueue_min (X : gX) (ad : Nat → Nat) (s : gS) (Q : Int32 → gS → Prop) (XQ : Nat → gS → Prop) (h : wp_SpillQueue_min  s Q XQ) (l : Launch) (hl : l.stackTraces = false) : gMX l X y_SQ_min b_SQ_min 2 (some .int) rm_SpillQueue_min 1 6 [.ref (ad 0)] (wC ad X s) (gBi (wC ad X) Q) (gBx (wC ad X) XQ) :=
  gMX_of hl (by decide +kernel) rfl (Nat.le_of_ble_eq_true rfl) rfl (by decide) (fun E sz C hRm r hX => w_SpillQueue_min X ad  s Q XQ h E sz C hRm r hX)
def rm_SpillQueue_take : Room := { frames := 7, cells := 1, slots := 6, locals := 102 }
def wp_SpillQueue_take (s : gS) (Q : Int32 → gS → Prop) (XQ : Nat → gS → Prop) : Prop := wp_SpillQueue_requireLive s (fun s1 => wp_Runs_leastAt 0 s1 (fun r4 s3 => wp_SpillQueue_isLeastInMemory r4 s3 (fun r6 s5 => ((r6 = 0 → wp_Runs_takeFrom r4 s5 (fun r9 s8 => wp_Runs_dropEmpty s8 (fun s10 => Q r9 s10))) ∧ (¬ r6 = 0 → wp_Memory_takeLeast s5 (fun r13 s12 => Q r13 s12)))))) XQ
set_option maxHeartbeats 4000000 in
set_option maxRecDepth 100000 in
theorem w_SpillQueue_take (X : gX) (ad : Nat → Nat) (s : gS) (Q : Int32 → gS → Prop) (XQ : Nat → gS → Prop) (h : wp_SpillQueue_take  s Q XQ) (E : gE) (sz : Nat) (C : gC X E b_SQ_take 3 R_SQ) (hRm : gRm E = rm_SpillQueue_take) (r : gRx X E b_SQ_take (some .int) (gBi (wC ad X) Q) 1 6) (hX : gQx X E (wC ad X s) (gBi (wC ad X) Q) (gBx (wC ad X) XQ) 1 6 sz) : gW X E 0 0 (wC ad X s) [(0, .ref (ad 0))] 0 [] := by
  have h : wp_SpillQueue_requireLive s (fun s1 => wp_Runs_leastAt 0 s1 (fun r4 s3 => wp_SpillQueue_isLeastInMemory r4 s3 (fun r6 s5 => ((r6 = 0 → wp_Runs_takeFrom r4 s5 (fun r9 s8 => wp_Runs_dropEmpty s8 (fun s10 => Q r9 s10))) ∧ (¬ r6 = 0 → wp_Memory_takeLeast s5 (fun r13 s12 => Q r13 s12)))))) XQ := h
  refine g_aload_n C d_SQ_take_0 rfl 0 rfl ?_
  refine g_callVx C hX (rest := []) 0 (fun l hl => m_SpillQueue_requireLive X ad  s _ _ h l hl) rfl rfl (gt 421 (by decide +kernel) rfl) cb_SQ_requireLive ⟨rfl, rfl⟩ (by rw [hRm]; decide) (by decide) rfl rfl (Nat.le_of_ble_eq_true rfl) d_SQ_take_1 (fun _ _ h => h) (gkv (fun s1 h => ?_))
  refine g_aload_n C d_SQ_take_4 rfl 0 rfl ?_
  refine g_get C (v := .ref (ad 6)) 0 2 iw_SQ rfl rfl (by decide) (gt 231 (by decide +kernel) rfl) rfl rfl d_SQ_take_5 ?_
  refine g_iconst C 0 d_SQ_take_8 (by decide) ?_
  refine g_callVN (host := "SpillQueue") C (rest := []) 6 (fun l => m_Runs_leastAt X ad 0 s1 _ h l) rfl rfl (gn 565 (by decide +kernel) rfl) cb_RU_leastAt ⟨rfl, rfl⟩ (by rw [hRm]; decide) (by rw [hRm]; decide) rfl rfl (Nat.le_of_ble_eq_true rfl) d_SQ_take_9 (gki (fun r4 s3 h => ?_))
  refine g_istore_n C (lv2 := [(0, .ref (ad 0)), (1, .int r4)]) d_SQ_take_12 rfl (by decide) rfl ?_
  refine g_aload_n C d_SQ_take_13 rfl 0 rfl ?_
  refine g_iload_n C d_SQ_take_14 rfl 1 rfl ?_
  refine g_callV C (rest := []) 0 (fun l => m_SpillQueue_isLeastInMemory X ad r4 s3 _ h l) rfl rfl (gt 566 (by decide +kernel) rfl) cb_SQ_isLeastInMemory ⟨rfl, rfl⟩ (by rw [hRm]; decide) (by rw [hRm]; decide) rfl rfl (Nat.le_of_ble_eq_true rfl) d_SQ_take_15 (gki (fun r6 s5 h => ?_))
  refine g_if_eq C 29 d_SQ_take_18 (by decide) (fun c7 => ?_) (fun c7 => ?_)
  · have h := h.1 c7
    refine g_aload_n C d_SQ_take_29 rfl 0 rfl ?_
    refine g_get C (v := .ref (ad 6)) 0 2 iw_SQ rfl rfl (by decide) (gt 231 (by decide +kernel) rfl) rfl rfl d_SQ_take_30 ?_
    refine g_iload_n C d_SQ_take_33 rfl 1 rfl ?_
    refine g_callVN (host := "SpillQueue") C (rest := []) 6 (fun l => m_Runs_takeFrom X ad r4 s5 _ h l) rfl rfl (gn 583 (by decide +kernel) rfl) cb_RU_takeFrom ⟨rfl, rfl⟩ (by rw [hRm]; decide) (by rw [hRm]; decide) rfl rfl (Nat.le_of_ble_eq_true rfl) d_SQ_take_34 (gki (fun r9 s8 h => ?_))
    refine g_istore_n C (lv2 := [(0, .ref (ad 0)), (1, .int r4), (2, .int r9)]) d_SQ_take_37 rfl (by decide) rfl ?_
    refine g_aload_n C d_SQ_take_38 rfl 0 rfl ?_
    refine g_get C (v := .ref (ad 6)) 0 2 iw_SQ rfl rfl (by decide) (gt 231 (by decide +kernel) rfl) rfl rfl d_SQ_take_39 ?_
    refine g_callVN (host := "SpillQueue") C (rest := []) 6 (fun l => m_Runs_dropEmpty X ad  s8 _ h l) rfl rfl (gn 530 (by decide +kernel) rfl) cb_RU_dropEmpty ⟨rfl, rfl⟩ (by rw [hRm]; decide) (by rw [hRm]; decide) rfl rfl (Nat.le_of_ble_eq_true rfl) d_SQ_take_42 (gkv (fun s10 h => ?_))
    refine g_iload_n C d_SQ_take_45 rfl 2 rfl ?_
    exact g_iretx r (by decide) (by decide) rfl d_SQ_take_46 (gBi_mk h)
  · have h := h.2 c7
    refine g_aload_n C d_SQ_take_21 rfl 0 rfl ?_
    refine g_get C (v := .ref (ad 4)) 0 1 iw_SQ rfl rfl (by decide) (gt 230 (by decide +kernel) rfl) rfl rfl d_SQ_take_22 ?_
    refine g_callV C (rest := []) 4 (fun l => m_Memory_takeLeast X ad  s5 _ h l) rfl rfl (gt 582 (by decide +kernel) rfl) cb_ME_takeLeast ⟨rfl, rfl⟩ (by rw [hRm]; decide) (by rw [hRm]; decide) rfl rfl (Nat.le_of_ble_eq_true rfl) d_SQ_take_25 (gki (fun r13 s12 h => ?_))
    exact g_iretx r (by decide) (by decide) rfl d_SQ_take_28 (gBi_mk h)
theorem m_SpillQueue_take (X : gX) (ad : Nat → Nat) (s : gS) (Q : Int32 → gS → Prop) (XQ : Nat → gS → Prop) (h : wp_SpillQueue_take  s Q XQ) (l : Launch) (hl : l.stackTraces = false) : gMX l X y_SQ_take b_SQ_take 3 (some .int) rm_SpillQueue_take 1 6 [.ref (ad 0)] (wC ad X s) (gBi (wC ad X) Q) (gBx (wC ad X) XQ) :=
  gMX_of hl (by decide +kernel) rfl (Nat.le_of_ble_eq_true rfl) rfl (by decide) (fun E sz C hRm r hX => w_SpillQueue_take X ad  s Q XQ h E sz C hRm r hX)
def rm_SpillQueue_sync : Room := { frames := 7, cells := 1, slots := 6, locals := 141 }
def wp_SpillQueue_sync (s : gS) (Q : Int32 → gS → Prop) (XQ : Nat → gS → Prop) : Prop := wp_SpillQueue_requireLive s (fun s1 => wp_Memory_howMany s1 (fun r4 s3 => ((r4 ≤ 0 → wp_SpillQueue_writeNextEpoch s3 (fun r7 s6 => Q r7 s6)) ∧ (¬ r4 ≤ 0 → wp_SpillQueue_spill s3 (fun r9 s8 => ((r9 = 0 → wp_SpillQueue_writeNextEpoch s8 (fun r12 s11 => Q r12 s11)) ∧ (¬ r9 = 0 → Q r9 s8))))))) XQ
set_option maxHeartbeats 4000000 in
set_option maxRecDepth 100000 in
theorem w_SpillQueue_sync (X : gX) (ad : Nat → Nat) (s : gS) (Q : Int32 → gS → Prop) (XQ : Nat → gS → Prop) (h : wp_SpillQueue_sync  s Q XQ) (E : gE) (sz : Nat) (C : gC X E b_SQ_sync 2 R_SQ) (hRm : gRm E = rm_SpillQueue_sync) (r : gRx X E b_SQ_sync (some .int) (gBi (wC ad X) Q) 1 6) (hX : gQx X E (wC ad X s) (gBi (wC ad X) Q) (gBx (wC ad X) XQ) 1 6 sz) : gW X E 0 0 (wC ad X s) [(0, .ref (ad 0))] 0 [] := by
  have h : wp_SpillQueue_requireLive s (fun s1 => wp_Memory_howMany s1 (fun r4 s3 => ((r4 ≤ 0 → wp_SpillQueue_writeNextEpoch s3 (fun r7 s6 => Q r7 s6)) ∧ (¬ r4 ≤ 0 → wp_SpillQueue_spill s3 (fun r9 s8 => ((r9 = 0 → wp_SpillQueue_writeNextEpoch s8 (fun r12 s11 => Q r12 s11)) ∧ (¬ r9 = 0 → Q r9 s8))))))) XQ := h
  refine g_aload_n C d_SQ_sync_0 rfl 0 rfl ?_
  refine g_callVx C hX (rest := []) 0 (fun l hl => m_SpillQueue_requireLive X ad  s _ _ h l hl) rfl rfl (gt 421 (by decide +kernel) rfl) cb_SQ_requireLive ⟨rfl, rfl⟩ (by rw [hRm]; decide) (by decide) rfl rfl (Nat.le_of_ble_eq_true rfl) d_SQ_sync_1 (fun _ _ h => h) (gkv (fun s1 h => ?_))
  refine g_aload_n C d_SQ_sync_4 rfl 0 rfl ?_
  refine g_get C (v := .ref (ad 4)) 0 1 iw_SQ rfl rfl (by decide) (gt 230 (by decide +kernel) rfl) rfl rfl d_SQ_sync_5 ?_
  refine g_callV C (rest := []) 4 (fun l => m_Memory_howMany X ad  s1 _ h l) rfl rfl (gt 264 (by decide +kernel) rfl) cb_ME_howMany ⟨rfl, rfl⟩ (by rw [hRm]; decide) (by rw [hRm]; decide) rfl rfl (Nat.le_of_ble_eq_true rfl) d_SQ_sync_8 (gki (fun r4 s3 h => ?_))
  refine g_if_le C 25 d_SQ_sync_11 (by decide) (fun c5 => ?_) (fun c5 => ?_)
  · have h := h.1 c5
    refine g_aload_n C d_SQ_sync_25 rfl 0 rfl ?_
    refine g_callV C (rest := []) 0 (fun l => m_SpillQueue_writeNextEpoch X ad  s3 _ h l) rfl rfl (gt 374 (by decide +kernel) rfl) cb_SQ_writeNextEpoch ⟨rfl, rfl⟩ (by rw [hRm]; decide) (by rw [hRm]; decide) rfl rfl (Nat.le_of_ble_eq_true rfl) d_SQ_sync_26 (gki (fun r7 s6 h => ?_))
    exact g_iretx r (by decide) (by decide) rfl d_SQ_sync_29 (gBi_mk h)
  · have h := h.2 c5
    refine g_aload_n C d_SQ_sync_14 rfl 0 rfl ?_
    refine g_callV C (rest := []) 0 (fun l => m_SpillQueue_spill X ad  s3 _ h l) rfl rfl (gt 446 (by decide +kernel) rfl) cb_SQ_spill ⟨rfl, rfl⟩ (by rw [hRm]; decide) (by rw [hRm]; decide) rfl rfl (Nat.le_of_ble_eq_true rfl) d_SQ_sync_15 (gki (fun r9 s8 h => ?_))
    refine g_istore_n C (lv2 := [(0, .ref (ad 0)), (1, .int r9)]) d_SQ_sync_18 rfl (by decide) rfl ?_
    refine g_iload_n C d_SQ_sync_19 rfl 1 rfl ?_
    refine g_if_eq C 25 d_SQ_sync_20 (by decide) (fun c10 => ?_) (fun c10 => ?_)
    · have h := h.1 c10
      refine g_aload_n C d_SQ_sync_25 rfl 0 rfl ?_
      refine g_callV C (rest := []) 0 (fun l => m_SpillQueue_writeNextEpoch X ad  s8 _ h l) rfl rfl (gt 374 (by decide +kernel) rfl) cb_SQ_writeNextEpoch ⟨rfl, rfl⟩ (by rw [hRm]; decide) (by rw [hRm]; decide) rfl rfl (Nat.le_of_ble_eq_true rfl) d_SQ_sync_26 (gki (fun r12 s11 h => ?_))
      exact g_iretx r (by decide) (by decide) rfl d_SQ_sync_29 (gBi_mk h)
    · have h := h.2 c10
      refine g_iload_n C d_SQ_sync_23 rfl 1 rfl ?_
      exact g_iretx r (by decide) (by decide) rfl d_SQ_sync_24 (gBi_mk h)
theorem m_SpillQueue_sync (X : gX) (ad : Nat → Nat) (s : gS) (Q : Int32 → gS → Prop) (XQ : Nat → gS → Prop) (h : wp_SpillQueue_sync  s Q XQ) (l : Launch) (hl : l.stackTraces = false) : gMX l X y_SQ_sync b_SQ_sync 2 (some .int) rm_SpillQueue_sync 1 6 [.ref (ad 0)] (wC ad X s) (gBi (wC ad X) Q) (gBx (wC ad X) XQ) :=
  gMX_of hl (by decide +kernel) rfl (Nat.le_of_ble_eq_true rfl) rfl (by decide) (fun E sz C hRm r hX => w_SpillQueue_sync X ad  s Q XQ h E sz C hRm r hX)
def rm_SpillQueue_cutAt : Room := { frames := 7, cells := 2, slots := 12, locals := 102 }
def wp_SpillQueue_cutAt (a1 : Int32) (s : gS) (Q : gS → Prop) (XQ : Nat → gS → Prop) : Prop := wp_SpillQueue_requireLive s (fun s1 => ((a1 < 0 → XQ 1 s1) ∧ (¬ a1 < 0 → ((a1 ≤ 10000 → Q (up s1.1 6 (a1), s1.2)) ∧ (¬ a1 ≤ 10000 → XQ 1 s1))))) XQ
set_option maxHeartbeats 4000000 in
set_option maxRecDepth 100000 in
theorem w_SpillQueue_cutAt (X : gX) (ad : Nat → Nat) (a1 : Int32) (s : gS) (Q : gS → Prop) (XQ : Nat → gS → Prop) (h : wp_SpillQueue_cutAt a1 s Q XQ) (E : gE) (sz : Nat) (C : gC X E b_SQ_cutAt 2 R_SQ) (hRm : gRm E = rm_SpillQueue_cutAt) (r : gRx X E b_SQ_cutAt none (gBv (wC ad X) Q) 2 12) (hX : gQx X E (wC ad X s) (gBv (wC ad X) Q) (gBx (wC ad X) XQ) 2 12 sz) : gW X E 0 0 (wC ad X s) [(0, .ref (ad 0)), (1, .int a1)] 0 [] := by
  have h : wp_SpillQueue_requireLive s (fun s1 => ((a1 < 0 → XQ 1 s1) ∧ (¬ a1 < 0 → ((a1 ≤ 10000 → Q (up s1.1 6 (a1), s1.2)) ∧ (¬ a1 ≤ 10000 → XQ 1 s1))))) XQ := h
  refine g_aload_n C d_SQ_cutAt_0 rfl 0 rfl ?_
  refine g_callVx C hX (rest := []) 0 (fun l hl => m_SpillQueue_requireLive X ad  s _ _ h l hl) rfl rfl (gt 421 (by decide +kernel) rfl) cb_SQ_requireLive ⟨rfl, rfl⟩ (by rw [hRm]; decide) (by decide) rfl rfl (Nat.le_of_ble_eq_true rfl) d_SQ_cutAt_1 (fun _ _ h => h) (gkv (fun s1 h => ?_))
  refine g_iload_n C d_SQ_cutAt_4 rfl 1 rfl ?_
  refine g_if_lt C 15 d_SQ_cutAt_5 (by decide) (fun c3 => ?_) (fun c3 => ?_)
  · have h := h.1 c3
    exact g_throw C hX (text := "n is 0 .. 10000") gExN (by decide +kernel) (by decide +kernel) (gt 280 (by decide +kernel) rfl) (gt 98 (by decide +kernel) rfl) (gm 5 rfl) at_1 got_1 d_SQ_cutAt_15 d_SQ_cutAt_18 d_SQ_cutAt_19 d_SQ_cutAt_21 d_SQ_cutAt_24 (by rw [hRm]; decide) (by decide) (gBx_mk 1 h)
  · have h := h.2 c3
    refine g_iload_n C d_SQ_cutAt_8 rfl 1 rfl ?_
    refine g_sipush C 10000 d_SQ_cutAt_9 (by decide) ?_
    refine g_icmp_le C 25 d_SQ_cutAt_12 (by decide) (fun c4 => ?_) (fun c4 => ?_)
    · have h := h.1 c4
      refine g_aload_n C d_SQ_cutAt_25 rfl 0 rfl ?_
      refine g_get C (v := .ref (ad 1)) 0 0 iw_SQ rfl rfl (by decide) (gt 229 (by decide +kernel) rfl) rfl rfl d_SQ_cutAt_26 ?_
      refine g_iload_n C d_SQ_cutAt_29 rfl 1 rfl ?_
      refine g_putN (host := "SpillQueue") C (ws2 := wC ad X (up s1.1 6 (a1), s1.2)) 1 5 iw_DK ty_DK tyok_DK nm_DK rfl rfl (by decide) (gn 127 (by decide +kernel) rfl) rfl rfl rfl rfl (Nat.le_of_ble_eq_true rfl) rfl d_SQ_cutAt_30 ?_
      exact g_vretx r (by decide) (by decide) d_SQ_cutAt_33 (gBv_mk h)
    · have h := h.2 c4
      exact g_throw C hX (text := "n is 0 .. 10000") gExN (by decide +kernel) (by decide +kernel) (gt 280 (by decide +kernel) rfl) (gt 98 (by decide +kernel) rfl) (gm 5 rfl) at_1 got_1 d_SQ_cutAt_15 d_SQ_cutAt_18 d_SQ_cutAt_19 d_SQ_cutAt_21 d_SQ_cutAt_24 (by rw [hRm]; decide) (by decide) (gBx_mk 1 h)
theorem m_SpillQueue_cutAt (X : gX) (ad : Nat → Nat) (a1 : Int32) (s : gS) (Q : gS → Prop) (XQ : Nat → gS → Prop) (h : wp_SpillQueue_cutAt a1 s Q XQ) (l : Launch) (hl : l.stackTraces = false) : gMX l X y_SQ_cutAt b_SQ_cutAt 2 none rm_SpillQueue_cutAt 2 12 [.ref (ad 0), .int a1] (wC ad X s) (gBv (wC ad X) Q) (gBx (wC ad X) XQ) :=
  gMX_of hl (by decide +kernel) rfl (Nat.le_of_ble_eq_true rfl) rfl (by decide) (fun E sz C hRm r hX => w_SpillQueue_cutAt X ad a1 s Q XQ h E sz C hRm r hX)
def rm_SpillQueue_requireDisk : Room := { frames := 6, cells := 1, slots := 6, locals := 82 }
def wp_SpillQueue_requireDisk (s : gS) (Q : gS → Prop) (XQ : Nat → gS → Prop) : Prop := ((¬ (s.1 3) = 0 → Q s) ∧ ((s.1 3) = 0 → XQ 0 s))
set_option maxHeartbeats 4000000 in
set_option maxRecDepth 100000 in
theorem w_SpillQueue_requireDisk (X : gX) (ad : Nat → Nat) (s : gS) (Q : gS → Prop) (XQ : Nat → gS → Prop) (h : wp_SpillQueue_requireDisk  s Q XQ) (E : gE) (sz : Nat) (C : gC X E b_SQ_requireDisk 1 R_SQ) (hRm : gRm E = rm_SpillQueue_requireDisk) (r : gRx X E b_SQ_requireDisk none (gBv (wC ad X) Q) 1 6) (hX : gQx X E (wC ad X s) (gBv (wC ad X) Q) (gBx (wC ad X) XQ) 1 6 sz) : gW X E 0 0 (wC ad X s) [(0, .ref (ad 0))] 0 [] := by
  have h : ((¬ (s.1 3) = 0 → Q s) ∧ ((s.1 3) = 0 → XQ 0 s)) := h
  refine g_aload_n C d_SQ_requireDisk_0 rfl 0 rfl ?_
  refine g_get C (v := .ref (ad 1)) 0 0 iw_SQ rfl rfl (by decide) (gt 229 (by decide +kernel) rfl) rfl rfl d_SQ_requireDisk_1 ?_
  refine g_getN (host := "SpillQueue") C (v := .int (s.1 3)) 1 2 iw_DK rfl rfl (by decide) (gn 122 (by decide +kernel) rfl) rfl rfl d_SQ_requireDisk_4 ?_
  refine g_if_ne C 20 d_SQ_requireDisk_7 (by decide) (fun c1 => ?_) (fun c1 => ?_)
  · have h := h.1 c1
    exact g_vretx r (by decide) (by decide) d_SQ_requireDisk_20 (gBv_mk h)
  · have h := h.2 c1
    exact g_throw C hX (text := "there is no disk") gExN (by decide +kernel) (by decide +kernel) (gt 425 (by decide +kernel) rfl) (gt 101 (by decide +kernel) rfl) (gm 11 rfl) at_0 got_0 d_SQ_requireDisk_10 d_SQ_requireDisk_13 d_SQ_requireDisk_14 d_SQ_requireDisk_16 d_SQ_requireDisk_19 (by rw [hRm]; decide) (by decide) (gBx_mk 0 h)
theorem m_SpillQueue_requireDisk (X : gX) (ad : Nat → Nat) (s : gS) (Q : gS → Prop) (XQ : Nat → gS → Prop) (h : wp_SpillQueue_requireDisk  s Q XQ) (l : Launch) (hl : l.stackTraces = false) : gMX l X y_SQ_requireDisk b_SQ_requireDisk 1 none rm_SpillQueue_requireDisk 1 6 [.ref (ad 0)] (wC ad X s) (gBv (wC ad X) Q) (gBx (wC ad X) XQ) :=
  gMX_of hl (by decide +kernel) rfl (Nat.le_of_ble_eq_true rfl) rfl (by decide) (fun E sz C hRm r hX => w_SpillQueue_requireDisk X ad  s Q XQ h E sz C hRm r hX)
def rm_SpillQueue_cut : Room := { frames := 7, cells := 1, slots := 6, locals := 102 }
def wp_SpillQueue_cut (s : gS) (Q : gS → Prop) (XQ : Nat → gS → Prop) : Prop := wp_SpillQueue_requireDisk s (fun s1 => wp_SpillQueue_powerOff s1 (fun s3 => Q s3)) XQ
set_option maxHeartbeats 4000000 in
set_option maxRecDepth 100000 in
theorem w_SpillQueue_cut (X : gX) (ad : Nat → Nat) (s : gS) (Q : gS → Prop) (XQ : Nat → gS → Prop) (h : wp_SpillQueue_cut  s Q XQ) (E : gE) (sz : Nat) (C : gC X E b_SQ_cut 1 R_SQ) (hRm : gRm E = rm_SpillQueue_cut) (r : gRx X E b_SQ_cut none (gBv (wC ad X) Q) 1 6) (hX : gQx X E (wC ad X s) (gBv (wC ad X) Q) (gBx (wC ad X) XQ) 1 6 sz) : gW X E 0 0 (wC ad X s) [(0, .ref (ad 0))] 0 [] := by
  have h : wp_SpillQueue_requireDisk s (fun s1 => wp_SpillQueue_powerOff s1 (fun s3 => Q s3)) XQ := h
  refine g_aload_n C d_SQ_cut_0 rfl 0 rfl ?_
  refine g_callVx C hX (rest := []) 0 (fun l hl => m_SpillQueue_requireDisk X ad  s _ _ h l hl) rfl rfl (gt 606 (by decide +kernel) rfl) cb_SQ_requireDisk ⟨rfl, rfl⟩ (by rw [hRm]; decide) (by decide) rfl rfl (Nat.le_of_ble_eq_true rfl) d_SQ_cut_1 (fun _ _ h => h) (gkv (fun s1 h => ?_))
  refine g_aload_n C d_SQ_cut_4 rfl 0 rfl ?_
  refine g_callV C (rest := []) 0 (fun l => m_SpillQueue_powerOff X ad  s1 _ h l) rfl rfl (gt 351 (by decide +kernel) rfl) cb_SQ_powerOff ⟨rfl, rfl⟩ (by rw [hRm]; decide) (by rw [hRm]; decide) rfl rfl (Nat.le_of_ble_eq_true rfl) d_SQ_cut_5 (gkv (fun s3 h => ?_))
  exact g_vretx r (by decide) (by decide) d_SQ_cut_8 (gBv_mk h)
theorem m_SpillQueue_cut (X : gX) (ad : Nat → Nat) (s : gS) (Q : gS → Prop) (XQ : Nat → gS → Prop) (h : wp_SpillQueue_cut  s Q XQ) (l : Launch) (hl : l.stackTraces = false) : gMX l X y_SQ_cut b_SQ_cut 1 none rm_SpillQueue_cut 1 6 [.ref (ad 0)] (wC ad X s) (gBv (wC ad X) Q) (gBx (wC ad X) XQ) :=
  gMX_of hl (by decide +kernel) rfl (Nat.le_of_ble_eq_true rfl) rfl (by decide) (fun E sz C hRm r hX => w_SpillQueue_cut X ad  s Q XQ h E sz C hRm r hX)
def rm_SpillQueue_recover : Room := { frames := 7, cells := 1, slots := 6, locals := 149 }
def wp_SpillQueue_recover (s : gS) (Q : Int32 → gS → Prop) (XQ : Nat → gS → Prop) : Prop := wp_SpillQueue_requireDisk s (fun s1 => wp_SpillQueue_powerOff s1 (fun s3 => wp_Superblocks_newestGood s3 (fun r6 s5 => ((0 ≤ r6 → wp_Superblocks_load_6 r6 s5 (fun s8 => wp_Superblocks_epochOf r6 s8 (fun r11 s10 => wp_Runs_markBlocks_16 (up s10.1 1 (r11), s10.2) (fun s12 => wp_Runs_keysInAll (up s12.1 2 (1), s12.2) (fun r15 s14 => Q r15 s14))))) ∧ (¬ 0 ≤ r6 → Q (-3) s5))))) XQ
set_option maxHeartbeats 4000000 in
set_option maxRecDepth 100000 in
theorem w_SpillQueue_recover (X : gX) (ad : Nat → Nat) (s : gS) (Q : Int32 → gS → Prop) (XQ : Nat → gS → Prop) (h : wp_SpillQueue_recover  s Q XQ) (E : gE) (sz : Nat) (C : gC X E b_SQ_recover 2 R_SQ) (hRm : gRm E = rm_SpillQueue_recover) (r : gRx X E b_SQ_recover (some .int) (gBi (wC ad X) Q) 1 6) (hX : gQx X E (wC ad X s) (gBi (wC ad X) Q) (gBx (wC ad X) XQ) 1 6 sz) : gW X E 0 0 (wC ad X s) [(0, .ref (ad 0))] 0 [] := by
  have h : wp_SpillQueue_requireDisk s (fun s1 => wp_SpillQueue_powerOff s1 (fun s3 => wp_Superblocks_newestGood s3 (fun r6 s5 => ((0 ≤ r6 → wp_Superblocks_load_6 r6 s5 (fun s8 => wp_Superblocks_epochOf r6 s8 (fun r11 s10 => wp_Runs_markBlocks_16 (up s10.1 1 (r11), s10.2) (fun s12 => wp_Runs_keysInAll (up s12.1 2 (1), s12.2) (fun r15 s14 => Q r15 s14))))) ∧ (¬ 0 ≤ r6 → Q (-3) s5))))) XQ := h
  refine g_aload_n C d_SQ_recover_0 rfl 0 rfl ?_
  refine g_callVx C hX (rest := []) 0 (fun l hl => m_SpillQueue_requireDisk X ad  s _ _ h l hl) rfl rfl (gt 606 (by decide +kernel) rfl) cb_SQ_requireDisk ⟨rfl, rfl⟩ (by rw [hRm]; decide) (by decide) rfl rfl (Nat.le_of_ble_eq_true rfl) d_SQ_recover_1 (fun _ _ h => h) (gkv (fun s1 h => ?_))
  refine g_aload_n C d_SQ_recover_4 rfl 0 rfl ?_
  refine g_callV C (rest := []) 0 (fun l => m_SpillQueue_powerOff X ad  s1 _ h l) rfl rfl (gt 351 (by decide +kernel) rfl) cb_SQ_powerOff ⟨rfl, rfl⟩ (by rw [hRm]; decide) (by rw [hRm]; decide) rfl rfl (Nat.le_of_ble_eq_true rfl) d_SQ_recover_5 (gkv (fun s3 h => ?_))
  refine g_aload_n C d_SQ_recover_8 rfl 0 rfl ?_
  refine g_get C (v := .ref (ad 13)) 0 3 iw_SQ rfl rfl (by decide) (gt 232 (by decide +kernel) rfl) rfl rfl d_SQ_recover_9 ?_
  refine g_callVN (host := "SpillQueue") C (rest := []) 13 (fun l => m_Superblocks_newestGood X ad  s3 _ h l) rfl rfl (gn 618 (by decide +kernel) rfl) cb_SB_newestGood ⟨rfl, rfl⟩ (by rw [hRm]; decide) (by rw [hRm]; decide) rfl rfl (Nat.le_of_ble_eq_true rfl) d_SQ_recover_12 (gki (fun r6 s5 h => ?_))
  refine g_istore_n C (lv2 := [(0, .ref (ad 0)), (1, .int r6)]) d_SQ_recover_15 rfl (by decide) rfl ?_
  refine g_iload_n C d_SQ_recover_16 rfl 1 rfl ?_
  refine g_if_ge C 23 d_SQ_recover_17 (by decide) (fun c7 => ?_) (fun c7 => ?_)
  · have h := h.1 c7
    refine g_aload_n C d_SQ_recover_23 rfl 0 rfl ?_
    refine g_get C (v := .ref (ad 13)) 0 3 iw_SQ rfl rfl (by decide) (gt 232 (by decide +kernel) rfl) rfl rfl d_SQ_recover_24 ?_
    refine g_iload_n C d_SQ_recover_27 rfl 1 rfl ?_
    refine g_aload_n C d_SQ_recover_28 rfl 0 rfl ?_
    refine g_get C (v := .ref (ad 6)) 0 2 iw_SQ rfl rfl (by decide) (gt 231 (by decide +kernel) rfl) rfl rfl d_SQ_recover_29 ?_
    refine g_callVN (host := "SpillQueue") C (rest := []) 13 (fun l => m_Superblocks_load_6 X ad r6 s5 _ h l) rfl rfl (gn 655 (by decide +kernel) rfl) cb_SB_load ⟨rfl, rfl⟩ (by rw [hRm]; decide) (by rw [hRm]; decide) rfl rfl (Nat.le_of_ble_eq_true rfl) d_SQ_recover_32 (gkv (fun s8 h => ?_))
    refine g_aload_n C d_SQ_recover_35 rfl 0 rfl ?_
    refine g_aload_n C d_SQ_recover_36 rfl 0 rfl ?_
    refine g_get C (v := .ref (ad 13)) 0 3 iw_SQ rfl rfl (by decide) (gt 232 (by decide +kernel) rfl) rfl rfl d_SQ_recover_37 ?_
    refine g_iload_n C d_SQ_recover_40 rfl 1 rfl ?_
    refine g_callVN (host := "SpillQueue") C (rest := [.ref (ad 0)]) 13 (fun l => m_Superblocks_epochOf X ad r6 s8 _ h l) rfl rfl (gn 660 (by decide +kernel) rfl) cb_SB_epochOf ⟨rfl, rfl⟩ (by rw [hRm]; decide) (by rw [hRm]; decide) rfl rfl (Nat.le_of_ble_eq_true rfl) d_SQ_recover_41 (gki (fun r11 s10 h => ?_))
    refine g_put C (ws2 := wC ad X (up s10.1 1 (r11), s10.2)) 0 8 iw_SQ ty_SQ tyok_SQ nm_SQ rfl rfl (by decide) (gt 237 (by decide +kernel) rfl) rfl rfl rfl rfl (Nat.le_of_ble_eq_true rfl) rfl d_SQ_recover_44 ?_
    refine g_aload_n C d_SQ_recover_47 rfl 0 rfl ?_
    refine g_get C (v := .ref (ad 6)) 0 2 iw_SQ rfl rfl (by decide) (gt 231 (by decide +kernel) rfl) rfl rfl d_SQ_recover_48 ?_
    refine g_aload_n C d_SQ_recover_51 rfl 0 rfl ?_
    refine g_get C (v := .ref (ad 16)) 0 4 iw_SQ rfl rfl (by decide) (gt 233 (by decide +kernel) rfl) rfl rfl d_SQ_recover_52 ?_
    refine g_callVN (host := "SpillQueue") C (rest := []) 6 (fun l => m_Runs_markBlocks_16 X ad  (up s10.1 1 (r11), s10.2) _ h l) rfl rfl (gn 401 (by decide +kernel) rfl) cb_RU_markBlocks ⟨rfl, rfl⟩ (by rw [hRm]; decide) (by rw [hRm]; decide) rfl rfl (Nat.le_of_ble_eq_true rfl) d_SQ_recover_55 (gkv (fun s12 h => ?_))
    refine g_aload_n C d_SQ_recover_58 rfl 0 rfl ?_
    refine g_iconst C 1 d_SQ_recover_59 (by decide) ?_
    refine g_put C (ws2 := wC ad X (up s12.1 2 (1), s12.2)) 0 9 iw_SQ ty_SQ tyok_SQ nm_SQ rfl rfl (by decide) (gt 238 (by decide +kernel) rfl) rfl rfl (by decide +kernel) (by decide +kernel) (Nat.le_of_ble_eq_true rfl) rfl d_SQ_recover_60 ?_
    refine g_aload_n C d_SQ_recover_63 rfl 0 rfl ?_
    refine g_get C (v := .ref (ad 6)) 0 2 iw_SQ rfl rfl (by decide) (gt 231 (by decide +kernel) rfl) rfl rfl d_SQ_recover_64 ?_
    refine g_callVN (host := "SpillQueue") C (rest := []) 6 (fun l => m_Runs_keysInAll X ad  (up s12.1 2 (1), s12.2) _ h l) rfl rfl (gn 268 (by decide +kernel) rfl) cb_RU_keysInAll ⟨rfl, rfl⟩ (by rw [hRm]; decide) (by rw [hRm]; decide) rfl rfl (Nat.le_of_ble_eq_true rfl) d_SQ_recover_67 (gki (fun r15 s14 h => ?_))
    exact g_iretx r (by decide) (by decide) rfl d_SQ_recover_70 (gBi_mk h)
  · have h := h.2 c7
    refine g_bipush C (-3) d_SQ_recover_20 (by decide) ?_
    exact g_iretx r (by decide) (by decide) rfl d_SQ_recover_22 (gBi_mk h)
theorem m_SpillQueue_recover (X : gX) (ad : Nat → Nat) (s : gS) (Q : Int32 → gS → Prop) (XQ : Nat → gS → Prop) (h : wp_SpillQueue_recover  s Q XQ) (l : Launch) (hl : l.stackTraces = false) : gMX l X y_SQ_recover b_SQ_recover 2 (some .int) rm_SpillQueue_recover 1 6 [.ref (ad 0)] (wC ad X s) (gBi (wC ad X) Q) (gBx (wC ad X) XQ) :=
  gMX_of hl (by decide +kernel) rfl (Nat.le_of_ble_eq_true rfl) rfl (by decide) (fun E sz C hRm r hX => w_SpillQueue_recover X ad  s Q XQ h E sz C hRm r hX)
def rm_SpillQueue_run : Room := { frames := 7, cells := 2, slots := 12, locals := 102 }
def wp_SpillQueue_run (a1 : Int32) (a2 : Int32) (s : gS) (Q : Int32 → gS → Prop) (XQ : Nat → gS → Prop) : Prop := wp_SpillQueue_requireLive s (fun s1 => wp_Runs_has a1 s1 (fun r4 s3 => ((¬ r4 = 0 → ((a2 = 0 → vp_in a1 9 ∧ (Q (s3.2 3 a1.toNatClampNeg) s3)) ∧ (¬ a2 = 0 → ((a2 = 1 → vp_in a1 9 ∧ (Q (s3.2 4 a1.toNatClampNeg) s3)) ∧ (¬ a2 = 1 → ((a2 = 2 → vp_in a1 9 ∧ (Q (s3.2 5 a1.toNatClampNeg) s3)) ∧ (¬ a2 = 2 → ((a2 = 3 → vp_in a1 9 ∧ (Q (s3.2 6 a1.toNatClampNeg) s3)) ∧ (¬ a2 = 3 → ((a2 = 4 → vp_in a1 9 ∧ (vp_in a1 9 ∧ (wp_Disk_blocksFor ((s3.2 4 a1.toNatClampNeg) + (s3.2 5 a1.toNatClampNeg)) s3 (fun r20 s19 => Q r20 s19)))) ∧ (¬ a2 = 4 → ((a2 = 5 → wp_Runs_headOf a1 s3 (fun r22 s21 => Q r22 s21)) ∧ (¬ a2 = 5 → XQ 2 s3))))))))))))) ∧ (r4 = 0 → XQ 2 s3)))) XQ
set_option maxHeartbeats 4000000 in
set_option maxRecDepth 100000 in
theorem w_SpillQueue_run (X : gX) (ad : Nat → Nat) (a1 : Int32) (a2 : Int32) (s : gS) (Q : Int32 → gS → Prop) (XQ : Nat → gS → Prop) (h : wp_SpillQueue_run a1 a2 s Q XQ) (E : gE) (sz : Nat) (C : gC X E b_SQ_run 3 R_SQ) (hRm : gRm E = rm_SpillQueue_run) (r : gRx X E b_SQ_run (some .int) (gBi (wC ad X) Q) 2 12) (hX : gQx X E (wC ad X s) (gBi (wC ad X) Q) (gBx (wC ad X) XQ) 2 12 sz) : gW X E 0 0 (wC ad X s) [(0, .ref (ad 0)), (1, .int a1), (2, .int a2)] 0 [] := by
  have h : wp_SpillQueue_requireLive s (fun s1 => wp_Runs_has a1 s1 (fun r4 s3 => ((¬ r4 = 0 → ((a2 = 0 → vp_in a1 9 ∧ (Q (s3.2 3 a1.toNatClampNeg) s3)) ∧ (¬ a2 = 0 → ((a2 = 1 → vp_in a1 9 ∧ (Q (s3.2 4 a1.toNatClampNeg) s3)) ∧ (¬ a2 = 1 → ((a2 = 2 → vp_in a1 9 ∧ (Q (s3.2 5 a1.toNatClampNeg) s3)) ∧ (¬ a2 = 2 → ((a2 = 3 → vp_in a1 9 ∧ (Q (s3.2 6 a1.toNatClampNeg) s3)) ∧ (¬ a2 = 3 → ((a2 = 4 → vp_in a1 9 ∧ (vp_in a1 9 ∧ (wp_Disk_blocksFor ((s3.2 4 a1.toNatClampNeg) + (s3.2 5 a1.toNatClampNeg)) s3 (fun r20 s19 => Q r20 s19)))) ∧ (¬ a2 = 4 → ((a2 = 5 → wp_Runs_headOf a1 s3 (fun r22 s21 => Q r22 s21)) ∧ (¬ a2 = 5 → XQ 2 s3))))))))))))) ∧ (r4 = 0 → XQ 2 s3)))) XQ := h
  refine g_aload_n C d_SQ_run_0 rfl 0 rfl ?_
  refine g_callVx C hX (rest := []) 0 (fun l hl => m_SpillQueue_requireLive X ad  s _ _ h l hl) rfl rfl (gt 421 (by decide +kernel) rfl) cb_SQ_requireLive ⟨rfl, rfl⟩ (by rw [hRm]; decide) (by decide) rfl rfl (Nat.le_of_ble_eq_true rfl) d_SQ_run_1 (fun _ _ h => h) (gkv (fun s1 h => ?_))
  refine g_aload_n C d_SQ_run_4 rfl 0 rfl ?_
  refine g_get C (v := .ref (ad 6)) 0 2 iw_SQ rfl rfl (by decide) (gt 231 (by decide +kernel) rfl) rfl rfl d_SQ_run_5 ?_
  refine g_iload_n C d_SQ_run_8 rfl 1 rfl ?_
  refine g_callVN (host := "SpillQueue") C (rest := []) 6 (fun l => m_Runs_has X ad a1 s1 _ h l) rfl rfl (gn 669 (by decide +kernel) rfl) cb_RU_has ⟨rfl, rfl⟩ (by rw [hRm]; decide) (by rw [hRm]; decide) rfl rfl (Nat.le_of_ble_eq_true rfl) d_SQ_run_9 (gki (fun r4 s3 h => ?_))
  refine g_if_ne C 25 d_SQ_run_12 (by decide) (fun c5 => ?_) (fun c5 => ?_)
  · have h := h.1 c5
    refine g_iload_n C d_SQ_run_25 rfl 2 rfl ?_
    by_cases c7 : a2 = 0
    · have h := h.1 c7
      refine g_tableIn C 64 d_SQ_run_26 (by rw [c7]; decide) (by rw [c7]; decide) (by rw [c7]; rfl) (by decide) ?_
      refine g_aload_n C d_SQ_run_64 rfl 0 rfl ?_
      refine g_get C (v := .ref (ad 6)) 0 2 iw_SQ rfl rfl (by decide) (gt 231 (by decide +kernel) rfl) rfl rfl d_SQ_run_65 ?_
      refine g_getN (host := "SpillQueue") C (v := .ref (ad 7)) 6 1 iw_RU rfl rfl (by decide) (gn 171 (by decide +kernel) rfl) rfl rfl d_SQ_run_68 ?_
      refine g_iload_n C d_SQ_run_71 rfl 1 rfl ?_
      obtain ⟨i13, h⟩ := h
      refine g_iald C 7 0 rfl rfl i13 d_SQ_run_72 ?_
      exact g_iretx r (by decide) (by decide) rfl d_SQ_run_73 (gBi_mk h)
    have h := h.2 c7
    by_cases c8 : a2 = 1
    · have h := h.1 c8
      refine g_tableIn C 74 d_SQ_run_26 (by rw [c8]; decide) (by rw [c8]; decide) (by rw [c8]; rfl) (by decide) ?_
      refine g_aload_n C d_SQ_run_74 rfl 0 rfl ?_
      refine g_get C (v := .ref (ad 6)) 0 2 iw_SQ rfl rfl (by decide) (gt 231 (by decide +kernel) rfl) rfl rfl d_SQ_run_75 ?_
      refine g_getN (host := "SpillQueue") C (v := .ref (ad 8)) 6 2 iw_RU rfl rfl (by decide) (gn 174 (by decide +kernel) rfl) rfl rfl d_SQ_run_78 ?_
      refine g_iload_n C d_SQ_run_81 rfl 1 rfl ?_
      obtain ⟨i14, h⟩ := h
      refine g_iald C 8 0 rfl rfl i14 d_SQ_run_82 ?_
      exact g_iretx r (by decide) (by decide) rfl d_SQ_run_83 (gBi_mk h)
    have h := h.2 c8
    by_cases c9 : a2 = 2
    · have h := h.1 c9
      refine g_tableIn C 84 d_SQ_run_26 (by rw [c9]; decide) (by rw [c9]; decide) (by rw [c9]; rfl) (by decide) ?_
      refine g_aload_n C d_SQ_run_84 rfl 0 rfl ?_
      refine g_get C (v := .ref (ad 6)) 0 2 iw_SQ rfl rfl (by decide) (gt 231 (by decide +kernel) rfl) rfl rfl d_SQ_run_85 ?_
      refine g_getN (host := "SpillQueue") C (v := .ref (ad 9)) 6 3 iw_RU rfl rfl (by decide) (gn 177 (by decide +kernel) rfl) rfl rfl d_SQ_run_88 ?_
      refine g_iload_n C d_SQ_run_91 rfl 1 rfl ?_
      obtain ⟨i15, h⟩ := h
      refine g_iald C 9 0 rfl rfl i15 d_SQ_run_92 ?_
      exact g_iretx r (by decide) (by decide) rfl d_SQ_run_93 (gBi_mk h)
    have h := h.2 c9
    by_cases c10 : a2 = 3
    · have h := h.1 c10
      refine g_tableIn C 94 d_SQ_run_26 (by rw [c10]; decide) (by rw [c10]; decide) (by rw [c10]; rfl) (by decide) ?_
      refine g_aload_n C d_SQ_run_94 rfl 0 rfl ?_
      refine g_get C (v := .ref (ad 6)) 0 2 iw_SQ rfl rfl (by decide) (gt 231 (by decide +kernel) rfl) rfl rfl d_SQ_run_95 ?_
      refine g_getN (host := "SpillQueue") C (v := .ref (ad 10)) 6 4 iw_RU rfl rfl (by decide) (gn 180 (by decide +kernel) rfl) rfl rfl d_SQ_run_98 ?_
      refine g_iload_n C d_SQ_run_101 rfl 1 rfl ?_
      obtain ⟨i16, h⟩ := h
      refine g_iald C 10 0 rfl rfl i16 d_SQ_run_102 ?_
      exact g_iretx r (by decide) (by decide) rfl d_SQ_run_103 (gBi_mk h)
    have h := h.2 c10
    by_cases c11 : a2 = 4
    · have h := h.1 c11
      refine g_tableIn C 104 d_SQ_run_26 (by rw [c11]; decide) (by rw [c11]; decide) (by rw [c11]; rfl) (by decide) ?_
      refine g_aload_n C d_SQ_run_104 rfl 0 rfl ?_
      refine g_get C (v := .ref (ad 1)) 0 0 iw_SQ rfl rfl (by decide) (gt 229 (by decide +kernel) rfl) rfl rfl d_SQ_run_105 ?_
      refine g_aload_n C d_SQ_run_108 rfl 0 rfl ?_
      refine g_get C (v := .ref (ad 6)) 0 2 iw_SQ rfl rfl (by decide) (gt 231 (by decide +kernel) rfl) rfl rfl d_SQ_run_109 ?_
      refine g_getN (host := "SpillQueue") C (v := .ref (ad 8)) 6 2 iw_RU rfl rfl (by decide) (gn 174 (by decide +kernel) rfl) rfl rfl d_SQ_run_112 ?_
      refine g_iload_n C d_SQ_run_115 rfl 1 rfl ?_
      obtain ⟨i17, h⟩ := h
      refine g_iald C 8 0 rfl rfl i17 d_SQ_run_116 ?_
      refine g_aload_n C d_SQ_run_117 rfl 0 rfl ?_
      refine g_get C (v := .ref (ad 6)) 0 2 iw_SQ rfl rfl (by decide) (gt 231 (by decide +kernel) rfl) rfl rfl d_SQ_run_118 ?_
      refine g_getN (host := "SpillQueue") C (v := .ref (ad 9)) 6 3 iw_RU rfl rfl (by decide) (gn 177 (by decide +kernel) rfl) rfl rfl d_SQ_run_121 ?_
      refine g_iload_n C d_SQ_run_124 rfl 1 rfl ?_
      obtain ⟨i18, h⟩ := h
      refine g_iald C 9 0 rfl rfl i18 d_SQ_run_125 ?_
      refine g_iadd C d_SQ_run_126 ?_
      refine g_callVN (host := "SpillQueue") C (rest := []) 1 (fun l => m_Disk_blocksFor X ad ((s3.2 4 a1.toNatClampNeg) + (s3.2 5 a1.toNatClampNeg)) s3 _ h l) rfl rfl (gn 476 (by decide +kernel) rfl) cb_DK_blocksFor ⟨rfl, rfl⟩ (by rw [hRm]; decide) (by rw [hRm]; decide) rfl rfl (Nat.le_of_ble_eq_true rfl) d_SQ_run_127 (gki (fun r20 s19 h => ?_))
      exact g_iretx r (by decide) (by decide) rfl d_SQ_run_130 (gBi_mk h)
    have h := h.2 c11
    by_cases c12 : a2 = 5
    · have h := h.1 c12
      refine g_tableIn C 131 d_SQ_run_26 (by rw [c12]; decide) (by rw [c12]; decide) (by rw [c12]; rfl) (by decide) ?_
      refine g_aload_n C d_SQ_run_131 rfl 0 rfl ?_
      refine g_get C (v := .ref (ad 6)) 0 2 iw_SQ rfl rfl (by decide) (gt 231 (by decide +kernel) rfl) rfl rfl d_SQ_run_132 ?_
      refine g_iload_n C d_SQ_run_135 rfl 1 rfl ?_
      refine g_callVN (host := "SpillQueue") C (rest := []) 6 (fun l => m_Runs_headOf X ad a1 s3 _ h l) rfl rfl (gn 571 (by decide +kernel) rfl) cb_RU_headOf ⟨rfl, rfl⟩ (by rw [hRm]; decide) (by rw [hRm]; decide) rfl rfl (Nat.le_of_ble_eq_true rfl) d_SQ_run_136 (gki (fun r22 s21 h => ?_))
      exact g_iretx r (by decide) (by decide) rfl d_SQ_run_139 (gBi_mk h)
    have h := h.2 c12
    refine g_tableOut C 140 d_SQ_run_26 (by have q0 := lv_neT (a := 0) c7 (by decide); have q1 := lv_neT (a := 1) c8 (by decide); have q2 := lv_neT (a := 2) c9 (by decide); have q3 := lv_neT (a := 3) c10 (by decide); have q4 := lv_neT (a := 4) c11 (by decide); have q5 := lv_neT (a := 5) c12 (by decide); omega) (by decide) ?_
    exact g_throw C hX (text := "what is 0 .. 5") gExN (by decide +kernel) (by decide +kernel) (gt 670 (by decide +kernel) rfl) (gt 103 (by decide +kernel) rfl) (gm 7 rfl) at_2 got_2 d_SQ_run_140 d_SQ_run_143 d_SQ_run_144 d_SQ_run_146 d_SQ_run_149 (by rw [hRm]; decide) (by decide) (gBx_mk 2 h)
  · have h := h.2 c5
    exact g_throw C hX (text := "no such run") gExN (by decide +kernel) (by decide +kernel) (gt 670 (by decide +kernel) rfl) (gt 103 (by decide +kernel) rfl) (gm 6 rfl) at_2 got_2 d_SQ_run_15 d_SQ_run_18 d_SQ_run_19 d_SQ_run_21 d_SQ_run_24 (by rw [hRm]; decide) (by decide) (gBx_mk 2 h)
theorem m_SpillQueue_run (X : gX) (ad : Nat → Nat) (a1 : Int32) (a2 : Int32) (s : gS) (Q : Int32 → gS → Prop) (XQ : Nat → gS → Prop) (h : wp_SpillQueue_run a1 a2 s Q XQ) (l : Launch) (hl : l.stackTraces = false) : gMX l X y_SQ_run b_SQ_run 3 (some .int) rm_SpillQueue_run 2 12 [.ref (ad 0), .int a1, .int a2] (wC ad X s) (gBi (wC ad X) Q) (gBx (wC ad X) XQ) :=
  gMX_of hl (by decide +kernel) rfl (Nat.le_of_ble_eq_true rfl) rfl (by decide) (fun E sz C hRm r hX => w_SpillQueue_run X ad a1 a2 s Q XQ h E sz C hRm r hX)
def rm_SpillQueue_about : Room := { frames := 6, cells := 1, slots := 6, locals := 82 }
def wp_SpillQueue_about (a1 : Int32) (s : gS) (Q : Int32 → gS → Prop) (XQ : Nat → gS → Prop) : Prop := ((a1 = 0 → (((s.1 2) = 0 → Q 0 s) ∧ (¬ (s.1 2) = 0 → Q (s.1 9) s))) ∧ (¬ a1 = 0 → ((a1 = 1 → (((s.1 2) = 0 → Q 0 s) ∧ (¬ (s.1 2) = 0 → wp_Memory_howMany s (fun r12 s11 => Q r12 s11)))) ∧ (¬ a1 = 1 → ((a1 = 2 → (((s.1 2) = 0 → Q 0 s) ∧ (¬ (s.1 2) = 0 → wp_SpillQueue_gatherFree s (fun r15 s14 => Q r15 s14)))) ∧ (¬ a1 = 2 → ((a1 = 3 → (((s.1 2) = 0 → Q 0 s) ∧ (¬ (s.1 2) = 0 → Q (s.1 1) s))) ∧ (¬ a1 = 3 → ((a1 = 4 → (((s.1 2) = 0 → Q 0 s) ∧ (¬ (s.1 2) = 0 → wp_Disk_mostRuns s (fun r19 s18 => Q r19 s18)))) ∧ (¬ a1 = 4 → ((a1 = 5 → Q (s.1 5) s) ∧ (¬ a1 = 5 → ((a1 = 6 → (((s.1 2) = 0 → Q 1 s) ∧ (¬ (s.1 2) = 0 → Q 0 s))) ∧ (¬ a1 = 6 → XQ 2 s))))))))))))))
set_option maxHeartbeats 4000000 in
set_option maxRecDepth 100000 in
theorem w_SpillQueue_about (X : gX) (ad : Nat → Nat) (a1 : Int32) (s : gS) (Q : Int32 → gS → Prop) (XQ : Nat → gS → Prop) (h : wp_SpillQueue_about a1 s Q XQ) (E : gE) (sz : Nat) (C : gC X E b_SQ_about 2 R_SQ) (hRm : gRm E = rm_SpillQueue_about) (r : gRx X E b_SQ_about (some .int) (gBi (wC ad X) Q) 1 6) (hX : gQx X E (wC ad X s) (gBi (wC ad X) Q) (gBx (wC ad X) XQ) 1 6 sz) : gW X E 0 0 (wC ad X s) [(0, .ref (ad 0)), (1, .int a1)] 0 [] := by
  have h : ((a1 = 0 → (((s.1 2) = 0 → Q 0 s) ∧ (¬ (s.1 2) = 0 → Q (s.1 9) s))) ∧ (¬ a1 = 0 → ((a1 = 1 → (((s.1 2) = 0 → Q 0 s) ∧ (¬ (s.1 2) = 0 → wp_Memory_howMany s (fun r12 s11 => Q r12 s11)))) ∧ (¬ a1 = 1 → ((a1 = 2 → (((s.1 2) = 0 → Q 0 s) ∧ (¬ (s.1 2) = 0 → wp_SpillQueue_gatherFree s (fun r15 s14 => Q r15 s14)))) ∧ (¬ a1 = 2 → ((a1 = 3 → (((s.1 2) = 0 → Q 0 s) ∧ (¬ (s.1 2) = 0 → Q (s.1 1) s))) ∧ (¬ a1 = 3 → ((a1 = 4 → (((s.1 2) = 0 → Q 0 s) ∧ (¬ (s.1 2) = 0 → wp_Disk_mostRuns s (fun r19 s18 => Q r19 s18)))) ∧ (¬ a1 = 4 → ((a1 = 5 → Q (s.1 5) s) ∧ (¬ a1 = 5 → ((a1 = 6 → (((s.1 2) = 0 → Q 1 s) ∧ (¬ (s.1 2) = 0 → Q 0 s))) ∧ (¬ a1 = 6 → XQ 2 s)))))))))))))) := h
  refine g_iload_n C d_SQ_about_0 rfl 1 rfl ?_
  by_cases c2 : a1 = 0
  · have h := h.1 c2
    refine g_tableIn C 44 d_SQ_about_1 (by rw [c2]; decide) (by rw [c2]; decide) (by rw [c2]; rfl) (by decide) ?_
    refine g_aload_n C d_SQ_about_44 rfl 0 rfl ?_
    refine g_get C (v := .int (s.1 2)) 0 9 iw_SQ rfl rfl (by decide) (gt 238 (by decide +kernel) rfl) rfl rfl d_SQ_about_45 ?_
    refine g_if_eq C 61 d_SQ_about_48 (by decide) (fun c9 => ?_) (fun c9 => ?_)
    · have h := h.1 c9
      refine g_iconst C 0 d_SQ_about_61 (by decide) ?_
      exact g_iretx r (by decide) (by decide) rfl d_SQ_about_62 (gBi_mk h)
    · have h := h.2 c9
      refine g_aload_n C d_SQ_about_51 rfl 0 rfl ?_
      refine g_get C (v := .ref (ad 6)) 0 2 iw_SQ rfl rfl (by decide) (gt 231 (by decide +kernel) rfl) rfl rfl d_SQ_about_52 ?_
      refine g_getN (host := "SpillQueue") C (v := .int (s.1 9)) 6 7 iw_RU rfl rfl (by decide) (gn 185 (by decide +kernel) rfl) rfl rfl d_SQ_about_55 ?_
      refine g_goto C 62 d_SQ_about_58 (by decide) ?_
      exact g_iretx r (by decide) (by decide) rfl d_SQ_about_62 (gBi_mk h)
  have h := h.2 c2
  by_cases c3 : a1 = 1
  · have h := h.1 c3
    refine g_tableIn C 63 d_SQ_about_1 (by rw [c3]; decide) (by rw [c3]; decide) (by rw [c3]; rfl) (by decide) ?_
    refine g_aload_n C d_SQ_about_63 rfl 0 rfl ?_
    refine g_get C (v := .int (s.1 2)) 0 9 iw_SQ rfl rfl (by decide) (gt 238 (by decide +kernel) rfl) rfl rfl d_SQ_about_64 ?_
    refine g_if_eq C 80 d_SQ_about_67 (by decide) (fun c10 => ?_) (fun c10 => ?_)
    · have h := h.1 c10
      refine g_iconst C 0 d_SQ_about_80 (by decide) ?_
      exact g_iretx r (by decide) (by decide) rfl d_SQ_about_81 (gBi_mk h)
    · have h := h.2 c10
      refine g_aload_n C d_SQ_about_70 rfl 0 rfl ?_
      refine g_get C (v := .ref (ad 4)) 0 1 iw_SQ rfl rfl (by decide) (gt 230 (by decide +kernel) rfl) rfl rfl d_SQ_about_71 ?_
      refine g_callV C (rest := []) 4 (fun l => m_Memory_howMany X ad  s _ h l) rfl rfl (gt 264 (by decide +kernel) rfl) cb_ME_howMany ⟨rfl, rfl⟩ (by rw [hRm]; decide) (by rw [hRm]; decide) rfl rfl (Nat.le_of_ble_eq_true rfl) d_SQ_about_74 (gki (fun r12 s11 h => ?_))
      refine g_goto C 81 d_SQ_about_77 (by decide) ?_
      exact g_iretx r (by decide) (by decide) rfl d_SQ_about_81 (gBi_mk h)
  have h := h.2 c3
  by_cases c4 : a1 = 2
  · have h := h.1 c4
    refine g_tableIn C 82 d_SQ_about_1 (by rw [c4]; decide) (by rw [c4]; decide) (by rw [c4]; rfl) (by decide) ?_
    refine g_aload_n C d_SQ_about_82 rfl 0 rfl ?_
    refine g_get C (v := .int (s.1 2)) 0 9 iw_SQ rfl rfl (by decide) (gt 238 (by decide +kernel) rfl) rfl rfl d_SQ_about_83 ?_
    refine g_if_eq C 96 d_SQ_about_86 (by decide) (fun c13 => ?_) (fun c13 => ?_)
    · have h := h.1 c13
      refine g_iconst C 0 d_SQ_about_96 (by decide) ?_
      exact g_iretx r (by decide) (by decide) rfl d_SQ_about_97 (gBi_mk h)
    · have h := h.2 c13
      refine g_aload_n C d_SQ_about_89 rfl 0 rfl ?_
      refine g_callV C (rest := []) 0 (fun l => m_SpillQueue_gatherFree X ad  s _ h l) rfl rfl (gt 484 (by decide +kernel) rfl) cb_SQ_gatherFree ⟨rfl, rfl⟩ (by rw [hRm]; decide) (by rw [hRm]; decide) rfl rfl (Nat.le_of_ble_eq_true rfl) d_SQ_about_90 (gki (fun r15 s14 h => ?_))
      refine g_goto C 97 d_SQ_about_93 (by decide) ?_
      exact g_iretx r (by decide) (by decide) rfl d_SQ_about_97 (gBi_mk h)
  have h := h.2 c4
  by_cases c5 : a1 = 3
  · have h := h.1 c5
    refine g_tableIn C 98 d_SQ_about_1 (by rw [c5]; decide) (by rw [c5]; decide) (by rw [c5]; rfl) (by decide) ?_
    refine g_aload_n C d_SQ_about_98 rfl 0 rfl ?_
    refine g_get C (v := .int (s.1 2)) 0 9 iw_SQ rfl rfl (by decide) (gt 238 (by decide +kernel) rfl) rfl rfl d_SQ_about_99 ?_
    refine g_if_eq C 112 d_SQ_about_102 (by decide) (fun c16 => ?_) (fun c16 => ?_)
    · have h := h.1 c16
      refine g_iconst C 0 d_SQ_about_112 (by decide) ?_
      exact g_iretx r (by decide) (by decide) rfl d_SQ_about_113 (gBi_mk h)
    · have h := h.2 c16
      refine g_aload_n C d_SQ_about_105 rfl 0 rfl ?_
      refine g_get C (v := .int (s.1 1)) 0 8 iw_SQ rfl rfl (by decide) (gt 237 (by decide +kernel) rfl) rfl rfl d_SQ_about_106 ?_
      refine g_goto C 113 d_SQ_about_109 (by decide) ?_
      exact g_iretx r (by decide) (by decide) rfl d_SQ_about_113 (gBi_mk h)
  have h := h.2 c5
  by_cases c6 : a1 = 4
  · have h := h.1 c6
    refine g_tableIn C 114 d_SQ_about_1 (by rw [c6]; decide) (by rw [c6]; decide) (by rw [c6]; rfl) (by decide) ?_
    refine g_aload_n C d_SQ_about_114 rfl 0 rfl ?_
    refine g_get C (v := .int (s.1 2)) 0 9 iw_SQ rfl rfl (by decide) (gt 238 (by decide +kernel) rfl) rfl rfl d_SQ_about_115 ?_
    refine g_if_eq C 131 d_SQ_about_118 (by decide) (fun c17 => ?_) (fun c17 => ?_)
    · have h := h.1 c17
      refine g_iconst C 0 d_SQ_about_131 (by decide) ?_
      exact g_iretx r (by decide) (by decide) rfl d_SQ_about_132 (gBi_mk h)
    · have h := h.2 c17
      refine g_aload_n C d_SQ_about_121 rfl 0 rfl ?_
      refine g_get C (v := .ref (ad 1)) 0 0 iw_SQ rfl rfl (by decide) (gt 229 (by decide +kernel) rfl) rfl rfl d_SQ_about_122 ?_
      refine g_callVN (host := "SpillQueue") C (rest := []) 1 (fun l => m_Disk_mostRuns X ad  s _ h l) rfl rfl (gn 450 (by decide +kernel) rfl) cb_DK_mostRuns ⟨rfl, rfl⟩ (by rw [hRm]; decide) (by rw [hRm]; decide) rfl rfl (Nat.le_of_ble_eq_true rfl) d_SQ_about_125 (gki (fun r19 s18 h => ?_))
      refine g_goto C 132 d_SQ_about_128 (by decide) ?_
      exact g_iretx r (by decide) (by decide) rfl d_SQ_about_132 (gBi_mk h)
  have h := h.2 c6
  by_cases c7 : a1 = 5
  · have h := h.1 c7
    refine g_tableIn C 133 d_SQ_about_1 (by rw [c7]; decide) (by rw [c7]; decide) (by rw [c7]; rfl) (by decide) ?_
    refine g_aload_n C d_SQ_about_133 rfl 0 rfl ?_
    refine g_get C (v := .ref (ad 1)) 0 0 iw_SQ rfl rfl (by decide) (gt 229 (by decide +kernel) rfl) rfl rfl d_SQ_about_134 ?_
    refine g_getN (host := "SpillQueue") C (v := .int (s.1 5)) 1 4 iw_DK rfl rfl (by decide) (gn 125 (by decide +kernel) rfl) rfl rfl d_SQ_about_137 ?_
    exact g_iretx r (by decide) (by decide) rfl d_SQ_about_140 (gBi_mk h)
  have h := h.2 c7
  by_cases c8 : a1 = 6
  · have h := h.1 c8
    refine g_tableIn C 141 d_SQ_about_1 (by rw [c8]; decide) (by rw [c8]; decide) (by rw [c8]; rfl) (by decide) ?_
    refine g_aload_n C d_SQ_about_141 rfl 0 rfl ?_
    refine g_get C (v := .int (s.1 2)) 0 9 iw_SQ rfl rfl (by decide) (gt 238 (by decide +kernel) rfl) rfl rfl d_SQ_about_142 ?_
    refine g_if_eq C 152 d_SQ_about_145 (by decide) (fun c20 => ?_) (fun c20 => ?_)
    · have h := h.1 c20
      refine g_iconst C 1 d_SQ_about_152 (by decide) ?_
      exact g_iretx r (by decide) (by decide) rfl d_SQ_about_153 (gBi_mk h)
    · have h := h.2 c20
      refine g_iconst C 0 d_SQ_about_148 (by decide) ?_
      refine g_goto C 153 d_SQ_about_149 (by decide) ?_
      exact g_iretx r (by decide) (by decide) rfl d_SQ_about_153 (gBi_mk h)
  have h := h.2 c8
  refine g_tableOut C 154 d_SQ_about_1 (by have q0 := lv_neT (a := 0) c2 (by decide); have q1 := lv_neT (a := 1) c3 (by decide); have q2 := lv_neT (a := 2) c4 (by decide); have q3 := lv_neT (a := 3) c5 (by decide); have q4 := lv_neT (a := 4) c6 (by decide); have q5 := lv_neT (a := 5) c7 (by decide); have q6 := lv_neT (a := 6) c8 (by decide); omega) (by decide) ?_
  exact g_throw C hX (text := "what is 0 .. 6") gExN (by decide +kernel) (by decide +kernel) (gt 670 (by decide +kernel) rfl) (gt 103 (by decide +kernel) rfl) (gm 8 rfl) at_2 got_2 d_SQ_about_154 d_SQ_about_157 d_SQ_about_158 d_SQ_about_160 d_SQ_about_163 (by rw [hRm]; decide) (by decide) (gBx_mk 2 h)
theorem m_SpillQueue_about (X : gX) (ad : Nat → Nat) (a1 : Int32) (s : gS) (Q : Int32 → gS → Prop) (XQ : Nat → gS → Prop) (h : wp_SpillQueue_about a1 s Q XQ) (l : Launch) (hl : l.stackTraces = false) : gMX l X y_SQ_about b_SQ_about 2 (some .int) rm_SpillQueue_about 1 6 [.ref (ad 0), .int a1] (wC ad X s) (gBi (wC ad X) Q) (gBx (wC ad X) XQ) :=
  gMX_of hl (by decide +kernel) rfl (Nat.le_of_ble_eq_true rfl) rfl (by decide) (fun E sz C hRm r hX => w_SpillQueue_about X ad a1 s Q XQ h E sz C hRm r hX)
def rm_SpillQueue_requireWord : Room := { frames := 6, cells := 1, slots := 6, locals := 82 }
def wp_SpillQueue_requireWord (a1 : Int32) (a2 : Int32) (s : gS) (Q : gS → Prop) (XQ : Nat → gS → Prop) : Prop := wp_Disk_has a1 a2 s (fun r2 s1 => ((¬ r2 = 0 → Q s1) ∧ (r2 = 0 → XQ 2 s1)))
set_option maxHeartbeats 4000000 in
set_option maxRecDepth 100000 in
theorem w_SpillQueue_requireWord (X : gX) (ad : Nat → Nat) (a1 : Int32) (a2 : Int32) (s : gS) (Q : gS → Prop) (XQ : Nat → gS → Prop) (h : wp_SpillQueue_requireWord a1 a2 s Q XQ) (E : gE) (sz : Nat) (C : gC X E b_SQ_requireWord 3 R_SQ) (hRm : gRm E = rm_SpillQueue_requireWord) (r : gRx X E b_SQ_requireWord none (gBv (wC ad X) Q) 1 6) (hX : gQx X E (wC ad X s) (gBv (wC ad X) Q) (gBx (wC ad X) XQ) 1 6 sz) : gW X E 0 0 (wC ad X s) [(0, .ref (ad 0)), (1, .int a1), (2, .int a2)] 0 [] := by
  have h : wp_Disk_has a1 a2 s (fun r2 s1 => ((¬ r2 = 0 → Q s1) ∧ (r2 = 0 → XQ 2 s1))) := h
  refine g_aload_n C d_SQ_requireWord_0 rfl 0 rfl ?_
  refine g_get C (v := .ref (ad 1)) 0 0 iw_SQ rfl rfl (by decide) (gt 229 (by decide +kernel) rfl) rfl rfl d_SQ_requireWord_1 ?_
  refine g_iload_n C d_SQ_requireWord_4 rfl 1 rfl ?_
  refine g_iload_n C d_SQ_requireWord_5 rfl 2 rfl ?_
  refine g_callVN (host := "SpillQueue") C (rest := []) 1 (fun l => m_Disk_has X ad a1 a2 s _ h l) rfl rfl (gn 706 (by decide +kernel) rfl) cb_DK_has ⟨rfl, rfl⟩ (by rw [hRm]; decide) (by rw [hRm]; decide) rfl rfl (Nat.le_of_ble_eq_true rfl) d_SQ_requireWord_6 (gki (fun r2 s1 h => ?_))
  refine g_if_ne C 22 d_SQ_requireWord_9 (by decide) (fun c3 => ?_) (fun c3 => ?_)
  · have h := h.1 c3
    exact g_vretx r (by decide) (by decide) d_SQ_requireWord_22 (gBv_mk h)
  · have h := h.2 c3
    exact g_throw C hX (text := "no such word") gExN (by decide +kernel) (by decide +kernel) (gt 670 (by decide +kernel) rfl) (gt 103 (by decide +kernel) rfl) (gm 12 rfl) at_2 got_2 d_SQ_requireWord_12 d_SQ_requireWord_15 d_SQ_requireWord_16 d_SQ_requireWord_18 d_SQ_requireWord_21 (by rw [hRm]; decide) (by decide) (gBx_mk 2 h)
theorem m_SpillQueue_requireWord (X : gX) (ad : Nat → Nat) (a1 : Int32) (a2 : Int32) (s : gS) (Q : gS → Prop) (XQ : Nat → gS → Prop) (h : wp_SpillQueue_requireWord a1 a2 s Q XQ) (l : Launch) (hl : l.stackTraces = false) : gMX l X y_SQ_requireWord b_SQ_requireWord 3 none rm_SpillQueue_requireWord 1 6 [.ref (ad 0), .int a1, .int a2] (wC ad X s) (gBv (wC ad X) Q) (gBx (wC ad X) XQ) :=
  gMX_of hl (by decide +kernel) rfl (Nat.le_of_ble_eq_true rfl) rfl (by decide) (fun E sz C hRm r hX => w_SpillQueue_requireWord X ad a1 a2 s Q XQ h E sz C hRm r hX)
def rm_SpillQueue_word : Room := { frames := 7, cells := 1, slots := 6, locals := 104 }
def wp_SpillQueue_word (a1 : Int32) (a2 : Int32) (s : gS) (Q : Int32 → gS → Prop) (XQ : Nat → gS → Prop) : Prop := wp_SpillQueue_requireWord a1 a2 s (fun s1 => wp_Disk_get a1 a2 s1 (fun r4 s3 => Q r4 s3)) XQ
set_option maxHeartbeats 4000000 in
set_option maxRecDepth 100000 in
theorem w_SpillQueue_word (X : gX) (ad : Nat → Nat) (a1 : Int32) (a2 : Int32) (s : gS) (Q : Int32 → gS → Prop) (XQ : Nat → gS → Prop) (h : wp_SpillQueue_word a1 a2 s Q XQ) (E : gE) (sz : Nat) (C : gC X E b_SQ_word 3 R_SQ) (hRm : gRm E = rm_SpillQueue_word) (r : gRx X E b_SQ_word (some .int) (gBi (wC ad X) Q) 1 6) (hX : gQx X E (wC ad X s) (gBi (wC ad X) Q) (gBx (wC ad X) XQ) 1 6 sz) : gW X E 0 0 (wC ad X s) [(0, .ref (ad 0)), (1, .int a1), (2, .int a2)] 0 [] := by
  have h : wp_SpillQueue_requireWord a1 a2 s (fun s1 => wp_Disk_get a1 a2 s1 (fun r4 s3 => Q r4 s3)) XQ := h
  refine g_aload_n C d_SQ_word_0 rfl 0 rfl ?_
  refine g_iload_n C d_SQ_word_1 rfl 1 rfl ?_
  refine g_iload_n C d_SQ_word_2 rfl 2 rfl ?_
  refine g_callVx C hX (rest := []) 0 (fun l hl => m_SpillQueue_requireWord X ad a1 a2 s _ _ h l hl) rfl rfl (gt 702 (by decide +kernel) rfl) cb_SQ_requireWord ⟨rfl, rfl⟩ (by rw [hRm]; decide) (by decide) rfl rfl (Nat.le_of_ble_eq_true rfl) d_SQ_word_3 (fun _ _ h => h) (gkv (fun s1 h => ?_))
  refine g_aload_n C d_SQ_word_6 rfl 0 rfl ?_
  refine g_get C (v := .ref (ad 1)) 0 0 iw_SQ rfl rfl (by decide) (gt 229 (by decide +kernel) rfl) rfl rfl d_SQ_word_7 ?_
  refine g_iload_n C d_SQ_word_10 rfl 1 rfl ?_
  refine g_iload_n C d_SQ_word_11 rfl 2 rfl ?_
  refine g_callVN (host := "SpillQueue") C (rest := []) 1 (fun l => m_Disk_get X ad a1 a2 s1 _ h l) rfl rfl (gn 711 (by decide +kernel) rfl) cb_DK_get ⟨rfl, rfl⟩ (by rw [hRm]; decide) (by rw [hRm]; decide) rfl rfl (Nat.le_of_ble_eq_true rfl) d_SQ_word_12 (gki (fun r4 s3 h => ?_))
  exact g_iretx r (by decide) (by decide) rfl d_SQ_word_15 (gBi_mk h)
theorem m_SpillQueue_word (X : gX) (ad : Nat → Nat) (a1 : Int32) (a2 : Int32) (s : gS) (Q : Int32 → gS → Prop) (XQ : Nat → gS → Prop) (h : wp_SpillQueue_word a1 a2 s Q XQ) (l : Launch) (hl : l.stackTraces = false) : gMX l X y_SQ_word b_SQ_word 3 (some .int) rm_SpillQueue_word 1 6 [.ref (ad 0), .int a1, .int a2] (wC ad X s) (gBi (wC ad X) Q) (gBx (wC ad X) XQ) :=
  gMX_of hl (by decide +kernel) rfl (Nat.le_of_ble_eq_true rfl) rfl (by decide) (fun E sz C hRm r hX => w_SpillQueue_word X ad a1 a2 s Q XQ h E sz C hRm r hX)
def rm_SpillQueue_spoil : Room := { frames := 7, cells := 1, slots := 6, locals := 104 }
def wp_SpillQueue_spoil (a1 : Int32) (a2 : Int32) (a3 : Int32) (s : gS) (Q : gS → Prop) (XQ : Nat → gS → Prop) : Prop := (((s.1 2) = 0 → wp_SpillQueue_requireWord a1 a2 s (fun s2 => wp_Disk_turnOver a1 a2 a3 s2 (fun s4 => Q s4)) XQ) ∧ (¬ (s.1 2) = 0 → XQ 0 s))
set_option maxHeartbeats 4000000 in
set_option maxRecDepth 100000 in
theorem w_SpillQueue_spoil (X : gX) (ad : Nat → Nat) (a1 : Int32) (a2 : Int32) (a3 : Int32) (s : gS) (Q : gS → Prop) (XQ : Nat → gS → Prop) (h : wp_SpillQueue_spoil a1 a2 a3 s Q XQ) (E : gE) (sz : Nat) (C : gC X E b_SQ_spoil 4 R_SQ) (hRm : gRm E = rm_SpillQueue_spoil) (r : gRx X E b_SQ_spoil none (gBv (wC ad X) Q) 1 6) (hX : gQx X E (wC ad X s) (gBv (wC ad X) Q) (gBx (wC ad X) XQ) 1 6 sz) : gW X E 0 0 (wC ad X s) [(0, .ref (ad 0)), (1, .int a1), (2, .int a2), (3, .int a3)] 0 [] := by
  have h : (((s.1 2) = 0 → wp_SpillQueue_requireWord a1 a2 s (fun s2 => wp_Disk_turnOver a1 a2 a3 s2 (fun s4 => Q s4)) XQ) ∧ (¬ (s.1 2) = 0 → XQ 0 s)) := h
  refine g_aload_n C d_SQ_spoil_0 rfl 0 rfl ?_
  refine g_get C (v := .int (s.1 2)) 0 9 iw_SQ rfl rfl (by decide) (gt 238 (by decide +kernel) rfl) rfl rfl d_SQ_spoil_1 ?_
  refine g_if_eq C 17 d_SQ_spoil_4 (by decide) (fun c1 => ?_) (fun c1 => ?_)
  · have h := h.1 c1
    refine g_aload_n C d_SQ_spoil_17 rfl 0 rfl ?_
    refine g_iload_n C d_SQ_spoil_18 rfl 1 rfl ?_
    refine g_iload_n C d_SQ_spoil_19 rfl 2 rfl ?_
    refine g_callVx C hX (rest := []) 0 (fun l hl => m_SpillQueue_requireWord X ad a1 a2 s _ _ h l hl) rfl rfl (gt 702 (by decide +kernel) rfl) cb_SQ_requireWord ⟨rfl, rfl⟩ (by rw [hRm]; decide) (by decide) rfl rfl (Nat.le_of_ble_eq_true rfl) d_SQ_spoil_20 (fun _ _ h => h) (gkv (fun s2 h => ?_))
    refine g_aload_n C d_SQ_spoil_23 rfl 0 rfl ?_
    refine g_get C (v := .ref (ad 1)) 0 0 iw_SQ rfl rfl (by decide) (gt 229 (by decide +kernel) rfl) rfl rfl d_SQ_spoil_24 ?_
    refine g_iload_n C d_SQ_spoil_27 rfl 1 rfl ?_
    refine g_iload_n C d_SQ_spoil_28 rfl 2 rfl ?_
    refine g_iload_n C d_SQ_spoil_29 rfl 3 rfl ?_
    refine g_callVN (host := "SpillQueue") C (rest := []) 1 (fun l => m_Disk_turnOver X ad a1 a2 a3 s2 _ h l) rfl rfl (gn 720 (by decide +kernel) rfl) cb_DK_turnOver ⟨rfl, rfl⟩ (by rw [hRm]; decide) (by rw [hRm]; decide) rfl rfl (Nat.le_of_ble_eq_true rfl) d_SQ_spoil_30 (gkv (fun s4 h => ?_))
    exact g_vretx r (by decide) (by decide) d_SQ_spoil_33 (gBv_mk h)
  · have h := h.2 c1
    exact g_throw C hX (text := "the queue is not dead") gExN (by decide +kernel) (by decide +kernel) (gt 425 (by decide +kernel) rfl) (gt 101 (by decide +kernel) rfl) (gm 9 rfl) at_0 got_0 d_SQ_spoil_7 d_SQ_spoil_10 d_SQ_spoil_11 d_SQ_spoil_13 d_SQ_spoil_16 (by rw [hRm]; decide) (by decide) (gBx_mk 0 h)
theorem m_SpillQueue_spoil (X : gX) (ad : Nat → Nat) (a1 : Int32) (a2 : Int32) (a3 : Int32) (s : gS) (Q : gS → Prop) (XQ : Nat → gS → Prop) (h : wp_SpillQueue_spoil a1 a2 a3 s Q XQ) (l : Launch) (hl : l.stackTraces = false) : gMX l X y_SQ_spoil b_SQ_spoil 4 none rm_SpillQueue_spoil 1 6 [.ref (ad 0), .int a1, .int a2, .int a3] (wC ad X s) (gBv (wC ad X) Q) (gBx (wC ad X) XQ) :=
  gMX_of hl (by decide +kernel) rfl (Nat.le_of_ble_eq_true rfl) rfl (by decide) (fun E sz C hRm r hX => w_SpillQueue_spoil X ad a1 a2 a3 s Q XQ h E sz C hRm r hX)
