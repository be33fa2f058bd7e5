def rm_M_SpillQueueModel_size : Room := { frames := 1, cells := 0, slots := 0, locals := 22 }
def wp_M_SpillQueueModel_size (s : gS) (Q : Int32 → gS → Prop) : Prop := (((s.1 8) = 0 → Q 0 (up s.1 0 (0), s.2)) ∧ (¬ (s.1 8) = 0 → wp_M_SpillQueueModel_size0 (up s.1 0 (0), s.2) (fun r3 s2 => Q r3 s2)))
set_option maxHeartbeats 4000000 in
set_option maxRecDepth 100000 in
theorem w_M_SpillQueueModel_size (X : gX) (ad : Nat → Nat) (s : gS) (Q : Int32 → gS → Prop) (h : wp_M_SpillQueueModel_size  s Q) (E : gE) (C : gC X E b_MO_size 1 R_MO) (hRm : gRm E = rm_M_SpillQueueModel_size) (r : gR X E b_MO_size (some .int) (gBi (wM ad X) Q)) : gW X E 0 0 (wM ad X s) [(0, .ref (ad 0))] 0 [] := by
  have h : (((s.1 8) = 0 → Q 0 (up s.1 0 (0), s.2)) ∧ (¬ (s.1 8) = 0 → wp_M_SpillQueueModel_size0 (up s.1 0 (0), s.2) (fun r3 s2 => Q r3 s2))) := h
  refine g_aload_n C d_MO_size_0 rfl 0 rfl ?_
  refine g_iconst C 0 d_MO_size_1 (by decide) ?_
  refine g_put C (ws2 := wM ad X (up s.1 0 (0), s.2)) 0 0 iw_MO ty_MO tyok_MO nm_MO rfl rfl (by decide) (gt 731 (by decide +kernel) rfl) rfl rfl rfl rfl (Nat.le_of_ble_eq_true rfl) rfl d_MO_size_2 ?_
  refine g_aload_n C d_MO_size_5 rfl 0 rfl ?_
  refine g_get C (v := .int (s.1 8)) 0 9 iw_MO rfl rfl (by decide) (gt 740 (by decide +kernel) rfl) rfl rfl d_MO_size_6 ?_
  refine g_if_eq C 19 d_MO_size_9 (by decide) (fun c1 => ?_) (fun c1 => ?_)
  · have h := h.1 c1
    refine g_iconst C 0 d_MO_size_19 (by decide) ?_
    exact g_iret r rfl d_MO_size_20 (gBi_mk h)
  · have h := h.2 c1
    refine g_aload_n C d_MO_size_12 rfl 0 rfl ?_
    refine g_callV C (rest := []) 0 (fun l => m_M_SpillQueueModel_size0 X ad  (up s.1 0 (0), s.2) _ h l) rfl rfl (gt 976 (by decide +kernel) rfl) cb_MO_size0 ⟨rfl, rfl⟩ (by rw [hRm]; decide) ⟨Nat.zero_le _, Nat.zero_le _⟩ rfl rfl (Nat.le_of_ble_eq_true rfl) d_MO_size_13 (gki (fun r3 s2 h => ?_))
    refine g_goto C 20 d_MO_size_16 (by decide) ?_
    exact g_iret r rfl d_MO_size_20 (gBi_mk h)
theorem m_M_SpillQueueModel_size (X : gX) (ad : Nat → Nat) (s : gS) (Q : Int32 → gS → Prop) (h : wp_M_SpillQueueModel_size  s Q) (l : Launch) : gM l X y_MO_size b_MO_size 1 (some .int) rm_M_SpillQueueModel_size [.ref (ad 0)] (wM ad X s) (gBi (wM ad X) Q) :=
  gM_of (by decide +kernel) rfl (Nat.le_of_ble_eq_true rfl) rfl (fun E C hRm r => w_M_SpillQueueModel_size X ad  s Q h E C hRm r)
def rm_M_SpillQueueModel_run : Room := { frames := 2, cells := 0, slots := 0, locals := 43 }
def wp_M_SpillQueueModel_run (a1 : Int32) (a2 : Int32) (s : gS) (Q : Int32 → gS → Prop) : Prop := ((¬ (s.1 8) = 0 → ((a1 < 0 → Q 0 (up s.1 0 (2), s.2)) ∧ (¬ a1 < 0 → (((s.1 12) ≤ a1 → Q 0 (up s.1 0 (2), s.2)) ∧ (¬ (s.1 12) ≤ a1 → wp_M_SpillQueueModel_within a2 0 5 s (fun r5 s4 => ((¬ r5 = 0 → ((3 ≤ a2 → ((¬ a2 = 3 → ((¬ a2 = 4 → wp_M_SpillQueueModel_least a1 (up s4.1 0 (0), s4.2) (fun r11 s10 => Q r11 s10)) ∧ (a2 = 4 → vp_in a1 16 ∧ (vp_in a1 16 ∧ (wp_M_SpillQueueModel_blocksOf (s4.2 3 a1.toNatClampNeg) (s4.2 4 a1.toNatClampNeg) (up s4.1 0 (0), s4.2) (fun r15 s14 => Q r15 s14)))))) ∧ (a2 = 3 → vp_in a1 16 ∧ (Q (s4.2 5 a1.toNatClampNeg) (up s4.1 0 (0), s4.2))))) ∧ (¬ 3 ≤ a2 → ((¬ a2 = 0 → ((¬ a2 = 1 → vp_in a1 16 ∧ (Q (s4.2 4 a1.toNatClampNeg) (up s4.1 0 (0), s4.2))) ∧ (a2 = 1 → vp_in a1 16 ∧ (Q (s4.2 3 a1.toNatClampNeg) (up s4.1 0 (0), s4.2))))) ∧ (a2 = 0 → vp_in a1 16 ∧ (Q (s4.2 2 a1.toNatClampNeg) (up s4.1 0 (0), s4.2))))))) ∧ (r5 = 0 → Q 0 (up s4.1 0 (2), s4.2))))))))) ∧ ((s.1 8) = 0 → Q 0 (up s.1 0 (1), s.2)))
set_option maxHeartbeats 4000000 in
set_option maxRecDepth 100000 in
theorem w_M_SpillQueueModel_run (X : gX) (ad : Nat → Nat) (a1 : Int32) (a2 : Int32) (s : gS) (Q : Int32 → gS → Prop) (h : wp_M_SpillQueueModel_run a1 a2 s Q) (E : gE) (C : gC X E b_MO_run 3 R_MO) (hRm : gRm E = rm_M_SpillQueueModel_run) (r : gR X E b_MO_run (some .int) (gBi (wM ad X) Q)) : gW X E 0 0 (wM ad X s) [(0, .ref (ad 0)), (1, .int a1), (2, .int a2)] 0 [] := by
  have h : ((¬ (s.1 8) = 0 → ((a1 < 0 → Q 0 (up s.1 0 (2), s.2)) ∧ (¬ a1 < 0 → (((s.1 12) ≤ a1 → Q 0 (up s.1 0 (2), s.2)) ∧ (¬ (s.1 12) ≤ a1 → wp_M_SpillQueueModel_within a2 0 5 s (fun r5 s4 => ((¬ r5 = 0 → ((3 ≤ a2 → ((¬ a2 = 3 → ((¬ a2 = 4 → wp_M_SpillQueueModel_least a1 (up s4.1 0 (0), s4.2) (fun r11 s10 => Q r11 s10)) ∧ (a2 = 4 → vp_in a1 16 ∧ (vp_in a1 16 ∧ (wp_M_SpillQueueModel_blocksOf (s4.2 3 a1.toNatClampNeg) (s4.2 4 a1.toNatClampNeg) (up s4.1 0 (0), s4.2) (fun r15 s14 => Q r15 s14)))))) ∧ (a2 = 3 → vp_in a1 16 ∧ (Q (s4.2 5 a1.toNatClampNeg) (up s4.1 0 (0), s4.2))))) ∧ (¬ 3 ≤ a2 → ((¬ a2 = 0 → ((¬ a2 = 1 → vp_in a1 16 ∧ (Q (s4.2 4 a1.toNatClampNeg) (up s4.1 0 (0), s4.2))) ∧ (a2 = 1 → vp_in a1 16 ∧ (Q (s4.2 3 a1.toNatClampNeg) (up s4.1 0 (0), s4.2))))) ∧ (a2 = 0 → vp_in a1 16 ∧ (Q (s4.2 2 a1.toNatClampNeg) (up s4.1 0 (0), s4.2))))))) ∧ (r5 = 0 → Q 0 (up s4.1 0 (2), s4.2))))))))) ∧ ((s.1 8) = 0 → Q 0 (up s.1 0 (1), s.2))) := h
  refine g_aload_n C d_MO_run_0 rfl 0 rfl ?_
  refine g_aload_n C d_MO_run_1 rfl 0 rfl ?_
  refine g_get C (v := .int (s.1 8)) 0 9 iw_MO rfl rfl (by decide) (gt 740 (by decide +kernel) rfl) rfl rfl d_MO_run_2 ?_
  refine g_if_ne C 12 d_MO_run_5 (by decide) (fun c1 => ?_) (fun c1 => ?_)
  · have h := h.1 c1
    refine g_iload_n C d_MO_run_12 rfl 1 rfl ?_
    refine g_if_lt C 33 d_MO_run_13 (by decide) (fun c2 => ?_) (fun c2 => ?_)
    · have h := h.1 c2
      refine g_iconst C 2 d_MO_run_33 (by decide) ?_
      refine g_goto C 38 d_MO_run_34 (by decide) ?_
      refine g_put C (ws2 := wM ad X (up s.1 0 (2), s.2)) 0 0 iw_MO ty_MO tyok_MO nm_MO rfl rfl (by decide) (gt 731 (by decide +kernel) rfl) rfl rfl rfl rfl (Nat.le_of_ble_eq_true rfl) rfl d_MO_run_38 ?_
      refine g_aload_n C d_MO_run_41 rfl 0 rfl ?_
      refine g_get C (v := .int 2) 0 0 iw_MO rfl rfl (by decide) (gt 731 (by decide +kernel) rfl) rfl rfl d_MO_run_42 ?_
      refine g_if_le C 50 d_MO_run_45 (by decide) (fun c9 => absurd c9 (by decide)) (fun _ => ?_)
      refine g_iconst C 0 d_MO_run_48 (by decide) ?_
      exact g_iret r rfl d_MO_run_49 (gBi_mk h)
    · have h := h.2 c2
      refine g_iload_n C d_MO_run_16 rfl 1 rfl ?_
      refine g_aload_n C d_MO_run_17 rfl 0 rfl ?_
      refine g_get C (v := .int (s.1 12)) 0 14 iw_MO rfl rfl (by decide) (gt 745 (by decide +kernel) rfl) rfl rfl d_MO_run_18 ?_
      refine g_icmp_ge C 33 d_MO_run_21 (by decide) (fun c3 => ?_) (fun c3 => ?_)
      · have h := h.1 c3
        refine g_iconst C 2 d_MO_run_33 (by decide) ?_
        refine g_goto C 38 d_MO_run_34 (by decide) ?_
        refine g_put C (ws2 := wM ad X (up s.1 0 (2), s.2)) 0 0 iw_MO ty_MO tyok_MO nm_MO rfl rfl (by decide) (gt 731 (by decide +kernel) rfl) rfl rfl rfl rfl (Nat.le_of_ble_eq_true rfl) rfl d_MO_run_38 ?_
        refine g_aload_n C d_MO_run_41 rfl 0 rfl ?_
        refine g_get C (v := .int 2) 0 0 iw_MO rfl rfl (by decide) (gt 731 (by decide +kernel) rfl) rfl rfl d_MO_run_42 ?_
        refine g_if_le C 50 d_MO_run_45 (by decide) (fun c9 => absurd c9 (by decide)) (fun _ => ?_)
        refine g_iconst C 0 d_MO_run_48 (by decide) ?_
        exact g_iret r rfl d_MO_run_49 (gBi_mk h)
      · have h := h.2 c3
        refine g_iload_n C d_MO_run_24 rfl 2 rfl ?_
        refine g_iconst C 0 d_MO_run_25 (by decide) ?_
        refine g_iconst C 5 d_MO_run_26 (by decide) ?_
        refine g_callS C (rest := [.ref (ad 0)]) (fun l => m_M_SpillQueueModel_within X ad a2 0 5 s _ h l) (gt 821 (by decide +kernel) rfl) cb_MO_within ⟨rfl, rfl⟩ (by rw [hRm]; decide) ⟨Nat.zero_le _, Nat.zero_le _⟩ rfl rfl (Nat.le_of_ble_eq_true rfl) d_MO_run_27 (gki (fun r5 s4 h => ?_))
        refine g_if_ne C 37 d_MO_run_30 (by decide) (fun c6 => ?_) (fun c6 => ?_)
        · have h := h.1 c6
          refine g_iconst C 0 d_MO_run_37 (by decide) ?_
          refine g_put C (ws2 := wM ad X (up s4.1 0 (0), s4.2)) 0 0 iw_MO ty_MO tyok_MO nm_MO rfl rfl (by decide) (gt 731 (by decide +kernel) rfl) rfl rfl rfl rfl (Nat.le_of_ble_eq_true rfl) rfl d_MO_run_38 ?_
          refine g_aload_n C d_MO_run_41 rfl 0 rfl ?_
          refine g_get C (v := .int 0) 0 0 iw_MO rfl rfl (by decide) (gt 731 (by decide +kernel) rfl) rfl rfl d_MO_run_42 ?_
          refine g_if_le C 50 d_MO_run_45 (by decide) (fun _ => ?_) (fun c9 => absurd c9 (by decide))
          refine g_iload_n C d_MO_run_50 rfl 2 rfl ?_
          refine g_iconst C 3 d_MO_run_51 (by decide) ?_
          refine g_icmp_ge C 89 d_MO_run_52 (by decide) (fun c7 => ?_) (fun c7 => ?_)
          · have h := h.1 c7
            refine g_iload_n C d_MO_run_89 rfl 2 rfl ?_
            refine g_iconst C 3 d_MO_run_90 (by decide) ?_
            refine g_icmp_ne C 103 d_MO_run_91 (by decide) (fun c8 => ?_) (fun c8 => ?_)
            · have h := h.1 c8
              refine g_iload_n C d_MO_run_103 rfl 2 rfl ?_
              refine g_iconst C 4 d_MO_run_104 (by decide) ?_
              refine g_icmp_ne C 127 d_MO_run_105 (by decide) (fun c9 => ?_) (fun c9 => ?_)
              · have h := h.1 c9
                refine g_aload_n C d_MO_run_127 rfl 0 rfl ?_
                refine g_iload_n C d_MO_run_128 rfl 1 rfl ?_
                refine g_callV C (rest := []) 0 (fun l => m_M_SpillQueueModel_least X ad a1 (up s4.1 0 (0), s4.2) _ h l) rfl rfl (gt 940 (by decide +kernel) rfl) cb_MO_least ⟨rfl, rfl⟩ (by rw [hRm]; decide) ⟨Nat.zero_le _, Nat.zero_le _⟩ rfl rfl (Nat.le_of_ble_eq_true rfl) d_MO_run_129 (gki (fun r11 s10 h => ?_))
                exact g_iret r rfl d_MO_run_132 (gBi_mk h)
              · have h := h.2 c9
                refine g_aload_n C d_MO_run_108 rfl 0 rfl ?_
                refine g_aload_n C d_MO_run_109 rfl 0 rfl ?_
                refine g_get C (v := .ref (ad 4)) 0 16 iw_MO rfl rfl (by decide) (gt 747 (by decide +kernel) rfl) rfl rfl d_MO_run_110 ?_
                refine g_iload_n C d_MO_run_113 rfl 1 rfl ?_
                obtain ⟨i12, h⟩ := h
                refine g_iald C 4 0 rfl rfl i12 d_MO_run_114 ?_
                refine g_aload_n C d_MO_run_115 rfl 0 rfl ?_
                refine g_get C (v := .ref (ad 5)) 0 17 iw_MO rfl rfl (by decide) (gt 748 (by decide +kernel) rfl) rfl rfl d_MO_run_116 ?_
                refine g_iload_n C d_MO_run_119 rfl 1 rfl ?_
                obtain ⟨i13, h⟩ := h
                refine g_iald C 5 0 rfl rfl i13 d_MO_run_120 ?_
                refine g_callV C (rest := []) 0 (fun l => m_M_SpillQueueModel_blocksOf X ad (s4.2 3 a1.toNatClampNeg) (s4.2 4 a1.toNatClampNeg) (up s4.1 0 (0), s4.2) _ h l) rfl rfl (gt 848 (by decide +kernel) rfl) cb_MO_blocksOf ⟨rfl, rfl⟩ (by rw [hRm]; decide) ⟨Nat.zero_le _, Nat.zero_le _⟩ rfl rfl (Nat.le_of_ble_eq_true rfl) d_MO_run_121 (gki (fun r15 s14 h => ?_))
                refine g_goto C 132 d_MO_run_124 (by decide) ?_
                exact g_iret r rfl d_MO_run_132 (gBi_mk h)
            · have h := h.2 c8
              refine g_aload_n C d_MO_run_94 rfl 0 rfl ?_
              refine g_get C (v := .ref (ad 6)) 0 18 iw_MO rfl rfl (by decide) (gt 749 (by decide +kernel) rfl) rfl rfl d_MO_run_95 ?_
              refine g_iload_n C d_MO_run_98 rfl 1 rfl ?_
              obtain ⟨i16, h⟩ := h
              refine g_iald C 6 0 rfl rfl i16 d_MO_run_99 ?_
              refine g_goto C 132 d_MO_run_100 (by decide) ?_
              exact g_iret r rfl d_MO_run_132 (gBi_mk h)
          · have h := h.2 c7
            refine g_iload_n C d_MO_run_55 rfl 2 rfl ?_
            refine g_if_ne C 68 d_MO_run_56 (by decide) (fun c17 => ?_) (fun c17 => ?_)
            · have h := h.1 c17
              refine g_iload_n C d_MO_run_68 rfl 2 rfl ?_
              refine g_iconst C 1 d_MO_run_69 (by decide) ?_
              refine g_icmp_ne C 82 d_MO_run_70 (by decide) (fun c18 => ?_) (fun c18 => ?_)
              · have h := h.1 c18
                refine g_aload_n C d_MO_run_82 rfl 0 rfl ?_
                refine g_get C (v := .ref (ad 5)) 0 17 iw_MO rfl rfl (by decide) (gt 748 (by decide +kernel) rfl) rfl rfl d_MO_run_83 ?_
                refine g_iload_n C d_MO_run_86 rfl 1 rfl ?_
                obtain ⟨i19, h⟩ := h
                refine g_iald C 5 0 rfl rfl i19 d_MO_run_87 ?_
                exact g_iret r rfl d_MO_run_88 (gBi_mk h)
              · have h := h.2 c18
                refine g_aload_n C d_MO_run_73 rfl 0 rfl ?_
                refine g_get C (v := .ref (ad 4)) 0 16 iw_MO rfl rfl (by decide) (gt 747 (by decide +kernel) rfl) rfl rfl d_MO_run_74 ?_
                refine g_iload_n C d_MO_run_77 rfl 1 rfl ?_
                obtain ⟨i20, h⟩ := h
                refine g_iald C 4 0 rfl rfl i20 d_MO_run_78 ?_
                refine g_goto C 88 d_MO_run_79 (by decide) ?_
                exact g_iret r rfl d_MO_run_88 (gBi_mk h)
            · have h := h.2 c17
              refine g_aload_n C d_MO_run_59 rfl 0 rfl ?_
              refine g_get C (v := .ref (ad 3)) 0 15 iw_MO rfl rfl (by decide) (gt 746 (by decide +kernel) rfl) rfl rfl d_MO_run_60 ?_
              refine g_iload_n C d_MO_run_63 rfl 1 rfl ?_
              obtain ⟨i21, h⟩ := h
              refine g_iald C 3 0 rfl rfl i21 d_MO_run_64 ?_
              refine g_goto C 88 d_MO_run_65 (by decide) ?_
              exact g_iret r rfl d_MO_run_88 (gBi_mk h)
        · have h := h.2 c6
          refine g_iconst C 2 d_MO_run_33 (by decide) ?_
          refine g_goto C 38 d_MO_run_34 (by decide) ?_
          refine g_put C (ws2 := wM ad X (up s4.1 0 (2), s4.2)) 0 0 iw_MO ty_MO tyok_MO nm_MO rfl rfl (by decide) (gt 731 (by decide +kernel) rfl) rfl rfl rfl rfl (Nat.le_of_ble_eq_true rfl) rfl d_MO_run_38 ?_
          refine g_aload_n C d_MO_run_41 rfl 0 rfl ?_
          refine g_get C (v := .int 2) 0 0 iw_MO rfl rfl (by decide) (gt 731 (by decide +kernel) rfl) rfl rfl d_MO_run_42 ?_
          refine g_if_le C 50 d_MO_run_45 (by decide) (fun c9 => absurd c9 (by decide)) (fun _ => ?_)
          refine g_iconst C 0 d_MO_run_48 (by decide) ?_
          exact g_iret r rfl d_MO_run_49 (gBi_mk h)
  · have h := h.2 c1
    refine g_iconst C 1 d_MO_run_8 (by decide) ?_
    refine g_goto C 38 d_MO_run_9 (by decide) ?_
    refine g_put C (ws2 := wM ad X (up s.1 0 (1), s.2)) 0 0 iw_MO ty_MO tyok_MO nm_MO rfl rfl (by decide) (gt 731 (by decide +kernel) rfl) rfl rfl rfl rfl (Nat.le_of_ble_eq_true rfl) rfl d_MO_run_38 ?_
    refine g_aload_n C d_MO_run_41 rfl 0 rfl ?_
    refine g_get C (v := .int 1) 0 0 iw_MO rfl rfl (by decide) (gt 731 (by decide +kernel) rfl) rfl rfl d_MO_run_42 ?_
    refine g_if_le C 50 d_MO_run_45 (by decide) (fun c9 => absurd c9 (by decide)) (fun _ => ?_)
    refine g_iconst C 0 d_MO_run_48 (by decide) ?_
    exact g_iret r rfl d_MO_run_49 (gBi_mk h)
theorem m_M_SpillQueueModel_run (X : gX) (ad : Nat → Nat) (a1 : Int32) (a2 : Int32) (s : gS) (Q : Int32 → gS → Prop) (h : wp_M_SpillQueueModel_run a1 a2 s Q) (l : Launch) : gM l X y_MO_run b_MO_run 3 (some .int) rm_M_SpillQueueModel_run [.ref (ad 0), .int a1, .int a2] (wM ad X s) (gBi (wM ad X) Q) :=
  gM_of (by decide +kernel) rfl (Nat.le_of_ble_eq_true rfl) rfl (fun E C hRm r => w_M_SpillQueueModel_run X ad a1 a2 s Q h E C hRm r)
def rm_M_SpillQueueModel_about : Room := { frames := 4, cells := 0, slots := 0, locals := 88 }
def wp_M_SpillQueueModel_about (a1 : Int32) (s : gS) (Q : Int32 → gS → Prop) : Prop := wp_M_SpillQueueModel_within a1 0 6 s (fun r2 s1 => ((r2 = 0 → Q 0 (up s1.1 0 (1), s1.2)) ∧ (¬ r2 = 0 → ((a1 ≤ 4 → ((¬ (s1.1 8) = 0 → ((¬ a1 = 0 → ((¬ a1 = 1 → ((¬ a1 = 2 → ((¬ a1 = 3 → wp_M_SpillQueueModel_most (up s1.1 0 (0), s1.2) (fun r11 s10 => Q r11 s10)) ∧ (a1 = 3 → Q (s1.1 11) (up s1.1 0 (0), s1.2)))) ∧ (a1 = 2 → wp_M_SpillQueueModel_free (up s1.1 0 (0), s1.2) (fun r13 s12 => Q r13 s12)))) ∧ (a1 = 1 → Q (s1.1 10) (up s1.1 0 (0), s1.2)))) ∧ (a1 = 0 → Q (s1.1 12) (up s1.1 0 (0), s1.2)))) ∧ ((s1.1 8) = 0 → Q 0 (up s1.1 0 (0), s1.2)))) ∧ (¬ a1 ≤ 4 → ((¬ a1 = 5 → (((s1.1 8) = 0 → Q 1 (up s1.1 0 (0), s1.2)) ∧ (¬ (s1.1 8) = 0 → Q 0 (up s1.1 0 (0), s1.2)))) ∧ (a1 = 5 → Q (s1.1 6) (up s1.1 0 (0), s1.2))))))))
set_option maxHeartbeats 4000000 in
set_option maxRecDepth 100000 in
theorem w_M_SpillQueueModel_about (X : gX) (ad : Nat → Nat) (a1 : Int32) (s : gS) (Q : Int32 → gS → Prop) (h : wp_M_SpillQueueModel_about a1 s Q) (E : gE) (C : gC X E b_MO_about 2 R_MO) (hRm : gRm E = rm_M_SpillQueueModel_about) (r : gR X E b_MO_about (some .int) (gBi (wM ad X) Q)) : gW X E 0 0 (wM ad X s) [(0, .ref (ad 0)), (1, .int a1)] 0 [] := by
  have h : wp_M_SpillQueueModel_within a1 0 6 s (fun r2 s1 => ((r2 = 0 → Q 0 (up s1.1 0 (1), s1.2)) ∧ (¬ r2 = 0 → ((a1 ≤ 4 → ((¬ (s1.1 8) = 0 → ((¬ a1 = 0 → ((¬ a1 = 1 → ((¬ a1 = 2 → ((¬ a1 = 3 → wp_M_SpillQueueModel_most (up s1.1 0 (0), s1.2) (fun r11 s10 => Q r11 s10)) ∧ (a1 = 3 → Q (s1.1 11) (up s1.1 0 (0), s1.2)))) ∧ (a1 = 2 → wp_M_SpillQueueModel_free (up s1.1 0 (0), s1.2) (fun r13 s12 => Q r13 s12)))) ∧ (a1 = 1 → Q (s1.1 10) (up s1.1 0 (0), s1.2)))) ∧ (a1 = 0 → Q (s1.1 12) (up s1.1 0 (0), s1.2)))) ∧ ((s1.1 8) = 0 → Q 0 (up s1.1 0 (0), s1.2)))) ∧ (¬ a1 ≤ 4 → ((¬ a1 = 5 → (((s1.1 8) = 0 → Q 1 (up s1.1 0 (0), s1.2)) ∧ (¬ (s1.1 8) = 0 → Q 0 (up s1.1 0 (0), s1.2)))) ∧ (a1 = 5 → Q (s1.1 6) (up s1.1 0 (0), s1.2)))))))) := h
  refine g_aload_n C d_MO_about_0 rfl 0 rfl ?_
  refine g_iload_n C d_MO_about_1 rfl 1 rfl ?_
  refine g_iconst C 0 d_MO_about_2 (by decide) ?_
  refine g_bipush C 6 d_MO_about_3 (by decide) ?_
  refine g_callS C (rest := [.ref (ad 0)]) (fun l => m_M_SpillQueueModel_within X ad a1 0 6 s _ h l) (gt 821 (by decide +kernel) rfl) cb_MO_within ⟨rfl, rfl⟩ (by rw [hRm]; decide) ⟨Nat.zero_le _, Nat.zero_le _⟩ rfl rfl (Nat.le_of_ble_eq_true rfl) d_MO_about_5 (gki (fun r2 s1 h => ?_))
  refine g_if_eq C 15 d_MO_about_8 (by decide) (fun c3 => ?_) (fun c3 => ?_)
  · have h := h.1 c3
    refine g_iconst C 1 d_MO_about_15 (by decide) ?_
    refine g_put C (ws2 := wM ad X (up s1.1 0 (1), s1.2)) 0 0 iw_MO ty_MO tyok_MO nm_MO rfl rfl (by decide) (gt 731 (by decide +kernel) rfl) rfl rfl rfl rfl (Nat.le_of_ble_eq_true rfl) rfl d_MO_about_16 ?_
    refine g_aload_n C d_MO_about_19 rfl 0 rfl ?_
    refine g_get C (v := .int 1) 0 0 iw_MO rfl rfl (by decide) (gt 731 (by decide +kernel) rfl) rfl rfl d_MO_about_20 ?_
    refine g_if_le C 28 d_MO_about_23 (by decide) (fun c9 => absurd c9 (by decide)) (fun _ => ?_)
    refine g_iconst C 0 d_MO_about_26 (by decide) ?_
    exact g_iret r rfl d_MO_about_27 (gBi_mk h)
  · have h := h.2 c3
    refine g_iconst C 0 d_MO_about_11 (by decide) ?_
    refine g_goto C 16 d_MO_about_12 (by decide) ?_
    refine g_put C (ws2 := wM ad X (up s1.1 0 (0), s1.2)) 0 0 iw_MO ty_MO tyok_MO nm_MO rfl rfl (by decide) (gt 731 (by decide +kernel) rfl) rfl rfl rfl rfl (Nat.le_of_ble_eq_true rfl) rfl d_MO_about_16 ?_
    refine g_aload_n C d_MO_about_19 rfl 0 rfl ?_
    refine g_get C (v := .int 0) 0 0 iw_MO rfl rfl (by decide) (gt 731 (by decide +kernel) rfl) rfl rfl d_MO_about_20 ?_
    refine g_if_le C 28 d_MO_about_23 (by decide) (fun _ => ?_) (fun c9 => absurd c9 (by decide))
    refine g_iload_n C d_MO_about_28 rfl 1 rfl ?_
    refine g_iconst C 4 d_MO_about_29 (by decide) ?_
    refine g_icmp_le C 58 d_MO_about_30 (by decide) (fun c4 => ?_) (fun c4 => ?_)
    · have h := h.1 c4
      refine g_aload_n C d_MO_about_58 rfl 0 rfl ?_
      refine g_get C (v := .int (s1.1 8)) 0 9 iw_MO rfl rfl (by decide) (gt 740 (by decide +kernel) rfl) rfl rfl d_MO_about_59 ?_
      refine g_if_ne C 67 d_MO_about_62 (by decide) (fun c5 => ?_) (fun c5 => ?_)
      · have h := h.1 c5
        refine g_iload_n C d_MO_about_67 rfl 1 rfl ?_
        refine g_if_ne C 78 d_MO_about_68 (by decide) (fun c6 => ?_) (fun c6 => ?_)
        · have h := h.1 c6
          refine g_iload_n C d_MO_about_78 rfl 1 rfl ?_
          refine g_iconst C 1 d_MO_about_79 (by decide) ?_
          refine g_icmp_ne C 90 d_MO_about_80 (by decide) (fun c7 => ?_) (fun c7 => ?_)
          · have h := h.1 c7
            refine g_iload_n C d_MO_about_90 rfl 1 rfl ?_
            refine g_iconst C 2 d_MO_about_91 (by decide) ?_
            refine g_icmp_ne C 102 d_MO_about_92 (by decide) (fun c8 => ?_) (fun c8 => ?_)
            · have h := h.1 c8
              refine g_iload_n C d_MO_about_102 rfl 1 rfl ?_
              refine g_iconst C 3 d_MO_about_103 (by decide) ?_
              refine g_icmp_ne C 114 d_MO_about_104 (by decide) (fun c9 => ?_) (fun c9 => ?_)
              · have h := h.1 c9
                refine g_aload_n C d_MO_about_114 rfl 0 rfl ?_
                refine g_callV C (rest := []) 0 (fun l => m_M_SpillQueueModel_most X ad  (up s1.1 0 (0), s1.2) _ h l) rfl rfl (gt 864 (by decide +kernel) rfl) cb_MO_most ⟨rfl, rfl⟩ (by rw [hRm]; decide) ⟨Nat.zero_le _, Nat.zero_le _⟩ rfl rfl (Nat.le_of_ble_eq_true rfl) d_MO_about_115 (gki (fun r11 s10 h => ?_))
                exact g_iret r rfl d_MO_about_118 (gBi_mk h)
              · have h := h.2 c9
                refine g_aload_n C d_MO_about_107 rfl 0 rfl ?_
                refine g_get C (v := .int (s1.1 11)) 0 13 iw_MO rfl rfl (by decide) (gt 744 (by decide +kernel) rfl) rfl rfl d_MO_about_108 ?_
                refine g_goto C 118 d_MO_about_111 (by decide) ?_
                exact g_iret r rfl d_MO_about_118 (gBi_mk h)
            · have h := h.2 c8
              refine g_aload_n C d_MO_about_95 rfl 0 rfl ?_
              refine g_callV C (rest := []) 0 (fun l => m_M_SpillQueueModel_free X ad  (up s1.1 0 (0), s1.2) _ h l) rfl rfl (gt 880 (by decide +kernel) rfl) cb_MO_free ⟨rfl, rfl⟩ (by rw [hRm]; decide) ⟨Nat.zero_le _, Nat.zero_le _⟩ rfl rfl (Nat.le_of_ble_eq_true rfl) d_MO_about_96 (gki (fun r13 s12 h => ?_))
              refine g_goto C 118 d_MO_about_99 (by decide) ?_
              exact g_iret r rfl d_MO_about_118 (gBi_mk h)
          · have h := h.2 c7
            refine g_aload_n C d_MO_about_83 rfl 0 rfl ?_
            refine g_get C (v := .int (s1.1 10)) 0 11 iw_MO rfl rfl (by decide) (gt 742 (by decide +kernel) rfl) rfl rfl d_MO_about_84 ?_
            refine g_goto C 118 d_MO_about_87 (by decide) ?_
            exact g_iret r rfl d_MO_about_118 (gBi_mk h)
        · have h := h.2 c6
          refine g_aload_n C d_MO_about_71 rfl 0 rfl ?_
          refine g_get C (v := .int (s1.1 12)) 0 14 iw_MO rfl rfl (by decide) (gt 745 (by decide +kernel) rfl) rfl rfl d_MO_about_72 ?_
          refine g_goto C 118 d_MO_about_75 (by decide) ?_
          exact g_iret r rfl d_MO_about_118 (gBi_mk h)
      · have h := h.2 c5
        refine g_iconst C 0 d_MO_about_65 (by decide) ?_
        exact g_iret r rfl d_MO_about_66 (gBi_mk h)
    · have h := h.2 c4
      refine g_iload_n C d_MO_about_33 rfl 1 rfl ?_
      refine g_iconst C 5 d_MO_about_34 (by decide) ?_
      refine g_icmp_ne C 45 d_MO_about_35 (by decide) (fun c14 => ?_) (fun c14 => ?_)
      · have h := h.1 c14
        refine g_aload_n C d_MO_about_45 rfl 0 rfl ?_
        refine g_get C (v := .int (s1.1 8)) 0 9 iw_MO rfl rfl (by decide) (gt 740 (by decide +kernel) rfl) rfl rfl d_MO_about_46 ?_
        refine g_if_eq C 56 d_MO_about_49 (by decide) (fun c15 => ?_) (fun c15 => ?_)
        · have h := h.1 c15
          refine g_iconst C 1 d_MO_about_56 (by decide) ?_
          exact g_iret r rfl d_MO_about_57 (gBi_mk h)
        · have h := h.2 c15
          refine g_iconst C 0 d_MO_about_52 (by decide) ?_
          refine g_goto C 57 d_MO_about_53 (by decide) ?_
          exact g_iret r rfl d_MO_about_57 (gBi_mk h)
      · have h := h.2 c14
        refine g_aload_n C d_MO_about_38 rfl 0 rfl ?_
        refine g_get C (v := .int (s1.1 6)) 0 7 iw_MO rfl rfl (by decide) (gt 738 (by decide +kernel) rfl) rfl rfl d_MO_about_39 ?_
        refine g_goto C 57 d_MO_about_42 (by decide) ?_
        exact g_iret r rfl d_MO_about_57 (gBi_mk h)
theorem m_M_SpillQueueModel_about (X : gX) (ad : Nat → Nat) (a1 : Int32) (s : gS) (Q : Int32 → gS → Prop) (h : wp_M_SpillQueueModel_about a1 s Q) (l : Launch) : gM l X y_MO_about b_MO_about 2 (some .int) rm_M_SpillQueueModel_about [.ref (ad 0), .int a1] (wM ad X s) (gBi (wM ad X) Q) :=
  gM_of (by decide +kernel) rfl (Nat.le_of_ble_eq_true rfl) rfl (fun E C hRm r => w_M_SpillQueueModel_about X ad a1 s Q h E C hRm r)
def rm_M_SpillQueueModel_isWord : Room := { frames := 1, cells := 0, slots := 0, locals := 22 }
def wp_M_SpillQueueModel_isWord (a1 : Int32) (a2 : Int32) (s : gS) (Q : Int32 → gS → Prop) : Prop := (((s.1 1) = 0 → Q 0 s) ∧ (¬ (s.1 1) = 0 → wp_M_SpillQueueModel_within a1 0 ((s.1 2) - 1) s (fun r3 s2 => ((r3 = 0 → Q 0 s2) ∧ (¬ r3 = 0 → wp_M_SpillQueueModel_within a2 0 ((s2.1 3) - 1) s2 (fun r6 s5 => ((r6 = 0 → Q 0 s5) ∧ (¬ r6 = 0 → Q 1 s5))))))))
set_option maxHeartbeats 4000000 in
set_option maxRecDepth 100000 in
theorem w_M_SpillQueueModel_isWord (X : gX) (ad : Nat → Nat) (a1 : Int32) (a2 : Int32) (s : gS) (Q : Int32 → gS → Prop) (h : wp_M_SpillQueueModel_isWord a1 a2 s Q) (E : gE) (C : gC X E b_MO_isWord 3 R_MO) (hRm : gRm E = rm_M_SpillQueueModel_isWord) (r : gR X E b_MO_isWord (some .boolean) (gBi (wM ad X) Q)) : gW X E 0 0 (wM ad X s) [(0, .ref (ad 0)), (1, .int a1), (2, .int a2)] 0 [] := by
  have h : (((s.1 1) = 0 → Q 0 s) ∧ (¬ (s.1 1) = 0 → wp_M_SpillQueueModel_within a1 0 ((s.1 2) - 1) s (fun r3 s2 => ((r3 = 0 → Q 0 s2) ∧ (¬ r3 = 0 → wp_M_SpillQueueModel_within a2 0 ((s2.1 3) - 1) s2 (fun r6 s5 => ((r6 = 0 → Q 0 s5) ∧ (¬ r6 = 0 → Q 1 s5)))))))) := h
  refine g_aload_n C d_MO_isWord_0 rfl 0 rfl ?_
  refine g_get C (v := .int (s.1 1)) 0 1 iw_MO rfl rfl (by decide) (gt 732 (by decide +kernel) rfl) rfl rfl d_MO_isWord_1 ?_
  refine g_if_eq C 39 d_MO_isWord_4 (by decide) (fun c1 => ?_) (fun c1 => ?_)
  · have h := h.1 c1
    refine g_iconst C 0 d_MO_isWord_39 (by decide) ?_
    exact g_iret r rfl d_MO_isWord_40 (gBi_mk h)
  · have h := h.2 c1
    refine g_iload_n C d_MO_isWord_7 rfl 1 rfl ?_
    refine g_iconst C 0 d_MO_isWord_8 (by decide) ?_
    refine g_aload_n C d_MO_isWord_9 rfl 0 rfl ?_
    refine g_get C (v := .int (s.1 2)) 0 2 iw_MO rfl rfl (by decide) (gt 733 (by decide +kernel) rfl) rfl rfl d_MO_isWord_10 ?_
    refine g_iconst C 1 d_MO_isWord_13 (by decide) ?_
    refine g_isub C d_MO_isWord_14 ?_
    refine g_callS C (rest := []) (fun l => m_M_SpillQueueModel_within X ad a1 0 ((s.1 2) - 1) s _ h l) (gt 821 (by decide +kernel) rfl) cb_MO_within ⟨rfl, rfl⟩ (by rw [hRm]; decide) ⟨Nat.zero_le _, Nat.zero_le _⟩ rfl rfl (Nat.le_of_ble_eq_true rfl) d_MO_isWord_15 (gki (fun r3 s2 h => ?_))
    refine g_if_eq C 39 d_MO_isWord_18 (by decide) (fun c4 => ?_) (fun c4 => ?_)
    · have h := h.1 c4
      refine g_iconst C 0 d_MO_isWord_39 (by decide) ?_
      exact g_iret r rfl d_MO_isWord_40 (gBi_mk h)
    · have h := h.2 c4
      refine g_iload_n C d_MO_isWord_21 rfl 2 rfl ?_
      refine g_iconst C 0 d_MO_isWord_22 (by decide) ?_
      refine g_aload_n C d_MO_isWord_23 rfl 0 rfl ?_
      refine g_get C (v := .int (s2.1 3)) 0 3 iw_MO rfl rfl (by decide) (gt 734 (by decide +kernel) rfl) rfl rfl d_MO_isWord_24 ?_
      refine g_iconst C 1 d_MO_isWord_27 (by decide) ?_
      refine g_isub C d_MO_isWord_28 ?_
      refine g_callS C (rest := []) (fun l => m_M_SpillQueueModel_within X ad a2 0 ((s2.1 3) - 1) s2 _ h l) (gt 821 (by decide +kernel) rfl) cb_MO_within ⟨rfl, rfl⟩ (by rw [hRm]; decide) ⟨Nat.zero_le _, Nat.zero_le _⟩ rfl rfl (Nat.le_of_ble_eq_true rfl) d_MO_isWord_29 (gki (fun r6 s5 h => ?_))
      refine g_if_eq C 39 d_MO_isWord_32 (by decide) (fun c7 => ?_) (fun c7 => ?_)
      · have h := h.1 c7
        refine g_iconst C 0 d_MO_isWord_39 (by decide) ?_
        exact g_iret r rfl d_MO_isWord_40 (gBi_mk h)
      · have h := h.2 c7
        refine g_iconst C 1 d_MO_isWord_35 (by decide) ?_
        refine g_goto C 40 d_MO_isWord_36 (by decide) ?_
        exact g_iret r rfl d_MO_isWord_40 (gBi_mk h)
theorem m_M_SpillQueueModel_isWord (X : gX) (ad : Nat → Nat) (a1 : Int32) (a2 : Int32) (s : gS) (Q : Int32 → gS → Prop) (h : wp_M_SpillQueueModel_isWord a1 a2 s Q) (l : Launch) : gM l X y_MO_isWord b_MO_isWord 3 (some .boolean) rm_M_SpillQueueModel_isWord [.ref (ad 0), .int a1, .int a2] (wM ad X s) (gBi (wM ad X) Q) :=
  gM_of (by decide +kernel) rfl (Nat.le_of_ble_eq_true rfl) rfl (fun E C hRm r => w_M_SpillQueueModel_isWord X ad a1 a2 s Q h E C hRm r)
def rm_M_SpillQueueModel_word : Room := { frames := 2, cells := 0, slots := 0, locals := 44 }
def wp_M_SpillQueueModel_word (a1 : Int32) (a2 : Int32) (s : gS) (Q : Int32 → gS → Prop) : Prop := wp_M_SpillQueueModel_isWord a1 a2 s (fun r2 s1 => ((r2 = 0 → Q 0 (up s1.1 0 (1), s1.2)) ∧ (¬ r2 = 0 → wp_M_SpillQueueModel_at a1 a2 (up s1.1 0 (0), s1.2) (fun r5 s4 => Q r5 s4))))
set_option maxHeartbeats 4000000 in
set_option maxRecDepth 100000 in
theorem w_M_SpillQueueModel_word (X : gX) (ad : Nat → Nat) (a1 : Int32) (a2 : Int32) (s : gS) (Q : Int32 → gS → Prop) (h : wp_M_SpillQueueModel_word a1 a2 s Q) (E : gE) (C : gC X E b_MO_word 3 R_MO) (hRm : gRm E = rm_M_SpillQueueModel_word) (r : gR X E b_MO_word (some .int) (gBi (wM ad X) Q)) : gW X E 0 0 (wM ad X s) [(0, .ref (ad 0)), (1, .int a1), (2, .int a2)] 0 [] := by
  have h : wp_M_SpillQueueModel_isWord a1 a2 s (fun r2 s1 => ((r2 = 0 → Q 0 (up s1.1 0 (1), s1.2)) ∧ (¬ r2 = 0 → wp_M_SpillQueueModel_at a1 a2 (up s1.1 0 (0), s1.2) (fun r5 s4 => Q r5 s4)))) := h
  refine g_aload_n C d_MO_word_0 rfl 0 rfl ?_
  refine g_aload_n C d_MO_word_1 rfl 0 rfl ?_
  refine g_iload_n C d_MO_word_2 rfl 1 rfl ?_
  refine g_iload_n C d_MO_word_3 rfl 2 rfl ?_
  refine g_callV C (rest := [.ref (ad 0)]) 0 (fun l => m_M_SpillQueueModel_isWord X ad a1 a2 s _ h l) rfl rfl (gt 996 (by decide +kernel) rfl) cb_MO_isWord ⟨rfl, rfl⟩ (by rw [hRm]; decide) ⟨Nat.zero_le _, Nat.zero_le _⟩ rfl rfl (Nat.le_of_ble_eq_true rfl) d_MO_word_4 (gki (fun r2 s1 h => ?_))
  refine g_if_eq C 14 d_MO_word_7 (by decide) (fun c3 => ?_) (fun c3 => ?_)
  · have h := h.1 c3
    refine g_iconst C 1 d_MO_word_14 (by decide) ?_
    refine g_put C (ws2 := wM ad X (up s1.1 0 (1), s1.2)) 0 0 iw_MO ty_MO tyok_MO nm_MO rfl rfl (by decide) (gt 731 (by decide +kernel) rfl) rfl rfl rfl rfl (Nat.le_of_ble_eq_true rfl) rfl d_MO_word_15 ?_
    refine g_aload_n C d_MO_word_18 rfl 0 rfl ?_
    refine g_get C (v := .int 1) 0 0 iw_MO rfl rfl (by decide) (gt 731 (by decide +kernel) rfl) rfl rfl d_MO_word_19 ?_
    refine g_if_le C 29 d_MO_word_22 (by decide) (fun c9 => absurd c9 (by decide)) (fun _ => ?_)
    refine g_iconst C 0 d_MO_word_25 (by decide) ?_
    refine g_goto C 35 d_MO_word_26 (by decide) ?_
    exact g_iret r rfl d_MO_word_35 (gBi_mk h)
  · have h := h.2 c3
    refine g_iconst C 0 d_MO_word_10 (by decide) ?_
    refine g_goto C 15 d_MO_word_11 (by decide) ?_
    refine g_put C (ws2 := wM ad X (up s1.1 0 (0), s1.2)) 0 0 iw_MO ty_MO tyok_MO nm_MO rfl rfl (by decide) (gt 731 (by decide +kernel) rfl) rfl rfl rfl rfl (Nat.le_of_ble_eq_true rfl) rfl d_MO_word_15 ?_
    refine g_aload_n C d_MO_word_18 rfl 0 rfl ?_
    refine g_get C (v := .int 0) 0 0 iw_MO rfl rfl (by decide) (gt 731 (by decide +kernel) rfl) rfl rfl d_MO_word_19 ?_
    refine g_if_le C 29 d_MO_word_22 (by decide) (fun _ => ?_) (fun c9 => absurd c9 (by decide))
    refine g_aload_n C d_MO_word_29 rfl 0 rfl ?_
    refine g_iload_n C d_MO_word_30 rfl 1 rfl ?_
    refine g_iload_n C d_MO_word_31 rfl 2 rfl ?_
    refine g_callV C (rest := []) 0 (fun l => m_M_SpillQueueModel_at X ad a1 a2 (up s1.1 0 (0), s1.2) _ h l) rfl rfl (gt 840 (by decide +kernel) rfl) cb_MO_at ⟨rfl, rfl⟩ (by rw [hRm]; decide) ⟨Nat.zero_le _, Nat.zero_le _⟩ rfl rfl (Nat.le_of_ble_eq_true rfl) d_MO_word_32 (gki (fun r5 s4 h => ?_))
    exact g_iret r rfl d_MO_word_35 (gBi_mk h)
theorem m_M_SpillQueueModel_word (X : gX) (ad : Nat → Nat) (a1 : Int32) (a2 : Int32) (s : gS) (Q : Int32 → gS → Prop) (h : wp_M_SpillQueueModel_word a1 a2 s Q) (l : Launch) : gM l X y_MO_word b_MO_word 3 (some .int) rm_M_SpillQueueModel_word [.ref (ad 0), .int a1, .int a2] (wM ad X s) (gBi (wM ad X) Q) :=
  gM_of (by decide +kernel) rfl (Nat.le_of_ble_eq_true rfl) rfl (fun E C hRm r => w_M_SpillQueueModel_word X ad a1 a2 s Q h E C hRm r)
def rm_M_SpillQueueModel_spoil : Room := { frames := 2, cells := 0, slots := 0, locals := 44 }
def wp_M_SpillQueueModel_spoil (a1 : Int32) (a2 : Int32) (a3 : Int32) (s : gS) (Q : gS → Prop) : Prop := (((s.1 8) = 0 → wp_M_SpillQueueModel_isWord a1 a2 s (fun r3 s2 => ((¬ r3 = 0 → vp_in ((40 * a1) + a2) 8000 ∧ (∀ v6 : Int32, v6 = (s2.2 0 ((40 * a1) + a2).toNatClampNeg) ^^^ a3 → vp_in ((40 * a1) + a2) 8000 ∧ (Q (up s2.1 0 (0), ua s2.2 0 (upd (s2.2 0) ((40 * a1) + a2).toNatClampNeg v6))))) ∧ (r3 = 0 → Q (up s2.1 0 (2), s2.2))))) ∧ (¬ (s.1 8) = 0 → Q (up s.1 0 (1), s.2)))
set_option maxHeartbeats 4000000 in
set_option maxRecDepth 100000 in
theorem w_M_SpillQueueModel_spoil (X : gX) (ad : Nat → Nat) (a1 : Int32) (a2 : Int32) (a3 : Int32) (s : gS) (Q : gS → Prop) (h : wp_M_SpillQueueModel_spoil a1 a2 a3 s Q) (E : gE) (C : gC X E b_MO_spoil 4 R_MO) (hRm : gRm E = rm_M_SpillQueueModel_spoil) (r : gR X E b_MO_spoil none (gBv (wM ad X) Q)) : gW X E 0 0 (wM ad X s) [(0, .ref (ad 0)), (1, .int a1), (2, .int a2), (3, .int a3)] 0 [] := by
  have h : (((s.1 8) = 0 → wp_M_SpillQueueModel_isWord a1 a2 s (fun r3 s2 => ((¬ r3 = 0 → vp_in ((40 * a1) + a2) 8000 ∧ (∀ v6 : Int32, v6 = (s2.2 0 ((40 * a1) + a2).toNatClampNeg) ^^^ a3 → vp_in ((40 * a1) + a2) 8000 ∧ (Q (up s2.1 0 (0), ua s2.2 0 (upd (s2.2 0) ((40 * a1) + a2).toNatClampNeg v6))))) ∧ (r3 = 0 → Q (up s2.1 0 (2), s2.2))))) ∧ (¬ (s.1 8) = 0 → Q (up s.1 0 (1), s.2))) := h
  refine g_aload_n C d_MO_spoil_0 rfl 0 rfl ?_
  refine g_aload_n C d_MO_spoil_1 rfl 0 rfl ?_
  refine g_get C (v := .int (s.1 8)) 0 9 iw_MO rfl rfl (by decide) (gt 740 (by decide +kernel) rfl) rfl rfl d_MO_spoil_2 ?_
  refine g_if_eq C 12 d_MO_spoil_5 (by decide) (fun c1 => ?_) (fun c1 => ?_)
  · have h := h.1 c1
    refine g_aload_n C d_MO_spoil_12 rfl 0 rfl ?_
    refine g_iload_n C d_MO_spoil_13 rfl 1 rfl ?_
    refine g_iload_n C d_MO_spoil_14 rfl 2 rfl ?_
    refine g_callV C (rest := [.ref (ad 0)]) 0 (fun l => m_M_SpillQueueModel_isWord X ad a1 a2 s _ h l) rfl rfl (gt 996 (by decide +kernel) rfl) cb_MO_isWord ⟨rfl, rfl⟩ (by rw [hRm]; decide) ⟨Nat.zero_le _, Nat.zero_le _⟩ rfl rfl (Nat.le_of_ble_eq_true rfl) d_MO_spoil_15 (gki (fun r3 s2 h => ?_))
    refine g_if_ne C 25 d_MO_spoil_18 (by decide) (fun c4 => ?_) (fun c4 => ?_)
    · have h := h.1 c4
      refine g_iconst C 0 d_MO_spoil_25 (by decide) ?_
      refine g_put C (ws2 := wM ad X (up s2.1 0 (0), s2.2)) 0 0 iw_MO ty_MO tyok_MO nm_MO rfl rfl (by decide) (gt 731 (by decide +kernel) rfl) rfl rfl rfl rfl (Nat.le_of_ble_eq_true rfl) rfl d_MO_spoil_26 ?_
      refine g_aload_n C d_MO_spoil_29 rfl 0 rfl ?_
      refine g_get C (v := .int 0) 0 0 iw_MO rfl rfl (by decide) (gt 731 (by decide +kernel) rfl) rfl rfl d_MO_spoil_30 ?_
      refine g_if_ne C 60 d_MO_spoil_33 (by decide) (fun c9 => absurd c9 (by decide)) (fun _ => ?_)
      refine g_aload_n C d_MO_spoil_36 rfl 0 rfl ?_
      refine g_get C (v := .ref (ad 1)) 0 6 iw_MO rfl rfl (by decide) (gt 737 (by decide +kernel) rfl) rfl rfl d_MO_spoil_37 ?_
      refine g_bipush C 40 d_MO_spoil_40 (by decide) ?_
      refine g_iload_n C d_MO_spoil_42 rfl 1 rfl ?_
      refine g_imul C d_MO_spoil_43 ?_
      refine g_iload_n C d_MO_spoil_44 rfl 2 rfl ?_
      refine g_iadd C d_MO_spoil_45 ?_
      refine g_aload_n C d_MO_spoil_46 rfl 0 rfl ?_
      refine g_get C (v := .ref (ad 1)) 0 6 iw_MO rfl rfl (by decide) (gt 737 (by decide +kernel) rfl) rfl rfl d_MO_spoil_47 ?_
      refine g_bipush C 40 d_MO_spoil_50 (by decide) ?_
      refine g_iload_n C d_MO_spoil_52 rfl 1 rfl ?_
      refine g_imul C d_MO_spoil_53 ?_
      refine g_iload_n C d_MO_spoil_54 rfl 2 rfl ?_
      refine g_iadd C d_MO_spoil_55 ?_
      obtain ⟨i5, h⟩ := h
      refine g_iald C 1 0 rfl rfl i5 d_MO_spoil_56 ?_
      refine g_iload_n C d_MO_spoil_57 rfl 3 rfl ?_
      refine g_ixor C d_MO_spoil_58 ?_
      refine g_topi (fun v6 e_v6 => ?_)
      have h := h v6 e_v6
      obtain ⟨i7, h⟩ := h
      refine g_iast C 1 0 (ws2 := wM ad X (up s2.1 0 (0), ua s2.2 0 (upd (s2.2 0) ((40 * a1) + a2).toNatClampNeg v6))) rfl rfl i7 rfl d_MO_spoil_59 ?_
      exact g_vret r d_MO_spoil_60 (gBv_mk h)
    · have h := h.2 c4
      refine g_iconst C 2 d_MO_spoil_21 (by decide) ?_
      refine g_goto C 26 d_MO_spoil_22 (by decide) ?_
      refine g_put C (ws2 := wM ad X (up s2.1 0 (2), s2.2)) 0 0 iw_MO ty_MO tyok_MO nm_MO rfl rfl (by decide) (gt 731 (by decide +kernel) rfl) rfl rfl rfl rfl (Nat.le_of_ble_eq_true rfl) rfl d_MO_spoil_26 ?_
      refine g_aload_n C d_MO_spoil_29 rfl 0 rfl ?_
      refine g_get C (v := .int 2) 0 0 iw_MO rfl rfl (by decide) (gt 731 (by decide +kernel) rfl) rfl rfl d_MO_spoil_30 ?_
      refine g_if_ne C 60 d_MO_spoil_33 (by decide) (fun _ => ?_) (fun c9 => absurd c9 (by decide))
      exact g_vret r d_MO_spoil_60 (gBv_mk h)
  · have h := h.2 c1
    refine g_iconst C 1 d_MO_spoil_8 (by decide) ?_
    refine g_goto C 26 d_MO_spoil_9 (by decide) ?_
    refine g_put C (ws2 := wM ad X (up s.1 0 (1), s.2)) 0 0 iw_MO ty_MO tyok_MO nm_MO rfl rfl (by decide) (gt 731 (by decide +kernel) rfl) rfl rfl rfl rfl (Nat.le_of_ble_eq_true rfl) rfl d_MO_spoil_26 ?_
    refine g_aload_n C d_MO_spoil_29 rfl 0 rfl ?_
    refine g_get C (v := .int 1) 0 0 iw_MO rfl rfl (by decide) (gt 731 (by decide +kernel) rfl) rfl rfl d_MO_spoil_30 ?_
    refine g_if_ne C 60 d_MO_spoil_33 (by decide) (fun _ => ?_) (fun c9 => absurd c9 (by decide))
    exact g_vret r d_MO_spoil_60 (gBv_mk h)
theorem m_M_SpillQueueModel_spoil (X : gX) (ad : Nat → Nat) (a1 : Int32) (a2 : Int32) (a3 : Int32) (s : gS) (Q : gS → Prop) (h : wp_M_SpillQueueModel_spoil a1 a2 a3 s Q) (l : Launch) : gM l X y_MO_spoil b_MO_spoil 4 none rm_M_SpillQueueModel_spoil [.ref (ad 0), .int a1, .int a2, .int a3] (wM ad X s) (gBv (wM ad X) Q) :=
  gM_of (by decide +kernel) rfl (Nat.le_of_ble_eq_true rfl) rfl (fun E C hRm r => w_M_SpillQueueModel_spoil X ad a1 a2 a3 s Q h E C hRm r)
