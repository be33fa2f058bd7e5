def rm_M_SpillQueueModel_sync : Room := { frames := 8, cells := 0, slots := 0, locals := 183 }
def wp_M_SpillQueueModel_sync (s : gS) (Q : Int32 → gS → Prop) : Prop := (((s.1 8) = 0 → Q 0 (up s.1 0 (1), s.2)) ∧ (¬ (s.1 8) = 0 → (((s.1 10) ≤ 0 → ((¬ (s.1 9) = 0 → wp_M_SpillQueueModel_after 0 (up s.1 0 (0), s.2) (fun r5 s4 => Q r5 s4)) ∧ ((s.1 9) = 0 → wp_M_SpillQueueModel_writeSuper (up s.1 0 (0), s.2) (fun s6 => wp_M_SpillQueueModel_after 0 s6 (fun r9 s8 => Q r9 s8))))) ∧ (¬ (s.1 10) ≤ 0 → wp_M_SpillQueueModel_spill (up s.1 0 (0), s.2) (fun r11 s10 => ((¬ r11 = 0 → ((¬ (s10.1 9) = 0 → wp_M_SpillQueueModel_after 0 s10 (fun r15 s14 => Q r15 s14)) ∧ ((s10.1 9) = 0 → wp_M_SpillQueueModel_writeSuper s10 (fun s16 => wp_M_SpillQueueModel_after 0 s16 (fun r19 s18 => Q r19 s18))))) ∧ (r11 = 0 → wp_M_SpillQueueModel_after (-2) s10 (fun r21 s20 => Q r21 s20))))))))
set_option maxHeartbeats 4000000 in
set_option maxRecDepth 100000 in
theorem w_M_SpillQueueModel_sync (X : gX) (ad : Nat → Nat) (s : gS) (Q : Int32 → gS → Prop) (h : wp_M_SpillQueueModel_sync  s Q) (E : gE) (C : gC X E b_MO_sync 1 R_MO) (hRm : gRm E = rm_M_SpillQueueModel_sync) (r : gR X E b_MO_sync (some .int) (gBi (wM ad X) Q)) : gW X E 0 0 (wM ad X s) [(0, .ref (ad 0))] 0 [] := by
  have h : (((s.1 8) = 0 → Q 0 (up s.1 0 (1), s.2)) ∧ (¬ (s.1 8) = 0 → (((s.1 10) ≤ 0 → ((¬ (s.1 9) = 0 → wp_M_SpillQueueModel_after 0 (up s.1 0 (0), s.2) (fun r5 s4 => Q r5 s4)) ∧ ((s.1 9) = 0 → wp_M_SpillQueueModel_writeSuper (up s.1 0 (0), s.2) (fun s6 => wp_M_SpillQueueModel_after 0 s6 (fun r9 s8 => Q r9 s8))))) ∧ (¬ (s.1 10) ≤ 0 → wp_M_SpillQueueModel_spill (up s.1 0 (0), s.2) (fun r11 s10 => ((¬ r11 = 0 → ((¬ (s10.1 9) = 0 → wp_M_SpillQueueModel_after 0 s10 (fun r15 s14 => Q r15 s14)) ∧ ((s10.1 9) = 0 → wp_M_SpillQueueModel_writeSuper s10 (fun s16 => wp_M_SpillQueueModel_after 0 s16 (fun r19 s18 => Q r19 s18))))) ∧ (r11 = 0 → wp_M_SpillQueueModel_after (-2) s10 (fun r21 s20 => Q r21 s20)))))))) := h
  refine g_aload_n C d_MO_sync_0 rfl 0 rfl ?_
  refine g_aload_n C d_MO_sync_1 rfl 0 rfl ?_
  refine g_get C (v := .int (s.1 8)) 0 9 iw_MO rfl rfl (by decide) (gt 740 (by decide +kernel) rfl) rfl rfl d_MO_sync_2 ?_
  refine g_if_eq C 12 d_MO_sync_5 (by decide) (fun c1 => ?_) (fun c1 => ?_)
  · have h := h.1 c1
    refine g_iconst C 1 d_MO_sync_12 (by decide) ?_
    refine g_put C (ws2 := wM ad X (up s.1 0 (1), s.2)) 0 0 iw_MO ty_MO tyok_MO nm_MO rfl rfl (by decide) (gt 731 (by decide +kernel) rfl) rfl rfl rfl rfl (Nat.le_of_ble_eq_true rfl) rfl d_MO_sync_13 ?_
    refine g_aload_n C d_MO_sync_16 rfl 0 rfl ?_
    refine g_get C (v := .int 1) 0 0 iw_MO rfl rfl (by decide) (gt 731 (by decide +kernel) rfl) rfl rfl d_MO_sync_17 ?_
    refine g_if_le C 25 d_MO_sync_20 (by decide) (fun c9 => absurd c9 (by decide)) (fun _ => ?_)
    refine g_iconst C 0 d_MO_sync_23 (by decide) ?_
    exact g_iret r rfl d_MO_sync_24 (gBi_mk h)
  · have h := h.2 c1
    refine g_iconst C 0 d_MO_sync_8 (by decide) ?_
    refine g_goto C 13 d_MO_sync_9 (by decide) ?_
    refine g_put C (ws2 := wM ad X (up s.1 0 (0), s.2)) 0 0 iw_MO ty_MO tyok_MO nm_MO rfl rfl (by decide) (gt 731 (by decide +kernel) rfl) rfl rfl rfl rfl (Nat.le_of_ble_eq_true rfl) rfl d_MO_sync_13 ?_
    refine g_aload_n C d_MO_sync_16 rfl 0 rfl ?_
    refine g_get C (v := .int 0) 0 0 iw_MO rfl rfl (by decide) (gt 731 (by decide +kernel) rfl) rfl rfl d_MO_sync_17 ?_
    refine g_if_le C 25 d_MO_sync_20 (by decide) (fun _ => ?_) (fun c9 => absurd c9 (by decide))
    refine g_aload_n C d_MO_sync_25 rfl 0 rfl ?_
    refine g_get C (v := .int (s.1 10)) 0 11 iw_MO rfl rfl (by decide) (gt 742 (by decide +kernel) rfl) rfl rfl d_MO_sync_26 ?_
    refine g_if_le C 46 d_MO_sync_29 (by decide) (fun c2 => ?_) (fun c2 => ?_)
    · have h := h.1 c2
      refine g_aload_n C d_MO_sync_46 rfl 0 rfl ?_
      refine g_get C (v := .int (s.1 9)) 0 10 iw_MO rfl rfl (by decide) (gt 741 (by decide +kernel) rfl) rfl rfl d_MO_sync_47 ?_
      refine g_if_ne C 57 d_MO_sync_50 (by decide) (fun c3 => ?_) (fun c3 => ?_)
      · have h := h.1 c3
        refine g_aload_n C d_MO_sync_57 rfl 0 rfl ?_
        refine g_iconst C 0 d_MO_sync_58 (by decide) ?_
        refine g_callV C (rest := []) 0 (fun l => m_M_SpillQueueModel_after X ad 0 (up s.1 0 (0), s.2) _ h l) rfl rfl (gt 920 (by decide +kernel) rfl) cb_MO_after ⟨rfl, rfl⟩ (by rw [hRm]; decide) ⟨Nat.zero_le _, Nat.zero_le _⟩ rfl rfl (Nat.le_of_ble_eq_true rfl) d_MO_sync_59 (gki (fun r5 s4 h => ?_))
        exact g_iret r rfl d_MO_sync_62 (gBi_mk h)
      · have h := h.2 c3
        refine g_aload_n C d_MO_sync_53 rfl 0 rfl ?_
        refine g_callV C (rest := []) 0 (fun l => m_M_SpillQueueModel_writeSuper X ad  (up s.1 0 (0), s.2) _ h l) rfl rfl (gt 824 (by decide +kernel) rfl) cb_MO_writeSuper ⟨rfl, rfl⟩ (by rw [hRm]; decide) ⟨Nat.zero_le _, Nat.zero_le _⟩ rfl rfl (Nat.le_of_ble_eq_true rfl) d_MO_sync_54 (gkv (fun s6 h => ?_))
        refine g_aload_n C d_MO_sync_57 rfl 0 rfl ?_
        refine g_iconst C 0 d_MO_sync_58 (by decide) ?_
        refine g_callV C (rest := []) 0 (fun l => m_M_SpillQueueModel_after X ad 0 s6 _ h l) rfl rfl (gt 920 (by decide +kernel) rfl) cb_MO_after ⟨rfl, rfl⟩ (by rw [hRm]; decide) ⟨Nat.zero_le _, Nat.zero_le _⟩ rfl rfl (Nat.le_of_ble_eq_true rfl) d_MO_sync_59 (gki (fun r9 s8 h => ?_))
        exact g_iret r rfl d_MO_sync_62 (gBi_mk h)
    · have h := h.2 c2
      refine g_aload_n C d_MO_sync_32 rfl 0 rfl ?_
      refine g_callV C (rest := []) 0 (fun l => m_M_SpillQueueModel_spill X ad  (up s.1 0 (0), s.2) _ h l) rfl rfl (gt 860 (by decide +kernel) rfl) cb_MO_spill ⟨rfl, rfl⟩ (by rw [hRm]; decide) ⟨Nat.zero_le _, Nat.zero_le _⟩ rfl rfl (Nat.le_of_ble_eq_true rfl) d_MO_sync_33 (gki (fun r11 s10 h => ?_))
      refine g_if_ne C 46 d_MO_sync_36 (by decide) (fun c12 => ?_) (fun c12 => ?_)
      · have h := h.1 c12
        refine g_aload_n C d_MO_sync_46 rfl 0 rfl ?_
        refine g_get C (v := .int (s10.1 9)) 0 10 iw_MO rfl rfl (by decide) (gt 741 (by decide +kernel) rfl) rfl rfl d_MO_sync_47 ?_
        refine g_if_ne C 57 d_MO_sync_50 (by decide) (fun c13 => ?_) (fun c13 => ?_)
        · have h := h.1 c13
          refine g_aload_n C d_MO_sync_57 rfl 0 rfl ?_
          refine g_iconst C 0 d_MO_sync_58 (by decide) ?_
          refine g_callV C (rest := []) 0 (fun l => m_M_SpillQueueModel_after X ad 0 s10 _ h l) rfl rfl (gt 920 (by decide +kernel) rfl) cb_MO_after ⟨rfl, rfl⟩ (by rw [hRm]; decide) ⟨Nat.zero_le _, Nat.zero_le _⟩ rfl rfl (Nat.le_of_ble_eq_true rfl) d_MO_sync_59 (gki (fun r15 s14 h => ?_))
          exact g_iret r rfl d_MO_sync_62 (gBi_mk h)
        · have h := h.2 c13
          refine g_aload_n C d_MO_sync_53 rfl 0 rfl ?_
          refine g_callV C (rest := []) 0 (fun l => m_M_SpillQueueModel_writeSuper X ad  s10 _ h l) rfl rfl (gt 824 (by decide +kernel) rfl) cb_MO_writeSuper ⟨rfl, rfl⟩ (by rw [hRm]; decide) ⟨Nat.zero_le _, Nat.zero_le _⟩ rfl rfl (Nat.le_of_ble_eq_true rfl) d_MO_sync_54 (gkv (fun s16 h => ?_))
          refine g_aload_n C d_MO_sync_57 rfl 0 rfl ?_
          refine g_iconst C 0 d_MO_sync_58 (by decide) ?_
          refine g_callV C (rest := []) 0 (fun l => m_M_SpillQueueModel_after X ad 0 s16 _ h l) rfl rfl (gt 920 (by decide +kernel) rfl) cb_MO_after ⟨rfl, rfl⟩ (by rw [hRm]; decide) ⟨Nat.zero_le _, Nat.zero_le _⟩ rfl rfl (Nat.le_of_ble_eq_true rfl) d_MO_sync_59 (gki (fun r19 s18 h => ?_))
          exact g_iret r rfl d_MO_sync_62 (gBi_mk h)
      · have h := h.2 c12
        refine g_aload_n C d_MO_sync_39 rfl 0 rfl ?_
        refine g_bipush C (-2) d_MO_sync_40 (by decide) ?_
        refine g_callV C (rest := []) 0 (fun l => m_M_SpillQueueModel_after X ad (-2) s10 _ h l) rfl rfl (gt 920 (by decide +kernel) rfl) cb_MO_after ⟨rfl, rfl⟩ (by rw [hRm]; decide) ⟨Nat.zero_le _, Nat.zero_le _⟩ rfl rfl (Nat.le_of_ble_eq_true rfl) d_MO_sync_42 (gki (fun r21 s20 h => ?_))
        exact g_iret r rfl d_MO_sync_45 (gBi_mk h)
theorem m_M_SpillQueueModel_sync (X : gX) (ad : Nat → Nat) (s : gS) (Q : Int32 → gS → Prop) (h : wp_M_SpillQueueModel_sync  s Q) (l : Launch) : gM l X y_MO_sync b_MO_sync 1 (some .int) rm_M_SpillQueueModel_sync [.ref (ad 0)] (wM ad X s) (gBi (wM ad X) Q) :=
  gM_of (by decide +kernel) rfl (Nat.le_of_ble_eq_true rfl) rfl (fun E C hRm r => w_M_SpillQueueModel_sync X ad  s Q h E C hRm r)
def rm_M_SpillQueueModel_cutAt : Room := { frames := 1, cells := 0, slots := 0, locals := 22 }
def wp_M_SpillQueueModel_cutAt (a1 : Int32) (s : gS) (Q : gS → Prop) : Prop := ((¬ (s.1 8) = 0 → wp_M_SpillQueueModel_within a1 0 10000 s (fun r3 s2 => ((¬ r3 = 0 → Q (up (up s2.1 0 (0)) 7 (a1), s2.2)) ∧ (r3 = 0 → ∀ v5 : Int32, v5 = s2.1 7 → Q (up (up s2.1 0 (2)) 7 (v5), s2.2))))) ∧ ((s.1 8) = 0 → ∀ v6 : Int32, v6 = s.1 7 → Q (up (up s.1 0 (1)) 7 (v6), s.2)))
set_option maxHeartbeats 4000000 in
set_option maxRecDepth 100000 in
theorem w_M_SpillQueueModel_cutAt (X : gX) (ad : Nat → Nat) (a1 : Int32) (s : gS) (Q : gS → Prop) (h : wp_M_SpillQueueModel_cutAt a1 s Q) (E : gE) (C : gC X E b_MO_cutAt 2 R_MO) (hRm : gRm E = rm_M_SpillQueueModel_cutAt) (r : gR X E b_MO_cutAt none (gBv (wM ad X) Q)) : gW X E 0 0 (wM ad X s) [(0, .ref (ad 0)), (1, .int a1)] 0 [] := by
  have h : ((¬ (s.1 8) = 0 → wp_M_SpillQueueModel_within a1 0 10000 s (fun r3 s2 => ((¬ r3 = 0 → Q (up (up s2.1 0 (0)) 7 (a1), s2.2)) ∧ (r3 = 0 → ∀ v5 : Int32, v5 = s2.1 7 → Q (up (up s2.1 0 (2)) 7 (v5), s2.2))))) ∧ ((s.1 8) = 0 → ∀ v6 : Int32, v6 = s.1 7 → Q (up (up s.1 0 (1)) 7 (v6), s.2))) := h
  refine g_aload_n C d_MO_cutAt_0 rfl 0 rfl ?_
  refine g_aload_n C d_MO_cutAt_1 rfl 0 rfl ?_
  refine g_get C (v := .int (s.1 8)) 0 9 iw_MO rfl rfl (by decide) (gt 740 (by decide +kernel) rfl) rfl rfl d_MO_cutAt_2 ?_
  refine g_if_ne C 12 d_MO_cutAt_5 (by decide) (fun c1 => ?_) (fun c1 => ?_)
  · have h := h.1 c1
    refine g_iload_n C d_MO_cutAt_12 rfl 1 rfl ?_
    refine g_iconst C 0 d_MO_cutAt_13 (by decide) ?_
    refine g_sipush C 10000 d_MO_cutAt_14 (by decide) ?_
    refine g_callS C (rest := [.ref (ad 0)]) (fun l => m_M_SpillQueueModel_within X ad a1 0 10000 s _ h l) (gt 821 (by decide +kernel) rfl) cb_MO_within ⟨rfl, rfl⟩ (by rw [hRm]; decide) ⟨Nat.zero_le _, Nat.zero_le _⟩ rfl rfl (Nat.le_of_ble_eq_true rfl) d_MO_cutAt_17 (gki (fun r3 s2 h => ?_))
    refine g_if_ne C 27 d_MO_cutAt_20 (by decide) (fun c4 => ?_) (fun c4 => ?_)
    · have h := h.1 c4
      refine g_iconst C 0 d_MO_cutAt_27 (by decide) ?_
      refine g_put C (ws2 := wM ad X (up s2.1 0 (0), s2.2)) 0 0 iw_MO ty_MO tyok_MO nm_MO rfl rfl (by decide) (gt 731 (by decide +kernel) rfl) rfl rfl rfl rfl (Nat.le_of_ble_eq_true rfl) rfl d_MO_cutAt_28 ?_
      refine g_aload_n C d_MO_cutAt_31 rfl 0 rfl ?_
      refine g_aload_n C d_MO_cutAt_32 rfl 0 rfl ?_
      refine g_get C (v := .int 0) 0 0 iw_MO rfl rfl (by decide) (gt 731 (by decide +kernel) rfl) rfl rfl d_MO_cutAt_33 ?_
      refine g_if_le C 46 d_MO_cutAt_36 (by decide) (fun _ => ?_) (fun c9 => absurd c9 (by decide))
      refine g_iload_n C d_MO_cutAt_46 rfl 1 rfl ?_
      refine g_put C (ws2 := wM ad X (up (up s2.1 0 (0)) 7 (a1), s2.2)) 0 8 iw_MO ty_MO tyok_MO nm_MO rfl rfl (by decide) (gt 739 (by decide +kernel) rfl) rfl rfl rfl rfl (Nat.le_of_ble_eq_true rfl) rfl d_MO_cutAt_47 ?_
      exact g_vret r d_MO_cutAt_50 (gBv_mk h)
    · have h := h.2 c4
      refine g_iconst C 2 d_MO_cutAt_23 (by decide) ?_
      refine g_goto C 28 d_MO_cutAt_24 (by decide) ?_
      refine g_put C (ws2 := wM ad X (up s2.1 0 (2), s2.2)) 0 0 iw_MO ty_MO tyok_MO nm_MO rfl rfl (by decide) (gt 731 (by decide +kernel) rfl) rfl rfl rfl rfl (Nat.le_of_ble_eq_true rfl) rfl d_MO_cutAt_28 ?_
      refine g_aload_n C d_MO_cutAt_31 rfl 0 rfl ?_
      refine g_aload_n C d_MO_cutAt_32 rfl 0 rfl ?_
      refine g_get C (v := .int 2) 0 0 iw_MO rfl rfl (by decide) (gt 731 (by decide +kernel) rfl) rfl rfl d_MO_cutAt_33 ?_
      refine g_if_le C 46 d_MO_cutAt_36 (by decide) (fun c9 => absurd c9 (by decide)) (fun _ => ?_)
      refine g_aload_n C d_MO_cutAt_39 rfl 0 rfl ?_
      refine g_get C (v := .int (s2.1 7)) 0 8 iw_MO rfl rfl (by decide) (gt 739 (by decide +kernel) rfl) rfl rfl d_MO_cutAt_40 ?_
      refine g_goto C 47 d_MO_cutAt_43 (by decide) ?_
      refine g_topi (fun v5 e_v5 => ?_)
      have h := h v5 e_v5
      refine g_put C (ws2 := wM ad X (up (up s2.1 0 (2)) 7 (v5), s2.2)) 0 8 iw_MO ty_MO tyok_MO nm_MO rfl rfl (by decide) (gt 739 (by decide +kernel) rfl) rfl rfl rfl rfl (Nat.le_of_ble_eq_true rfl) rfl d_MO_cutAt_47 ?_
      exact g_vret r d_MO_cutAt_50 (gBv_mk h)
  · have h := h.2 c1
    refine g_iconst C 1 d_MO_cutAt_8 (by decide) ?_
    refine g_goto C 28 d_MO_cutAt_9 (by decide) ?_
    refine g_put C (ws2 := wM ad X (up s.1 0 (1), s.2)) 0 0 iw_MO ty_MO tyok_MO nm_MO rfl rfl (by decide) (gt 731 (by decide +kernel) rfl) rfl rfl rfl rfl (Nat.le_of_ble_eq_true rfl) rfl d_MO_cutAt_28 ?_
    refine g_aload_n C d_MO_cutAt_31 rfl 0 rfl ?_
    refine g_aload_n C d_MO_cutAt_32 rfl 0 rfl ?_
    refine g_get C (v := .int 1) 0 0 iw_MO rfl rfl (by decide) (gt 731 (by decide +kernel) rfl) rfl rfl d_MO_cutAt_33 ?_
    refine g_if_le C 46 d_MO_cutAt_36 (by decide) (fun c9 => absurd c9 (by decide)) (fun _ => ?_)
    refine g_aload_n C d_MO_cutAt_39 rfl 0 rfl ?_
    refine g_get C (v := .int (s.1 7)) 0 8 iw_MO rfl rfl (by decide) (gt 739 (by decide +kernel) rfl) rfl rfl d_MO_cutAt_40 ?_
    refine g_goto C 47 d_MO_cutAt_43 (by decide) ?_
    refine g_topi (fun v6 e_v6 => ?_)
    have h := h v6 e_v6
    refine g_put C (ws2 := wM ad X (up (up s.1 0 (1)) 7 (v6), s.2)) 0 8 iw_MO ty_MO tyok_MO nm_MO rfl rfl (by decide) (gt 739 (by decide +kernel) rfl) rfl rfl rfl rfl (Nat.le_of_ble_eq_true rfl) rfl d_MO_cutAt_47 ?_
    exact g_vret r d_MO_cutAt_50 (gBv_mk h)
theorem m_M_SpillQueueModel_cutAt (X : gX) (ad : Nat → Nat) (a1 : Int32) (s : gS) (Q : gS → Prop) (h : wp_M_SpillQueueModel_cutAt a1 s Q) (l : Launch) : gM l X y_MO_cutAt b_MO_cutAt 2 none rm_M_SpillQueueModel_cutAt [.ref (ad 0), .int a1] (wM ad X s) (gBv (wM ad X) Q) :=
  gM_of (by decide +kernel) rfl (Nat.le_of_ble_eq_true rfl) rfl (fun E C hRm r => w_M_SpillQueueModel_cutAt X ad a1 s Q h E C hRm r)
def rm_M_SpillQueueModel_cut : Room := { frames := 1, cells := 0, slots := 0, locals := 20 }
def wp_M_SpillQueueModel_cut (s : gS) (Q : gS → Prop) : Prop := (((s.1 1) = 0 → Q (up s.1 0 (1), s.2)) ∧ (¬ (s.1 1) = 0 → wp_M_SpillQueueModel_die (up s.1 0 (0), s.2) (fun s2 => Q s2)))
set_option maxHeartbeats 4000000 in
set_option maxRecDepth 100000 in
theorem w_M_SpillQueueModel_cut (X : gX) (ad : Nat → Nat) (s : gS) (Q : gS → Prop) (h : wp_M_SpillQueueModel_cut  s Q) (E : gE) (C : gC X E b_MO_cut 1 R_MO) (hRm : gRm E = rm_M_SpillQueueModel_cut) (r : gR X E b_MO_cut none (gBv (wM ad X) Q)) : gW X E 0 0 (wM ad X s) [(0, .ref (ad 0))] 0 [] := by
  have h : (((s.1 1) = 0 → Q (up s.1 0 (1), s.2)) ∧ (¬ (s.1 1) = 0 → wp_M_SpillQueueModel_die (up s.1 0 (0), s.2) (fun s2 => Q s2))) := h
  refine g_aload_n C d_MO_cut_0 rfl 0 rfl ?_
  refine g_aload_n C d_MO_cut_1 rfl 0 rfl ?_
  refine g_get C (v := .int (s.1 1)) 0 1 iw_MO rfl rfl (by decide) (gt 732 (by decide +kernel) rfl) rfl rfl d_MO_cut_2 ?_
  refine g_if_eq C 12 d_MO_cut_5 (by decide) (fun c1 => ?_) (fun c1 => ?_)
  · have h := h.1 c1
    refine g_iconst C 1 d_MO_cut_12 (by decide) ?_
    refine g_put C (ws2 := wM ad X (up s.1 0 (1), s.2)) 0 0 iw_MO ty_MO tyok_MO nm_MO rfl rfl (by decide) (gt 731 (by decide +kernel) rfl) rfl rfl rfl rfl (Nat.le_of_ble_eq_true rfl) rfl d_MO_cut_13 ?_
    refine g_aload_n C d_MO_cut_16 rfl 0 rfl ?_
    refine g_get C (v := .int 1) 0 0 iw_MO rfl rfl (by decide) (gt 731 (by decide +kernel) rfl) rfl rfl d_MO_cut_17 ?_
    refine g_if_ne C 27 d_MO_cut_20 (by decide) (fun _ => ?_) (fun c9 => absurd c9 (by decide))
    exact g_vret r d_MO_cut_27 (gBv_mk h)
  · have h := h.2 c1
    refine g_iconst C 0 d_MO_cut_8 (by decide) ?_
    refine g_goto C 13 d_MO_cut_9 (by decide) ?_
    refine g_put C (ws2 := wM ad X (up s.1 0 (0), s.2)) 0 0 iw_MO ty_MO tyok_MO nm_MO rfl rfl (by decide) (gt 731 (by decide +kernel) rfl) rfl rfl rfl rfl (Nat.le_of_ble_eq_true rfl) rfl d_MO_cut_13 ?_
    refine g_aload_n C d_MO_cut_16 rfl 0 rfl ?_
    refine g_get C (v := .int 0) 0 0 iw_MO rfl rfl (by decide) (gt 731 (by decide +kernel) rfl) rfl rfl d_MO_cut_17 ?_
    refine g_if_ne C 27 d_MO_cut_20 (by decide) (fun c9 => absurd c9 (by decide)) (fun _ => ?_)
    refine g_aload_n C d_MO_cut_23 rfl 0 rfl ?_
    refine g_callV C (rest := []) 0 (fun l => m_M_SpillQueueModel_die X ad  (up s.1 0 (0), s.2) _ h l) rfl rfl (gt 924 (by decide +kernel) rfl) cb_MO_die ⟨rfl, rfl⟩ (by rw [hRm]; decide) ⟨Nat.zero_le _, Nat.zero_le _⟩ rfl rfl (Nat.le_of_ble_eq_true rfl) d_MO_cut_24 (gkv (fun s2 h => ?_))
    exact g_vret r d_MO_cut_27 (gBv_mk h)
theorem m_M_SpillQueueModel_cut (X : gX) (ad : Nat → Nat) (s : gS) (Q : gS → Prop) (h : wp_M_SpillQueueModel_cut  s Q) (l : Launch) : gM l X y_MO_cut b_MO_cut 1 none rm_M_SpillQueueModel_cut [.ref (ad 0)] (wM ad X s) (gBv (wM ad X) Q) :=
  gM_of (by decide +kernel) rfl (Nat.le_of_ble_eq_true rfl) rfl (fun E C hRm r => w_M_SpillQueueModel_cut X ad  s Q h E C hRm r)
def rm_M_SpillQueueModel_readRun : Room := { frames := 2, cells := 0, slots := 0, locals := 45 }
def wl_M_SpillQueueModel_readRun_184 (Q : Int32 → gS → Prop) (K : Int32 → Int32 → Int32 → gS → Prop) (x1 : Int32) (x2 : Int32) (x3 : Int32) (x4 : Int32) (x5 : Int32) (x6 : Int32) : Nat → Int32 → Int32 → Int32 → gS → Prop
  | 0, _, _, _, _ => False
  | n + 1, x7, x8, x9, s => wp_M_SpillQueueModel_room s (fun r34 s33 => ((r34 ≤ x7 → K x7 x8 x9 s33) ∧ (¬ r34 ≤ x7 → ((x9 ≤ 0 → K x7 x8 x9 s33) ∧ (¬ x9 ≤ 0 → wp_M_SpillQueueModel_at x4 (2 + x7) s33 (fun r38 s37 => ((x8 ≤ r38 → wp_M_SpillQueueModel_at x4 (2 + x7) s37 (fun r41 s40 => ∀ v42 : Int32, v42 = x7 + 1 → ∀ v43 : Int32, v43 = x9 + Int32.ofInt (-1) → wl_M_SpillQueueModel_readRun_184 Q K x1 x2 x3 x4 x5 x6 n v42 r41 v43 s40)) ∧ (¬ x8 ≤ r38 → Q 0 s37))))))))
set_option maxHeartbeats 4000000 in
set_option maxRecDepth 100000 in
theorem w_M_SpillQueueModel_readRun_184 (X : gX) (ad : Nat → Nat) (Q : Int32 → gS → Prop) (K : Int32 → Int32 → Int32 → gS → Prop) (x1 : Int32) (x2 : Int32) (x3 : Int32) (x4 : Int32) (x5 : Int32) (x6 : Int32) (E : gE) (C : gC X E b_MO_readRun 10 R_MO) (hRm : gRm E = rm_M_SpillQueueModel_readRun) (r : gR X E b_MO_readRun (some .boolean) (gBi (wM ad X) Q)) (hK : ∀ (x7 : Int32) (x8 : Int32) (x9 : Int32) (s : gS), K x7 x8 x9 s → gW X E 0 0 (wM ad X s) [(0, .ref (ad 0)), (1, .int x1), (2, .int x2), (3, .int x3), (4, .int x4), (5, .int x5), (6, .int x6), (7, .int x7), (8, .int x8), (9, .int x9)] 236 []) : ∀ (n : Nat) (x7 : Int32) (x8 : Int32) (x9 : Int32) (s : gS), wl_M_SpillQueueModel_readRun_184 Q K x1 x2 x3 x4 x5 x6 n x7 x8 x9 s → gW X E 0 0 (wM ad X s) [(0, .ref (ad 0)), (1, .int x1), (2, .int x2), (3, .int x3), (4, .int x4), (5, .int x5), (6, .int x6), (7, .int x7), (8, .int x8), (9, .int x9)] 184 [] := by
  intro n
  induction n with
  | zero => intro x7 x8 x9 s h; exact False.elim h
  | succ n ih =>
    intro x7 x8 x9 s h
    have h : wp_M_SpillQueueModel_room s (fun r34 s33 => ((r34 ≤ x7 → K x7 x8 x9 s33) ∧ (¬ r34 ≤ x7 → ((x9 ≤ 0 → K x7 x8 x9 s33) ∧ (¬ x9 ≤ 0 → wp_M_SpillQueueModel_at x4 (2 + x7) s33 (fun r38 s37 => ((x8 ≤ r38 → wp_M_SpillQueueModel_at x4 (2 + x7) s37 (fun r41 s40 => ∀ v42 : Int32, v42 = x7 + 1 → ∀ v43 : Int32, v43 = x9 + Int32.ofInt (-1) → wl_M_SpillQueueModel_readRun_184 Q K x1 x2 x3 x4 x5 x6 n v42 r41 v43 s40)) ∧ (¬ x8 ≤ r38 → Q 0 s37)))))))) := h
    refine g_iload C d_MO_readRun_184 7 rfl ?_
    refine g_aload_n C d_MO_readRun_186 rfl 0 rfl ?_
    refine g_callV C (rest := [.int x7]) 0 (fun l => m_M_SpillQueueModel_room X ad  s _ h l) rfl rfl (gt 852 (by decide +kernel) rfl) cb_MO_room ⟨rfl, rfl⟩ (by rw [hRm]; decide) ⟨Nat.zero_le _, Nat.zero_le _⟩ rfl rfl (Nat.le_of_ble_eq_true rfl) d_MO_readRun_187 (gki (fun r34 s33 h => ?_))
    refine g_icmp_ge C 236 d_MO_readRun_190 (by decide) (fun c35 => ?_) (fun c35 => ?_)
    · have h := h.1 c35
      exact hK x7 x8 x9 s33 h
    · have h := h.2 c35
      refine g_iload C d_MO_readRun_193 9 rfl ?_
      refine g_if_le C 236 d_MO_readRun_195 (by decide) (fun c36 => ?_) (fun c36 => ?_)
      · have h := h.1 c36
        exact hK x7 x8 x9 s33 h
      · have h := h.2 c36
        refine g_aload_n C d_MO_readRun_198 rfl 0 rfl ?_
        refine g_iload C d_MO_readRun_199 4 rfl ?_
        refine g_iconst C 2 d_MO_readRun_201 (by decide) ?_
        refine g_iload C d_MO_readRun_202 7 rfl ?_
        refine g_iadd C d_MO_readRun_204 ?_
        refine g_callV C (rest := []) 0 (fun l => m_M_SpillQueueModel_at X ad x4 (2 + x7) s33 _ h l) rfl rfl (gt 840 (by decide +kernel) rfl) cb_MO_at ⟨rfl, rfl⟩ (by rw [hRm]; decide) ⟨Nat.zero_le _, Nat.zero_le _⟩ rfl rfl (Nat.le_of_ble_eq_true rfl) d_MO_readRun_205 (gki (fun r38 s37 h => ?_))
        refine g_iload C d_MO_readRun_208 8 rfl ?_
        refine g_icmp_ge C 215 d_MO_readRun_210 (by decide) (fun c39 => ?_) (fun c39 => ?_)
        · have h := h.1 c39
          refine g_aload_n C d_MO_readRun_215 rfl 0 rfl ?_
          refine g_iload C d_MO_readRun_216 4 rfl ?_
          refine g_iconst C 2 d_MO_readRun_218 (by decide) ?_
          refine g_iload C d_MO_readRun_219 7 rfl ?_
          refine g_iadd C d_MO_readRun_221 ?_
          refine g_callV C (rest := []) 0 (fun l => m_M_SpillQueueModel_at X ad x4 (2 + x7) s37 _ h l) rfl rfl (gt 840 (by decide +kernel) rfl) cb_MO_at ⟨rfl, rfl⟩ (by rw [hRm]; decide) ⟨Nat.zero_le _, Nat.zero_le _⟩ rfl rfl (Nat.le_of_ble_eq_true rfl) d_MO_readRun_222 (gki (fun r41 s40 h => ?_))
          refine g_istore C (lv2 := [(0, .ref (ad 0)), (1, .int x1), (2, .int x2), (3, .int x3), (4, .int x4), (5, .int x5), (6, .int x6), (7, .int x7), (8, .int r41), (9, .int x9)]) d_MO_readRun_225 (by decide) rfl ?_
          obtain ⟨v42, e_v42⟩ : ∃ y : Int32, y = x7 + 1 := ⟨_, rfl⟩
          have h := h v42 e_v42
          refine g_iinc C (v := v42) (lv2 := [(0, .ref (ad 0)), (1, .int x1), (2, .int x2), (3, .int x3), (4, .int x4), (5, .int x5), (6, .int x6), (7, .int v42), (8, .int r41), (9, .int x9)]) d_MO_readRun_227 7 rfl (by rw [e_v42]; rfl) (by decide) rfl ?_
          obtain ⟨v43, e_v43⟩ : ∃ y : Int32, y = x9 + Int32.ofInt (-1) := ⟨_, rfl⟩
          have h := h v43 e_v43
          refine g_iinc C (v := v43) (lv2 := [(0, .ref (ad 0)), (1, .int x1), (2, .int x2), (3, .int x3), (4, .int x4), (5, .int x5), (6, .int x6), (7, .int v42), (8, .int r41), (9, .int v43)]) d_MO_readRun_230 9 rfl e_v43.symm (by decide) rfl ?_
          refine g_goto C 184 d_MO_readRun_233 (by decide) ?_
          exact ih v42 r41 v43 s40 h
        · have h := h.2 c39
          refine g_iconst C 0 d_MO_readRun_213 (by decide) ?_
          exact g_iret r rfl d_MO_readRun_214 (gBi_mk h)
def wl_M_SpillQueueModel_readRun_128 (Q : Int32 → gS → Prop) (K : Int32 → Int32 → Int32 → Int32 → gS → Prop) (x1 : Int32) (x2 : Int32) (x3 : Int32) (x5 : Int32) (x6 : Int32) : Nat → Int32 → Int32 → Int32 → Int32 → gS → Prop
  | 0, _, _, _, _, _ => False
  | n + 1, x4, x7, x8, x9, s => ((x9 ≤ 0 → K x4 x7 x8 x9 s) ∧ (¬ x9 ≤ 0 → ((x4 < 2 → Q 0 s) ∧ (¬ x4 < 2 → (((s.1 2) ≤ x4 → Q 0 s) ∧ (¬ (s.1 2) ≤ x4 → vp_in x4 200 ∧ (((¬ (s.2 7 x4.toNatClampNeg) = 0 → Q 0 s) ∧ ((s.2 7 x4.toNatClampNeg) = 0 → wp_M_SpillQueueModel_at x4 0 s (fun r28 s27 => wp_M_SpillQueueModel_sumOf x4 s27 (fun r30 s29 => ((r28 = r30 → vp_in x4 200 ∧ (∃ n44 : Nat, wl_M_SpillQueueModel_readRun_184 Q (fun v46 v47 v48 s45 => wp_M_SpillQueueModel_at x4 1 s45 (fun r50 s49 => wl_M_SpillQueueModel_readRun_128 Q K x1 x2 x3 x5 x6 n r50 0 v47 v48 s49)) x1 x2 x3 x4 x5 x6 n44 x7 x8 x9 (s29.1, ua s29.2 7 (upd (s29.2 7) x4.toNatClampNeg (vp_nar .boolean 1))))) ∧ (¬ r28 = r30 → Q 0 s29)))))))))))))
set_option maxHeartbeats 4000000 in
set_option maxRecDepth 100000 in
theorem w_M_SpillQueueModel_readRun_128 (X : gX) (ad : Nat → Nat) (Q : Int32 → gS → Prop) (K : Int32 → Int32 → Int32 → Int32 → gS → Prop) (x1 : Int32) (x2 : Int32) (x3 : Int32) (x5 : Int32) (x6 : Int32) (E : gE) (C : gC X E b_MO_readRun 10 R_MO) (hRm : gRm E = rm_M_SpillQueueModel_readRun) (r : gR X E b_MO_readRun (some .boolean) (gBi (wM ad X) Q)) (hK : ∀ (x4 : Int32) (x7 : Int32) (x8 : Int32) (x9 : Int32) (s : gS), K x4 x7 x8 x9 s → gW X E 0 0 (wM ad X s) [(0, .ref (ad 0)), (1, .int x1), (2, .int x2), (3, .int x3), (4, .int x4), (5, .int x5), (6, .int x6), (7, .int x7), (8, .int x8), (9, .int x9)] 251 []) : ∀ (n : Nat) (x4 : Int32) (x7 : Int32) (x8 : Int32) (x9 : Int32) (s : gS), wl_M_SpillQueueModel_readRun_128 Q K x1 x2 x3 x5 x6 n x4 x7 x8 x9 s → gW X E 0 0 (wM ad X s) [(0, .ref (ad 0)), (1, .int x1), (2, .int x2), (3, .int x3), (4, .int x4), (5, .int x5), (6, .int x6), (7, .int x7), (8, .int x8), (9, .int x9)] 128 [] := by
  intro n
  induction n with
  | zero => intro x4 x7 x8 x9 s h; exact False.elim h
  | succ n ih =>
    intro x4 x7 x8 x9 s h
    have h : ((x9 ≤ 0 → K x4 x7 x8 x9 s) ∧ (¬ x9 ≤ 0 → ((x4 < 2 → Q 0 s) ∧ (¬ x4 < 2 → (((s.1 2) ≤ x4 → Q 0 s) ∧ (¬ (s.1 2) ≤ x4 → vp_in x4 200 ∧ (((¬ (s.2 7 x4.toNatClampNeg) = 0 → Q 0 s) ∧ ((s.2 7 x4.toNatClampNeg) = 0 → wp_M_SpillQueueModel_at x4 0 s (fun r28 s27 => wp_M_SpillQueueModel_sumOf x4 s27 (fun r30 s29 => ((r28 = r30 → vp_in x4 200 ∧ (∃ n44 : Nat, wl_M_SpillQueueModel_readRun_184 Q (fun v46 v47 v48 s45 => wp_M_SpillQueueModel_at x4 1 s45 (fun r50 s49 => wl_M_SpillQueueModel_readRun_128 Q K x1 x2 x3 x5 x6 n r50 0 v47 v48 s49)) x1 x2 x3 x4 x5 x6 n44 x7 x8 x9 (s29.1, ua s29.2 7 (upd (s29.2 7) x4.toNatClampNeg (vp_nar .boolean 1))))) ∧ (¬ r28 = r30 → Q 0 s29))))))))))))) := h
    refine g_iload C d_MO_readRun_128 9 rfl ?_
    refine g_if_le C 251 d_MO_readRun_130 (by decide) (fun c22 => ?_) (fun c22 => ?_)
    · have h := h.1 c22
      exact hK x4 x7 x8 x9 s h
    · have h := h.2 c22
      refine g_iload C d_MO_readRun_133 4 rfl ?_
      refine g_iconst C 2 d_MO_readRun_135 (by decide) ?_
      refine g_icmp_lt C 174 d_MO_readRun_136 (by decide) (fun c23 => ?_) (fun c23 => ?_)
      · have h := h.1 c23
        refine g_iconst C 0 d_MO_readRun_174 (by decide) ?_
        exact g_iret r rfl d_MO_readRun_175 (gBi_mk h)
      · have h := h.2 c23
        refine g_iload C d_MO_readRun_139 4 rfl ?_
        refine g_aload_n C d_MO_readRun_141 rfl 0 rfl ?_
        refine g_get C (v := .int (s.1 2)) 0 2 iw_MO rfl rfl (by decide) (gt 733 (by decide +kernel) rfl) rfl rfl d_MO_readRun_142 ?_
        refine g_icmp_ge C 174 d_MO_readRun_145 (by decide) (fun c24 => ?_) (fun c24 => ?_)
        · have h := h.1 c24
          refine g_iconst C 0 d_MO_readRun_174 (by decide) ?_
          exact g_iret r rfl d_MO_readRun_175 (gBi_mk h)
        · have h := h.2 c24
          refine g_aload_n C d_MO_readRun_148 rfl 0 rfl ?_
          refine g_get C (v := .ref (ad 8)) 0 20 iw_MO rfl rfl (by decide) (gt 751 (by decide +kernel) rfl) rfl rfl d_MO_readRun_149 ?_
          refine g_iload C d_MO_readRun_152 4 rfl ?_
          obtain ⟨i25, h⟩ := h
          refine g_zald C 8 1 rfl rfl i25 d_MO_readRun_154 ?_
          refine g_if_ne C 174 d_MO_readRun_155 (by decide) (fun c26 => ?_) (fun c26 => ?_)
          · have h := h.1 c26
            refine g_iconst C 0 d_MO_readRun_174 (by decide) ?_
            exact g_iret r rfl d_MO_readRun_175 (gBi_mk h)
          · have h := h.2 c26
            refine g_aload_n C d_MO_readRun_158 rfl 0 rfl ?_
            refine g_iload C d_MO_readRun_159 4 rfl ?_
            refine g_iconst C 0 d_MO_readRun_161 (by decide) ?_
            refine g_callV C (rest := []) 0 (fun l => m_M_SpillQueueModel_at X ad x4 0 s _ h l) rfl rfl (gt 840 (by decide +kernel) rfl) cb_MO_at ⟨rfl, rfl⟩ (by rw [hRm]; decide) ⟨Nat.zero_le _, Nat.zero_le _⟩ rfl rfl (Nat.le_of_ble_eq_true rfl) d_MO_readRun_162 (gki (fun r28 s27 h => ?_))
            refine g_aload_n C d_MO_readRun_165 rfl 0 rfl ?_
            refine g_iload C d_MO_readRun_166 4 rfl ?_
            refine g_callV C (rest := [.int r28]) 0 (fun l => m_M_SpillQueueModel_sumOf X ad x4 s27 _ h l) rfl rfl (gt 836 (by decide +kernel) rfl) cb_MO_sumOf ⟨rfl, rfl⟩ (by rw [hRm]; decide) ⟨Nat.zero_le _, Nat.zero_le _⟩ rfl rfl (Nat.le_of_ble_eq_true rfl) d_MO_readRun_168 (gki (fun r30 s29 h => ?_))
            refine g_icmp_eq C 176 d_MO_readRun_171 (by decide) (fun c31 => ?_) (fun c31 => ?_)
            · have h := h.1 c31
              refine g_aload_n C d_MO_readRun_176 rfl 0 rfl ?_
              refine g_get C (v := .ref (ad 8)) 0 20 iw_MO rfl rfl (by decide) (gt 751 (by decide +kernel) rfl) rfl rfl d_MO_readRun_177 ?_
              refine g_iload C d_MO_readRun_180 4 rfl ?_
              refine g_iconst C 1 d_MO_readRun_182 (by decide) ?_
              obtain ⟨i32, h⟩ := h
              refine g_zast C 8 1 (ws2 := wM ad X (s29.1, ua s29.2 7 (upd (s29.2 7) x4.toNatClampNeg (vp_nar .boolean 1)))) rfl rfl i32 rfl d_MO_readRun_183 ?_
              obtain ⟨n44, h⟩ := h
              refine w_M_SpillQueueModel_readRun_184 X ad Q (_) x1 x2 x3 x4 x5 x6 E C hRm r ?_ n44 x7 x8 x9 (s29.1, ua s29.2 7 (upd (s29.2 7) x4.toNatClampNeg (vp_nar .boolean 1))) h
              intro v46 v47 v48 s45 h
              refine g_iconst C 0 d_MO_readRun_236 (by decide) ?_
              refine g_istore C (lv2 := [(0, .ref (ad 0)), (1, .int x1), (2, .int x2), (3, .int x3), (4, .int x4), (5, .int x5), (6, .int x6), (7, .int 0), (8, .int v47), (9, .int v48)]) d_MO_readRun_237 (by decide) rfl ?_
              refine g_aload_n C d_MO_readRun_239 rfl 0 rfl ?_
              refine g_iload C d_MO_readRun_240 4 rfl ?_
              refine g_iconst C 1 d_MO_readRun_242 (by decide) ?_
              refine g_callV C (rest := []) 0 (fun l => m_M_SpillQueueModel_at X ad x4 1 s45 _ h l) rfl rfl (gt 840 (by decide +kernel) rfl) cb_MO_at ⟨rfl, rfl⟩ (by rw [hRm]; decide) ⟨Nat.zero_le _, Nat.zero_le _⟩ rfl rfl (Nat.le_of_ble_eq_true rfl) d_MO_readRun_243 (gki (fun r50 s49 h => ?_))
              refine g_istore C (lv2 := [(0, .ref (ad 0)), (1, .int x1), (2, .int x2), (3, .int x3), (4, .int r50), (5, .int x5), (6, .int x6), (7, .int 0), (8, .int v47), (9, .int v48)]) d_MO_readRun_246 (by decide) rfl ?_
              refine g_goto C 128 d_MO_readRun_248 (by decide) ?_
              exact ih r50 0 v47 v48 s49 h
            · have h := h.2 c31
              refine g_iconst C 0 d_MO_readRun_174 (by decide) ?_
              exact g_iret r rfl d_MO_readRun_175 (gBi_mk h)
def wp_M_SpillQueueModel_readRun (a1 : Int32) (a2 : Int32) (s : gS) (Q : Int32 → gS → Prop) : Prop := ∀ v1 : Int32, v1 = 3 + (4 * a2) → wp_M_SpillQueueModel_at a1 v1 s (fun r3 s2 => wp_M_SpillQueueModel_at a1 (v1 + 1) s2 (fun r5 s4 => wp_M_SpillQueueModel_at a1 (v1 + 2) s4 (fun r7 s6 => wp_M_SpillQueueModel_at a1 (v1 + 3) s6 (fun r9 s8 => ((r9 < 0 → Q 0 s8) ∧ (¬ r9 < 0 → ((r7 < 1 → Q 0 s8) ∧ (¬ r7 < 1 → ((r5 < 0 → Q 0 s8) ∧ (¬ r5 < 0 → wp_M_SpillQueueModel_room s8 (fun r14 s13 => ((r5 < r14 → vp_in (s13.1 12) 16 ∧ (vp_in (s13.1 12) 16 ∧ (vp_in (s13.1 12) 16 ∧ (wp_M_SpillQueueModel_at a1 (v1 + 3) (s13.1, ua (ua (ua s13.2 2 (upd (s13.2 2) (s13.1 12).toNatClampNeg r3)) 3 (upd (s13.2 3) (s13.1 12).toNatClampNeg r5)) 4 (upd (s13.2 4) (s13.1 12).toNatClampNeg r7)) (fun r20 s19 => vp_in (s13.1 12) 16 ∧ (∃ n51 : Nat, wl_M_SpillQueueModel_readRun_128 Q (fun v53 v54 v55 v56 s52 => ∀ v57 : Int32, v57 = (s52.1 12) + 1 → ((¬ v53 = 0 → Q 0 (up s52.1 12 (v57), s52.2)) ∧ (v53 = 0 → Q 1 (up s52.1 12 (v57), s52.2)))) a1 a2 v1 r5 r7 n51 r3 r5 0 r7 (s19.1, ua s19.2 5 (upd (s19.2 5) (s13.1 12).toNatClampNeg r20)))))))) ∧ (¬ r5 < r14 → Q 0 s13)))))))))))))
set_option maxHeartbeats 4000000 in
set_option maxRecDepth 100000 in
theorem w_M_SpillQueueModel_readRun (X : gX) (ad : Nat → Nat) (a1 : Int32) (a2 : Int32) (s : gS) (Q : Int32 → gS → Prop) (h : wp_M_SpillQueueModel_readRun a1 a2 s Q) (E : gE) (C : gC X E b_MO_readRun 10 R_MO) (hRm : gRm E = rm_M_SpillQueueModel_readRun) (r : gR X E b_MO_readRun (some .boolean) (gBi (wM ad X) Q)) : gW X E 0 0 (wM ad X s) [(0, .ref (ad 0)), (1, .int a1), (2, .int a2)] 0 [] := by
  have h : ∀ v1 : Int32, v1 = 3 + (4 * a2) → wp_M_SpillQueueModel_at a1 v1 s (fun r3 s2 => wp_M_SpillQueueModel_at a1 (v1 + 1) s2 (fun r5 s4 => wp_M_SpillQueueModel_at a1 (v1 + 2) s4 (fun r7 s6 => wp_M_SpillQueueModel_at a1 (v1 + 3) s6 (fun r9 s8 => ((r9 < 0 → Q 0 s8) ∧ (¬ r9 < 0 → ((r7 < 1 → Q 0 s8) ∧ (¬ r7 < 1 → ((r5 < 0 → Q 0 s8) ∧ (¬ r5 < 0 → wp_M_SpillQueueModel_room s8 (fun r14 s13 => ((r5 < r14 → vp_in (s13.1 12) 16 ∧ (vp_in (s13.1 12) 16 ∧ (vp_in (s13.1 12) 16 ∧ (wp_M_SpillQueueModel_at a1 (v1 + 3) (s13.1, ua (ua (ua s13.2 2 (upd (s13.2 2) (s13.1 12).toNatClampNeg r3)) 3 (upd (s13.2 3) (s13.1 12).toNatClampNeg r5)) 4 (upd (s13.2 4) (s13.1 12).toNatClampNeg r7)) (fun r20 s19 => vp_in (s13.1 12) 16 ∧ (∃ n51 : Nat, wl_M_SpillQueueModel_readRun_128 Q (fun v53 v54 v55 v56 s52 => ∀ v57 : Int32, v57 = (s52.1 12) + 1 → ((¬ v53 = 0 → Q 0 (up s52.1 12 (v57), s52.2)) ∧ (v53 = 0 → Q 1 (up s52.1 12 (v57), s52.2)))) a1 a2 v1 r5 r7 n51 r3 r5 0 r7 (s19.1, ua s19.2 5 (upd (s19.2 5) (s13.1 12).toNatClampNeg r20)))))))) ∧ (¬ r5 < r14 → Q 0 s13))))))))))))) := h
  refine g_iconst C 3 d_MO_readRun_0 (by decide) ?_
  refine g_iconst C 4 d_MO_readRun_1 (by decide) ?_
  refine g_iload_n C d_MO_readRun_2 rfl 2 rfl ?_
  refine g_imul C d_MO_readRun_3 ?_
  refine g_iadd C d_MO_readRun_4 ?_
  refine g_topi (fun v1 e_v1 => ?_)
  have h := h v1 e_v1
  refine g_istore_n C (lv2 := [(0, .ref (ad 0)), (1, .int a1), (2, .int a2), (3, .int v1)]) d_MO_readRun_5 rfl (by decide) rfl ?_
  refine g_aload_n C d_MO_readRun_6 rfl 0 rfl ?_
  refine g_iload_n C d_MO_readRun_7 rfl 1 rfl ?_
  refine g_iload_n C d_MO_readRun_8 rfl 3 rfl ?_
  refine g_callV C (rest := []) 0 (fun l => m_M_SpillQueueModel_at X ad a1 v1 s _ h l) rfl rfl (gt 840 (by decide +kernel) rfl) cb_MO_at ⟨rfl, rfl⟩ (by rw [hRm]; decide) ⟨Nat.zero_le _, Nat.zero_le _⟩ rfl rfl (Nat.le_of_ble_eq_true rfl) d_MO_readRun_9 (gki (fun r3 s2 h => ?_))
  refine g_istore C (lv2 := [(0, .ref (ad 0)), (1, .int a1), (2, .int a2), (3, .int v1), (4, .int r3)]) d_MO_readRun_12 (by decide) rfl ?_
  refine g_aload_n C d_MO_readRun_14 rfl 0 rfl ?_
  refine g_iload_n C d_MO_readRun_15 rfl 1 rfl ?_
  refine g_iload_n C d_MO_readRun_16 rfl 3 rfl ?_
  refine g_iconst C 1 d_MO_readRun_17 (by decide) ?_
  refine g_iadd C d_MO_readRun_18 ?_
  refine g_callV C (rest := []) 0 (fun l => m_M_SpillQueueModel_at X ad a1 (v1 + 1) s2 _ h l) rfl rfl (gt 840 (by decide +kernel) rfl) cb_MO_at ⟨rfl, rfl⟩ (by rw [hRm]; decide) ⟨Nat.zero_le _, Nat.zero_le _⟩ rfl rfl (Nat.le_of_ble_eq_true rfl) d_MO_readRun_19 (gki (fun r5 s4 h => ?_))
  refine g_istore C (lv2 := [(0, .ref (ad 0)), (1, .int a1), (2, .int a2), (3, .int v1), (4, .int r3), (5, .int r5)]) d_MO_readRun_22 (by decide) rfl ?_
  refine g_aload_n C d_MO_readRun_24 rfl 0 rfl ?_
  refine g_iload_n C d_MO_readRun_25 rfl 1 rfl ?_
  refine g_iload_n C d_MO_readRun_26 rfl 3 rfl ?_
  refine g_iconst C 2 d_MO_readRun_27 (by decide) ?_
  refine g_iadd C d_MO_readRun_28 ?_
  refine g_callV C (rest := []) 0 (fun l => m_M_SpillQueueModel_at X ad a1 (v1 + 2) s4 _ h l) rfl rfl (gt 840 (by decide +kernel) rfl) cb_MO_at ⟨rfl, rfl⟩ (by rw [hRm]; decide) ⟨Nat.zero_le _, Nat.zero_le _⟩ rfl rfl (Nat.le_of_ble_eq_true rfl) d_MO_readRun_29 (gki (fun r7 s6 h => ?_))
  refine g_istore C (lv2 := [(0, .ref (ad 0)), (1, .int a1), (2, .int a2), (3, .int v1), (4, .int r3), (5, .int r5), (6, .int r7)]) d_MO_readRun_32 (by decide) rfl ?_
  refine g_aload_n C d_MO_readRun_34 rfl 0 rfl ?_
  refine g_iload_n C d_MO_readRun_35 rfl 1 rfl ?_
  refine g_iload_n C d_MO_readRun_36 rfl 3 rfl ?_
  refine g_iconst C 3 d_MO_readRun_37 (by decide) ?_
  refine g_iadd C d_MO_readRun_38 ?_
  refine g_callV C (rest := []) 0 (fun l => m_M_SpillQueueModel_at X ad a1 (v1 + 3) s6 _ h l) rfl rfl (gt 840 (by decide +kernel) rfl) cb_MO_at ⟨rfl, rfl⟩ (by rw [hRm]; decide) ⟨Nat.zero_le _, Nat.zero_le _⟩ rfl rfl (Nat.le_of_ble_eq_true rfl) d_MO_readRun_39 (gki (fun r9 s8 h => ?_))
  refine g_if_lt C 65 d_MO_readRun_42 (by decide) (fun c10 => ?_) (fun c10 => ?_)
  · have h := h.1 c10
    refine g_iconst C 0 d_MO_readRun_65 (by decide) ?_
    exact g_iret r rfl d_MO_readRun_66 (gBi_mk h)
  · have h := h.2 c10
    refine g_iload C d_MO_readRun_45 6 rfl ?_
    refine g_iconst C 1 d_MO_readRun_47 (by decide) ?_
    refine g_icmp_lt C 65 d_MO_readRun_48 (by decide) (fun c11 => ?_) (fun c11 => ?_)
    · have h := h.1 c11
      refine g_iconst C 0 d_MO_readRun_65 (by decide) ?_
      exact g_iret r rfl d_MO_readRun_66 (gBi_mk h)
    · have h := h.2 c11
      refine g_iload C d_MO_readRun_51 5 rfl ?_
      refine g_if_lt C 65 d_MO_readRun_53 (by decide) (fun c12 => ?_) (fun c12 => ?_)
      · have h := h.1 c12
        refine g_iconst C 0 d_MO_readRun_65 (by decide) ?_
        exact g_iret r rfl d_MO_readRun_66 (gBi_mk h)
      · have h := h.2 c12
        refine g_iload C d_MO_readRun_56 5 rfl ?_
        refine g_aload_n C d_MO_readRun_58 rfl 0 rfl ?_
        refine g_callV C (rest := [.int r5]) 0 (fun l => m_M_SpillQueueModel_room X ad  s8 _ h l) rfl rfl (gt 852 (by decide +kernel) rfl) cb_MO_room ⟨rfl, rfl⟩ (by rw [hRm]; decide) ⟨Nat.zero_le _, Nat.zero_le _⟩ rfl rfl (Nat.le_of_ble_eq_true rfl) d_MO_readRun_59 (gki (fun r14 s13 h => ?_))
        refine g_icmp_lt C 67 d_MO_readRun_62 (by decide) (fun c15 => ?_) (fun c15 => ?_)
        · have h := h.1 c15
          refine g_aload_n C d_MO_readRun_67 rfl 0 rfl ?_
          refine g_get C (v := .ref (ad 3)) 0 15 iw_MO rfl rfl (by decide) (gt 746 (by decide +kernel) rfl) rfl rfl d_MO_readRun_68 ?_
          refine g_aload_n C d_MO_readRun_71 rfl 0 rfl ?_
          refine g_get C (v := .int (s13.1 12)) 0 14 iw_MO rfl rfl (by decide) (gt 745 (by decide +kernel) rfl) rfl rfl d_MO_readRun_72 ?_
          refine g_iload C d_MO_readRun_75 4 rfl ?_
          obtain ⟨i16, h⟩ := h
          refine g_iast C 3 0 (ws2 := wM ad X (s13.1, ua s13.2 2 (upd (s13.2 2) (s13.1 12).toNatClampNeg r3))) rfl rfl i16 rfl d_MO_readRun_77 ?_
          refine g_aload_n C d_MO_readRun_78 rfl 0 rfl ?_
          refine g_get C (v := .ref (ad 4)) 0 16 iw_MO rfl rfl (by decide) (gt 747 (by decide +kernel) rfl) rfl rfl d_MO_readRun_79 ?_
          refine g_aload_n C d_MO_readRun_82 rfl 0 rfl ?_
          refine g_get C (v := .int (s13.1 12)) 0 14 iw_MO rfl rfl (by decide) (gt 745 (by decide +kernel) rfl) rfl rfl d_MO_readRun_83 ?_
          refine g_iload C d_MO_readRun_86 5 rfl ?_
          obtain ⟨i17, h⟩ := h
          refine g_iast C 4 0 (ws2 := wM ad X (s13.1, ua (ua s13.2 2 (upd (s13.2 2) (s13.1 12).toNatClampNeg r3)) 3 (upd (s13.2 3) (s13.1 12).toNatClampNeg r5))) rfl rfl i17 rfl d_MO_readRun_88 ?_
          refine g_aload_n C d_MO_readRun_89 rfl 0 rfl ?_
          refine g_get C (v := .ref (ad 5)) 0 17 iw_MO rfl rfl (by decide) (gt 748 (by decide +kernel) rfl) rfl rfl d_MO_readRun_90 ?_
          refine g_aload_n C d_MO_readRun_93 rfl 0 rfl ?_
          refine g_get C (v := .int (s13.1 12)) 0 14 iw_MO rfl rfl (by decide) (gt 745 (by decide +kernel) rfl) rfl rfl d_MO_readRun_94 ?_
          refine g_iload C d_MO_readRun_97 6 rfl ?_
          obtain ⟨i18, h⟩ := h
          refine g_iast C 5 0 (ws2 := wM ad X (s13.1, ua (ua (ua s13.2 2 (upd (s13.2 2) (s13.1 12).toNatClampNeg r3)) 3 (upd (s13.2 3) (s13.1 12).toNatClampNeg r5)) 4 (upd (s13.2 4) (s13.1 12).toNatClampNeg r7))) rfl rfl i18 rfl d_MO_readRun_99 ?_
          refine g_aload_n C d_MO_readRun_100 rfl 0 rfl ?_
          refine g_get C (v := .ref (ad 6)) 0 18 iw_MO rfl rfl (by decide) (gt 749 (by decide +kernel) rfl) rfl rfl d_MO_readRun_101 ?_
          refine g_aload_n C d_MO_readRun_104 rfl 0 rfl ?_
          refine g_get C (v := .int (s13.1 12)) 0 14 iw_MO rfl rfl (by decide) (gt 745 (by decide +kernel) rfl) rfl rfl d_MO_readRun_105 ?_
          refine g_aload_n C d_MO_readRun_108 rfl 0 rfl ?_
          refine g_iload_n C d_MO_readRun_109 rfl 1 rfl ?_
          refine g_iload_n C d_MO_readRun_110 rfl 3 rfl ?_
          refine g_iconst C 3 d_MO_readRun_111 (by decide) ?_
          refine g_iadd C d_MO_readRun_112 ?_
          refine g_callV C (rest := [.int (s13.1 12), .ref (ad 6)]) 0 (fun l => m_M_SpillQueueModel_at X ad a1 (v1 + 3) (s13.1, ua (ua (ua s13.2 2 (upd (s13.2 2) (s13.1 12).toNatClampNeg r3)) 3 (upd (s13.2 3) (s13.1 12).toNatClampNeg r5)) 4 (upd (s13.2 4) (s13.1 12).toNatClampNeg r7)) _ h l) rfl rfl (gt 840 (by decide +kernel) rfl) cb_MO_at ⟨rfl, rfl⟩ (by rw [hRm]; decide) ⟨Nat.zero_le _, Nat.zero_le _⟩ rfl rfl (Nat.le_of_ble_eq_true rfl) d_MO_readRun_113 (gki (fun r20 s19 h => ?_))
          obtain ⟨i21, h⟩ := h
          refine g_iast C 6 0 (ws2 := wM ad X (s19.1, ua s19.2 5 (upd (s19.2 5) (s13.1 12).toNatClampNeg r20))) rfl rfl i21 rfl d_MO_readRun_116 ?_
          refine g_iload C d_MO_readRun_117 5 rfl ?_
          refine g_istore C (lv2 := [(0, .ref (ad 0)), (1, .int a1), (2, .int a2), (3, .int v1), (4, .int r3), (5, .int r5), (6, .int r7), (7, .int r5)]) d_MO_readRun_119 (by decide) rfl ?_
          refine g_iconst C 0 d_MO_readRun_121 (by decide) ?_
          refine g_istore C (lv2 := [(0, .ref (ad 0)), (1, .int a1), (2, .int a2), (3, .int v1), (4, .int r3), (5, .int r5), (6, .int r7), (7, .int r5), (8, .int 0)]) d_MO_readRun_122 (by decide) rfl ?_
          refine g_iload C d_MO_readRun_124 6 rfl ?_
          refine g_istore C (lv2 := [(0, .ref (ad 0)), (1, .int a1), (2, .int a2), (3, .int v1), (4, .int r3), (5, .int r5), (6, .int r7), (7, .int r5), (8, .int 0), (9, .int r7)]) d_MO_readRun_126 (by decide) rfl ?_
          obtain ⟨n51, h⟩ := h
          refine w_M_SpillQueueModel_readRun_128 X ad Q (_) a1 a2 v1 r5 r7 E C hRm r ?_ n51 r3 r5 0 r7 (s19.1, ua s19.2 5 (upd (s19.2 5) (s13.1 12).toNatClampNeg r20)) h
          intro v53 v54 v55 v56 s52 h
          refine g_aload_n C d_MO_readRun_251 rfl 0 rfl ?_
          refine g_dup C rfl d_MO_readRun_252 ?_
          refine g_get C (v := .int (s52.1 12)) 0 14 iw_MO rfl rfl (by decide) (gt 745 (by decide +kernel) rfl) rfl rfl d_MO_readRun_253 ?_
          refine g_iconst C 1 d_MO_readRun_256 (by decide) ?_
          refine g_iadd C d_MO_readRun_257 ?_
          refine g_topi (fun v57 e_v57 => ?_)
          have h := h v57 e_v57
          refine g_put C (ws2 := wM ad X (up s52.1 12 (v57), s52.2)) 0 14 iw_MO ty_MO tyok_MO nm_MO rfl rfl (by decide) (gt 745 (by decide +kernel) rfl) rfl rfl rfl rfl (Nat.le_of_ble_eq_true rfl) rfl d_MO_readRun_258 ?_
          refine g_iload C d_MO_readRun_261 4 rfl ?_
          refine g_if_ne C 270 d_MO_readRun_263 (by decide) (fun c58 => ?_) (fun c58 => ?_)
          · have h := h.1 c58
            refine g_iconst C 0 d_MO_readRun_270 (by decide) ?_
            exact g_iret r rfl d_MO_readRun_271 (gBi_mk h)
          · have h := h.2 c58
            refine g_iconst C 1 d_MO_readRun_266 (by decide) ?_
            refine g_goto C 271 d_MO_readRun_267 (by decide) ?_
            exact g_iret r rfl d_MO_readRun_271 (gBi_mk h)
        · have h := h.2 c15
          refine g_iconst C 0 d_MO_readRun_65 (by decide) ?_
          exact g_iret r rfl d_MO_readRun_66 (gBi_mk h)
theorem m_M_SpillQueueModel_readRun (X : gX) (ad : Nat → Nat) (a1 : Int32) (a2 : Int32) (s : gS) (Q : Int32 → gS → Prop) (h : wp_M_SpillQueueModel_readRun a1 a2 s Q) (l : Launch) : gM l X y_MO_readRun b_MO_readRun 10 (some .boolean) rm_M_SpillQueueModel_readRun [.ref (ad 0), .int a1, .int a2] (wM ad X s) (gBi (wM ad X) Q) :=
  gM_of (by decide +kernel) rfl (Nat.le_of_ble_eq_true rfl) rfl (fun E C hRm r => w_M_SpillQueueModel_readRun X ad a1 a2 s Q h E C hRm r)
