def rm_M_SpillQueueModel_format : Room := { frames := 4, cells := 0, slots := 0, locals := 88 }
def wl_M_SpillQueueModel_format_88 (Q : gS → Prop) (K : Int32 → gS → Prop) (x1 : Int32) (x2 : Int32) (x3 : Int32) (x4 : Int32) : Nat → Int32 → gS → Prop
  | 0, _, _ => False
  | n + 1, x5, s => ((8000 ≤ x5 → K x5 s) ∧ (¬ 8000 ≤ x5 → vp_in x5 8000 ∧ (∀ v15 : Int32, v15 = x5 + 1 → wl_M_SpillQueueModel_format_88 Q K x1 x2 x3 x4 n v15 (s.1, ua s.2 0 (upd (s.2 0) x5.toNatClampNeg 0)))))
set_option maxHeartbeats 4000000 in
set_option maxRecDepth 100000 in
theorem w_M_SpillQueueModel_format_88 (X : gX) (ad : Nat → Nat) (Q : gS → Prop) (K : Int32 → gS → Prop) (x1 : Int32) (x2 : Int32) (x3 : Int32) (x4 : Int32) (E : gE) (C : gC X E b_MO_format 6 R_MO) (hRm : gRm E = rm_M_SpillQueueModel_format) (r : gR X E b_MO_format none (gBv (wM ad X) Q)) (hK : ∀ (x5 : Int32) (s : gS), K x5 s → gW X E 0 0 (wM ad X s) [(0, .ref (ad 0)), (1, .int x1), (2, .int x2), (3, .int x3), (4, .int x4), (5, .int x5)] 110 []) : ∀ (n : Nat) (x5 : Int32) (s : gS), wl_M_SpillQueueModel_format_88 Q K x1 x2 x3 x4 n x5 s → gW X E 0 0 (wM ad X s) [(0, .ref (ad 0)), (1, .int x1), (2, .int x2), (3, .int x3), (4, .int x4), (5, .int x5)] 88 [] := by
  intro n
  induction n with
  | zero => intro x5 s h; exact False.elim h
  | succ n ih =>
    intro x5 s h
    have h : ((8000 ≤ x5 → K x5 s) ∧ (¬ 8000 ≤ x5 → vp_in x5 8000 ∧ (∀ v15 : Int32, v15 = x5 + 1 → wl_M_SpillQueueModel_format_88 Q K x1 x2 x3 x4 n v15 (s.1, ua s.2 0 (upd (s.2 0) x5.toNatClampNeg 0))))) := h
    refine g_iload C d_MO_format_88 5 rfl ?_
    refine g_sipush C 8000 d_MO_format_90 (by decide) ?_
    refine g_icmp_ge C 110 d_MO_format_93 (by decide) (fun c13 => ?_) (fun c13 => ?_)
    · have h := h.1 c13
      exact hK x5 s h
    · have h := h.2 c13
      refine g_aload_n C d_MO_format_96 rfl 0 rfl ?_
      refine g_get C (v := .ref (ad 1)) 0 6 iw_MO rfl rfl (by decide) (gt 737 (by decide +kernel) rfl) rfl rfl d_MO_format_97 ?_
      refine g_iload C d_MO_format_100 5 rfl ?_
      refine g_iconst C 0 d_MO_format_102 (by decide) ?_
      obtain ⟨i14, h⟩ := h
      refine g_iast C 1 0 (ws2 := wM ad X (s.1, ua s.2 0 (upd (s.2 0) x5.toNatClampNeg 0))) rfl rfl i14 rfl d_MO_format_103 ?_
      obtain ⟨v15, e_v15⟩ : ∃ y : Int32, y = x5 + 1 := ⟨_, rfl⟩
      have h := h v15 e_v15
      refine g_iinc C (v := v15) (lv2 := [(0, .ref (ad 0)), (1, .int x1), (2, .int x2), (3, .int x3), (4, .int x4), (5, .int v15)]) d_MO_format_104 5 rfl (by rw [e_v15]; rfl) (by decide) rfl ?_
      refine g_goto C 88 d_MO_format_107 (by decide) ?_
      exact ih v15 (s.1, ua s.2 0 (upd (s.2 0) x5.toNatClampNeg 0)) h
def wl_M_SpillQueueModel_format_113 (Q : gS → Prop) (K : Int32 → gS → Prop) (x1 : Int32) (x2 : Int32) (x3 : Int32) (x4 : Int32) : Nat → Int32 → gS → Prop
  | 0, _, _ => False
  | n + 1, x5, s => ((200 ≤ x5 → K x5 s) ∧ (¬ 200 ≤ x5 → vp_in x5 200 ∧ (∀ v21 : Int32, v21 = x5 + 1 → wl_M_SpillQueueModel_format_113 Q K x1 x2 x3 x4 n v21 (s.1, ua s.2 6 (upd (s.2 6) x5.toNatClampNeg (vp_nar .boolean 0))))))
set_option maxHeartbeats 4000000 in
set_option maxRecDepth 100000 in
theorem w_M_SpillQueueModel_format_113 (X : gX) (ad : Nat → Nat) (Q : gS → Prop) (K : Int32 → gS → Prop) (x1 : Int32) (x2 : Int32) (x3 : Int32) (x4 : Int32) (E : gE) (C : gC X E b_MO_format 6 R_MO) (hRm : gRm E = rm_M_SpillQueueModel_format) (r : gR X E b_MO_format none (gBv (wM ad X) Q)) (hK : ∀ (x5 : Int32) (s : gS), K x5 s → gW X E 0 0 (wM ad X s) [(0, .ref (ad 0)), (1, .int x1), (2, .int x2), (3, .int x3), (4, .int x4), (5, .int x5)] 135 []) : ∀ (n : Nat) (x5 : Int32) (s : gS), wl_M_SpillQueueModel_format_113 Q K x1 x2 x3 x4 n x5 s → gW X E 0 0 (wM ad X s) [(0, .ref (ad 0)), (1, .int x1), (2, .int x2), (3, .int x3), (4, .int x4), (5, .int x5)] 113 [] := by
  intro n
  induction n with
  | zero => intro x5 s h; exact False.elim h
  | succ n ih =>
    intro x5 s h
    have h : ((200 ≤ x5 → K x5 s) ∧ (¬ 200 ≤ x5 → vp_in x5 200 ∧ (∀ v21 : Int32, v21 = x5 + 1 → wl_M_SpillQueueModel_format_113 Q K x1 x2 x3 x4 n v21 (s.1, ua s.2 6 (upd (s.2 6) x5.toNatClampNeg (vp_nar .boolean 0)))))) := h
    refine g_iload C d_MO_format_113 5 rfl ?_
    refine g_sipush C 200 d_MO_format_115 (by decide) ?_
    refine g_icmp_ge C 135 d_MO_format_118 (by decide) (fun c19 => ?_) (fun c19 => ?_)
    · have h := h.1 c19
      exact hK x5 s h
    · have h := h.2 c19
      refine g_aload_n C d_MO_format_121 rfl 0 rfl ?_
      refine g_get C (v := .ref (ad 7)) 0 19 iw_MO rfl rfl (by decide) (gt 750 (by decide +kernel) rfl) rfl rfl d_MO_format_122 ?_
      refine g_iload C d_MO_format_125 5 rfl ?_
      refine g_iconst C 0 d_MO_format_127 (by decide) ?_
      obtain ⟨i20, h⟩ := h
      refine g_zast C 7 1 (ws2 := wM ad X (s.1, ua s.2 6 (upd (s.2 6) x5.toNatClampNeg (vp_nar .boolean 0)))) rfl rfl i20 rfl d_MO_format_128 ?_
      obtain ⟨v21, e_v21⟩ : ∃ y : Int32, y = x5 + 1 := ⟨_, rfl⟩
      have h := h v21 e_v21
      refine g_iinc C (v := v21) (lv2 := [(0, .ref (ad 0)), (1, .int x1), (2, .int x2), (3, .int x3), (4, .int x4), (5, .int v21)]) d_MO_format_129 5 rfl (by rw [e_v21]; rfl) (by decide) rfl ?_
      refine g_goto C 113 d_MO_format_132 (by decide) ?_
      exact ih v21 (s.1, ua s.2 6 (upd (s.2 6) x5.toNatClampNeg (vp_nar .boolean 0))) h
def wp_M_SpillQueueModel_format (a1 : Int32) (a2 : Int32) (a3 : Int32) (a4 : Int32) (s : gS) (Q : gS → Prop) : Prop := wp_M_SpillQueueModel_within a1 4 200 s (fun r2 s1 => ((r2 = 0 → Q (up s1.1 0 (1), s1.2)) ∧ (¬ r2 = 0 → wp_M_SpillQueueModel_within a2 11 40 s1 (fun r5 s4 => ((r5 = 0 → Q (up s4.1 0 (1), s4.2)) ∧ (¬ r5 = 0 → wp_M_SpillQueueModel_within a3 1 100 s4 (fun r8 s7 => ((r8 = 0 → Q (up s7.1 0 (1), s7.2)) ∧ (¬ r8 = 0 → wp_M_SpillQueueModel_within a4 2 5 s7 (fun r11 s10 => ((¬ r11 = 0 → ∃ n16 : Nat, wl_M_SpillQueueModel_format_88 Q (fun v18 s17 => ∃ n22 : Nat, wl_M_SpillQueueModel_format_113 Q (fun v24 s23 => wp_M_SpillQueueModel_writeSuper (up (up (up (up (up (up (up s23.1 6 (0)) 7 (0)) 9 (0)) 10 (0)) 12 (0)) 11 (0)) 8 (1), s23.2) (fun s25 => Q s25)) a1 a2 a3 a4 n22 0 s17) a1 a2 a3 a4 n16 0 (up (up (up (up (up (up s10.1 0 (0)) 1 (1)) 2 (a1)) 3 (a2)) 4 (a3)) 5 (a4), s10.2)) ∧ (r11 = 0 → Q (up s10.1 0 (1), s10.2)))))))))))))
set_option maxHeartbeats 4000000 in
set_option maxRecDepth 100000 in
theorem w_M_SpillQueueModel_format (X : gX) (ad : Nat → Nat) (a1 : Int32) (a2 : Int32) (a3 : Int32) (a4 : Int32) (s : gS) (Q : gS → Prop) (h : wp_M_SpillQueueModel_format a1 a2 a3 a4 s Q) (E : gE) (C : gC X E b_MO_format 6 R_MO) (hRm : gRm E = rm_M_SpillQueueModel_format) (r : gR X E b_MO_format none (gBv (wM ad X) Q)) : gW X E 0 0 (wM ad X s) [(0, .ref (ad 0)), (1, .int a1), (2, .int a2), (3, .int a3), (4, .int a4)] 0 [] := by
  have h : wp_M_SpillQueueModel_within a1 4 200 s (fun r2 s1 => ((r2 = 0 → Q (up s1.1 0 (1), s1.2)) ∧ (¬ r2 = 0 → wp_M_SpillQueueModel_within a2 11 40 s1 (fun r5 s4 => ((r5 = 0 → Q (up s4.1 0 (1), s4.2)) ∧ (¬ r5 = 0 → wp_M_SpillQueueModel_within a3 1 100 s4 (fun r8 s7 => ((r8 = 0 → Q (up s7.1 0 (1), s7.2)) ∧ (¬ r8 = 0 → wp_M_SpillQueueModel_within a4 2 5 s7 (fun r11 s10 => ((¬ r11 = 0 → ∃ n16 : Nat, wl_M_SpillQueueModel_format_88 Q (fun v18 s17 => ∃ n22 : Nat, wl_M_SpillQueueModel_format_113 Q (fun v24 s23 => wp_M_SpillQueueModel_writeSuper (up (up (up (up (up (up (up s23.1 6 (0)) 7 (0)) 9 (0)) 10 (0)) 12 (0)) 11 (0)) 8 (1), s23.2) (fun s25 => Q s25)) a1 a2 a3 a4 n22 0 s17) a1 a2 a3 a4 n16 0 (up (up (up (up (up (up s10.1 0 (0)) 1 (1)) 2 (a1)) 3 (a2)) 4 (a3)) 5 (a4), s10.2)) ∧ (r11 = 0 → Q (up s10.1 0 (1), s10.2))))))))))))) := h
  refine g_aload_n C d_MO_format_0 rfl 0 rfl ?_
  refine g_iload_n C d_MO_format_1 rfl 1 rfl ?_
  refine g_iconst C 4 d_MO_format_2 (by decide) ?_
  refine g_sipush C 200 d_MO_format_3 (by decide) ?_
  refine g_callS C (rest := [.ref (ad 0)]) (fun l => m_M_SpillQueueModel_within X ad a1 4 200 s _ h l) (gt 821 (by decide +kernel) rfl) cb_MO_within ⟨rfl, rfl⟩ (by rw [hRm]; decide) ⟨Nat.zero_le _, Nat.zero_le _⟩ rfl rfl (Nat.le_of_ble_eq_true rfl) d_MO_format_6 (gki (fun r2 s1 h => ?_))
  refine g_if_eq C 43 d_MO_format_9 (by decide) (fun c3 => ?_) (fun c3 => ?_)
  · have h := h.1 c3
    refine g_iconst C 1 d_MO_format_43 (by decide) ?_
    refine g_goto C 48 d_MO_format_44 (by decide) ?_
    refine g_put C (ws2 := wM ad X (up s1.1 0 (1), s1.2)) 0 0 iw_MO ty_MO tyok_MO nm_MO rfl rfl (by decide) (gt 731 (by decide +kernel) rfl) rfl rfl rfl rfl (Nat.le_of_ble_eq_true rfl) rfl d_MO_format_48 ?_
    refine g_aload_n C d_MO_format_51 rfl 0 rfl ?_
    refine g_get C (v := .int 1) 0 0 iw_MO rfl rfl (by decide) (gt 731 (by decide +kernel) rfl) rfl rfl d_MO_format_52 ?_
    refine g_if_le C 59 d_MO_format_55 (by decide) (fun c9 => absurd c9 (by decide)) (fun _ => ?_)
    exact g_vret r d_MO_format_58 (gBv_mk h)
  · have h := h.2 c3
    refine g_iload_n C d_MO_format_12 rfl 2 rfl ?_
    refine g_bipush C 11 d_MO_format_13 (by decide) ?_
    refine g_bipush C 40 d_MO_format_15 (by decide) ?_
    refine g_callS C (rest := [.ref (ad 0)]) (fun l => m_M_SpillQueueModel_within X ad a2 11 40 s1 _ h l) (gt 821 (by decide +kernel) rfl) cb_MO_within ⟨rfl, rfl⟩ (by rw [hRm]; decide) ⟨Nat.zero_le _, Nat.zero_le _⟩ rfl rfl (Nat.le_of_ble_eq_true rfl) d_MO_format_17 (gki (fun r5 s4 h => ?_))
    refine g_if_eq C 43 d_MO_format_20 (by decide) (fun c6 => ?_) (fun c6 => ?_)
    · have h := h.1 c6
      refine g_iconst C 1 d_MO_format_43 (by decide) ?_
      refine g_goto C 48 d_MO_format_44 (by decide) ?_
      refine g_put C (ws2 := wM ad X (up s4.1 0 (1), s4.2)) 0 0 iw_MO ty_MO tyok_MO nm_MO rfl rfl (by decide) (gt 731 (by decide +kernel) rfl) rfl rfl rfl rfl (Nat.le_of_ble_eq_true rfl) rfl d_MO_format_48 ?_
      refine g_aload_n C d_MO_format_51 rfl 0 rfl ?_
      refine g_get C (v := .int 1) 0 0 iw_MO rfl rfl (by decide) (gt 731 (by decide +kernel) rfl) rfl rfl d_MO_format_52 ?_
      refine g_if_le C 59 d_MO_format_55 (by decide) (fun c9 => absurd c9 (by decide)) (fun _ => ?_)
      exact g_vret r d_MO_format_58 (gBv_mk h)
    · have h := h.2 c6
      refine g_iload_n C d_MO_format_23 rfl 3 rfl ?_
      refine g_iconst C 1 d_MO_format_24 (by decide) ?_
      refine g_bipush C 100 d_MO_format_25 (by decide) ?_
      refine g_callS C (rest := [.ref (ad 0)]) (fun l => m_M_SpillQueueModel_within X ad a3 1 100 s4 _ h l) (gt 821 (by decide +kernel) rfl) cb_MO_within ⟨rfl, rfl⟩ (by rw [hRm]; decide) ⟨Nat.zero_le _, Nat.zero_le _⟩ rfl rfl (Nat.le_of_ble_eq_true rfl) d_MO_format_27 (gki (fun r8 s7 h => ?_))
      refine g_if_eq C 43 d_MO_format_30 (by decide) (fun c9 => ?_) (fun c9 => ?_)
      · have h := h.1 c9
        refine g_iconst C 1 d_MO_format_43 (by decide) ?_
        refine g_goto C 48 d_MO_format_44 (by decide) ?_
        refine g_put C (ws2 := wM ad X (up s7.1 0 (1), s7.2)) 0 0 iw_MO ty_MO tyok_MO nm_MO rfl rfl (by decide) (gt 731 (by decide +kernel) rfl) rfl rfl rfl rfl (Nat.le_of_ble_eq_true rfl) rfl d_MO_format_48 ?_
        refine g_aload_n C d_MO_format_51 rfl 0 rfl ?_
        refine g_get C (v := .int 1) 0 0 iw_MO rfl rfl (by decide) (gt 731 (by decide +kernel) rfl) rfl rfl d_MO_format_52 ?_
        refine g_if_le C 59 d_MO_format_55 (by decide) (fun c9 => absurd c9 (by decide)) (fun _ => ?_)
        exact g_vret r d_MO_format_58 (gBv_mk h)
      · have h := h.2 c9
        refine g_iload C d_MO_format_33 4 rfl ?_
        refine g_iconst C 2 d_MO_format_35 (by decide) ?_
        refine g_iconst C 5 d_MO_format_36 (by decide) ?_
        refine g_callS C (rest := [.ref (ad 0)]) (fun l => m_M_SpillQueueModel_within X ad a4 2 5 s7 _ h l) (gt 821 (by decide +kernel) rfl) cb_MO_within ⟨rfl, rfl⟩ (by rw [hRm]; decide) ⟨Nat.zero_le _, Nat.zero_le _⟩ rfl rfl (Nat.le_of_ble_eq_true rfl) d_MO_format_37 (gki (fun r11 s10 h => ?_))
        refine g_if_ne C 47 d_MO_format_40 (by decide) (fun c12 => ?_) (fun c12 => ?_)
        · have h := h.1 c12
          refine g_iconst C 0 d_MO_format_47 (by decide) ?_
          refine g_put C (ws2 := wM ad X (up s10.1 0 (0), s10.2)) 0 0 iw_MO ty_MO tyok_MO nm_MO rfl rfl (by decide) (gt 731 (by decide +kernel) rfl) rfl rfl rfl rfl (Nat.le_of_ble_eq_true rfl) rfl d_MO_format_48 ?_
          refine g_aload_n C d_MO_format_51 rfl 0 rfl ?_
          refine g_get C (v := .int 0) 0 0 iw_MO rfl rfl (by decide) (gt 731 (by decide +kernel) rfl) rfl rfl d_MO_format_52 ?_
          refine g_if_le C 59 d_MO_format_55 (by decide) (fun _ => ?_) (fun c9 => absurd c9 (by decide))
          refine g_aload_n C d_MO_format_59 rfl 0 rfl ?_
          refine g_iconst C 1 d_MO_format_60 (by decide) ?_
          refine g_put C (ws2 := wM ad X (up (up s10.1 0 (0)) 1 (1), s10.2)) 0 1 iw_MO ty_MO tyok_MO nm_MO rfl rfl (by decide) (gt 732 (by decide +kernel) rfl) rfl rfl (by decide +kernel) (by decide +kernel) (Nat.le_of_ble_eq_true rfl) rfl d_MO_format_61 ?_
          refine g_aload_n C d_MO_format_64 rfl 0 rfl ?_
          refine g_iload_n C d_MO_format_65 rfl 1 rfl ?_
          refine g_put C (ws2 := wM ad X (up (up (up s10.1 0 (0)) 1 (1)) 2 (a1), s10.2)) 0 2 iw_MO ty_MO tyok_MO nm_MO rfl rfl (by decide) (gt 733 (by decide +kernel) rfl) rfl rfl rfl rfl (Nat.le_of_ble_eq_true rfl) rfl d_MO_format_66 ?_
          refine g_aload_n C d_MO_format_69 rfl 0 rfl ?_
          refine g_iload_n C d_MO_format_70 rfl 2 rfl ?_
          refine g_put C (ws2 := wM ad X (up (up (up (up s10.1 0 (0)) 1 (1)) 2 (a1)) 3 (a2), s10.2)) 0 3 iw_MO ty_MO tyok_MO nm_MO rfl rfl (by decide) (gt 734 (by decide +kernel) rfl) rfl rfl rfl rfl (Nat.le_of_ble_eq_true rfl) rfl d_MO_format_71 ?_
          refine g_aload_n C d_MO_format_74 rfl 0 rfl ?_
          refine g_iload_n C d_MO_format_75 rfl 3 rfl ?_
          refine g_put C (ws2 := wM ad X (up (up (up (up (up s10.1 0 (0)) 1 (1)) 2 (a1)) 3 (a2)) 4 (a3), s10.2)) 0 4 iw_MO ty_MO tyok_MO nm_MO rfl rfl (by decide) (gt 735 (by decide +kernel) rfl) rfl rfl rfl rfl (Nat.le_of_ble_eq_true rfl) rfl d_MO_format_76 ?_
          refine g_aload_n C d_MO_format_79 rfl 0 rfl ?_
          refine g_iload C d_MO_format_80 4 rfl ?_
          refine g_put C (ws2 := wM ad X (up (up (up (up (up (up s10.1 0 (0)) 1 (1)) 2 (a1)) 3 (a2)) 4 (a3)) 5 (a4), s10.2)) 0 5 iw_MO ty_MO tyok_MO nm_MO rfl rfl (by decide) (gt 736 (by decide +kernel) rfl) rfl rfl rfl rfl (Nat.le_of_ble_eq_true rfl) rfl d_MO_format_82 ?_
          refine g_iconst C 0 d_MO_format_85 (by decide) ?_
          refine g_istore C (lv2 := [(0, .ref (ad 0)), (1, .int a1), (2, .int a2), (3, .int a3), (4, .int a4), (5, .int 0)]) d_MO_format_86 (by decide) rfl ?_
          obtain ⟨n16, h⟩ := h
          refine w_M_SpillQueueModel_format_88 X ad Q (_) a1 a2 a3 a4 E C hRm r ?_ n16 0 (up (up (up (up (up (up s10.1 0 (0)) 1 (1)) 2 (a1)) 3 (a2)) 4 (a3)) 5 (a4), s10.2) h
          intro v18 s17 h
          refine g_iconst C 0 d_MO_format_110 (by decide) ?_
          refine g_istore C (lv2 := [(0, .ref (ad 0)), (1, .int a1), (2, .int a2), (3, .int a3), (4, .int a4), (5, .int 0)]) d_MO_format_111 (by decide) rfl ?_
          obtain ⟨n22, h⟩ := h
          refine w_M_SpillQueueModel_format_113 X ad Q (_) a1 a2 a3 a4 E C hRm r ?_ n22 0 s17 h
          intro v24 s23 h
          refine g_aload_n C d_MO_format_135 rfl 0 rfl ?_
          refine g_iconst C 0 d_MO_format_136 (by decide) ?_
          refine g_put C (ws2 := wM ad X (up s23.1 6 (0), s23.2)) 0 7 iw_MO ty_MO tyok_MO nm_MO rfl rfl (by decide) (gt 738 (by decide +kernel) rfl) rfl rfl rfl rfl (Nat.le_of_ble_eq_true rfl) rfl d_MO_format_137 ?_
          refine g_aload_n C d_MO_format_140 rfl 0 rfl ?_
          refine g_iconst C 0 d_MO_format_141 (by decide) ?_
          refine g_put C (ws2 := wM ad X (up (up s23.1 6 (0)) 7 (0), s23.2)) 0 8 iw_MO ty_MO tyok_MO nm_MO rfl rfl (by decide) (gt 739 (by decide +kernel) rfl) rfl rfl rfl rfl (Nat.le_of_ble_eq_true rfl) rfl d_MO_format_142 ?_
          refine g_aload_n C d_MO_format_145 rfl 0 rfl ?_
          refine g_iconst C 0 d_MO_format_146 (by decide) ?_
          refine g_put C (ws2 := wM ad X (up (up (up s23.1 6 (0)) 7 (0)) 9 (0), s23.2)) 0 10 iw_MO ty_MO tyok_MO nm_MO rfl rfl (by decide) (gt 741 (by decide +kernel) rfl) rfl rfl (by decide +kernel) (by decide +kernel) (Nat.le_of_ble_eq_true rfl) rfl d_MO_format_147 ?_
          refine g_aload_n C d_MO_format_150 rfl 0 rfl ?_
          refine g_iconst C 0 d_MO_format_151 (by decide) ?_
          refine g_put C (ws2 := wM ad X (up (up (up (up s23.1 6 (0)) 7 (0)) 9 (0)) 10 (0), s23.2)) 0 11 iw_MO ty_MO tyok_MO nm_MO rfl rfl (by decide) (gt 742 (by decide +kernel) rfl) rfl rfl rfl rfl (Nat.le_of_ble_eq_true rfl) rfl d_MO_format_152 ?_
          refine g_aload_n C d_MO_format_155 rfl 0 rfl ?_
          refine g_iconst C 0 d_MO_format_156 (by decide) ?_
          refine g_put C (ws2 := wM ad X (up (up (up (up (up s23.1 6 (0)) 7 (0)) 9 (0)) 10 (0)) 12 (0), s23.2)) 0 14 iw_MO ty_MO tyok_MO nm_MO rfl rfl (by decide) (gt 745 (by decide +kernel) rfl) rfl rfl rfl rfl (Nat.le_of_ble_eq_true rfl) rfl d_MO_format_157 ?_
          refine g_aload_n C d_MO_format_160 rfl 0 rfl ?_
          refine g_iconst C 0 d_MO_format_161 (by decide) ?_
          refine g_put C (ws2 := wM ad X (up (up (up (up (up (up s23.1 6 (0)) 7 (0)) 9 (0)) 10 (0)) 12 (0)) 11 (0), s23.2)) 0 13 iw_MO ty_MO tyok_MO nm_MO rfl rfl (by decide) (gt 744 (by decide +kernel) rfl) rfl rfl rfl rfl (Nat.le_of_ble_eq_true rfl) rfl d_MO_format_162 ?_
          refine g_aload_n C d_MO_format_165 rfl 0 rfl ?_
          refine g_iconst C 1 d_MO_format_166 (by decide) ?_
          refine g_put C (ws2 := wM ad X (up (up (up (up (up (up (up s23.1 6 (0)) 7 (0)) 9 (0)) 10 (0)) 12 (0)) 11 (0)) 8 (1), s23.2)) 0 9 iw_MO ty_MO tyok_MO nm_MO rfl rfl (by decide) (gt 740 (by decide +kernel) rfl) rfl rfl (by decide +kernel) (by decide +kernel) (Nat.le_of_ble_eq_true rfl) rfl d_MO_format_167 ?_
          refine g_aload_n C d_MO_format_170 rfl 0 rfl ?_
          refine g_callV C (rest := []) 0 (fun l => m_M_SpillQueueModel_writeSuper X ad  (up (up (up (up (up (up (up s23.1 6 (0)) 7 (0)) 9 (0)) 10 (0)) 12 (0)) 11 (0)) 8 (1), s23.2) _ h l) rfl rfl (gt 824 (by decide +kernel) rfl) cb_MO_writeSuper ⟨rfl, rfl⟩ (by rw [hRm]; decide) ⟨Nat.zero_le _, Nat.zero_le _⟩ rfl rfl (Nat.le_of_ble_eq_true rfl) d_MO_format_171 (gkv (fun s25 h => ?_))
          exact g_vret r d_MO_format_174 (gBv_mk h)
        · have h := h.2 c12
          refine g_iconst C 1 d_MO_format_43 (by decide) ?_
          refine g_goto C 48 d_MO_format_44 (by decide) ?_
          refine g_put C (ws2 := wM ad X (up s10.1 0 (1), s10.2)) 0 0 iw_MO ty_MO tyok_MO nm_MO rfl rfl (by decide) (gt 731 (by decide +kernel) rfl) rfl rfl rfl rfl (Nat.le_of_ble_eq_true rfl) rfl d_MO_format_48 ?_
          refine g_aload_n C d_MO_format_51 rfl 0 rfl ?_
          refine g_get C (v := .int 1) 0 0 iw_MO rfl rfl (by decide) (gt 731 (by decide +kernel) rfl) rfl rfl d_MO_format_52 ?_
          refine g_if_le C 59 d_MO_format_55 (by decide) (fun c9 => absurd c9 (by decide)) (fun _ => ?_)
          exact g_vret r d_MO_format_58 (gBv_mk h)
theorem m_M_SpillQueueModel_format (X : gX) (ad : Nat → Nat) (a1 : Int32) (a2 : Int32) (a3 : Int32) (a4 : Int32) (s : gS) (Q : gS → Prop) (h : wp_M_SpillQueueModel_format a1 a2 a3 a4 s Q) (l : Launch) : gM l X y_MO_format b_MO_format 6 none rm_M_SpillQueueModel_format [.ref (ad 0), .int a1, .int a2, .int a3, .int a4] (wM ad X s) (gBv (wM ad X) Q) :=
  gM_of (by decide +kernel) rfl (Nat.le_of_ble_eq_true rfl) rfl (fun E C hRm r => w_M_SpillQueueModel_format X ad a1 a2 a3 a4 s Q h E C hRm r)
def rm_M_SpillQueueModel_die : Room := { frames := 0, cells := 0, slots := 0, locals := 0 }
def wp_M_SpillQueueModel_die (s : gS) (Q : gS → Prop) : Prop := Q (up (up (up s.1 8 (0)) 10 (0)) 12 (0), s.2)
set_option maxHeartbeats 4000000 in
set_option maxRecDepth 100000 in
theorem w_M_SpillQueueModel_die (X : gX) (ad : Nat → Nat) (s : gS) (Q : gS → Prop) (h : wp_M_SpillQueueModel_die  s Q) (E : gE) (C : gC X E b_MO_die 1 R_MO) (hRm : gRm E = rm_M_SpillQueueModel_die) (r : gR X E b_MO_die none (gBv (wM ad X) Q)) : gW X E 0 0 (wM ad X s) [(0, .ref (ad 0))] 0 [] := by
  have h : Q (up (up (up s.1 8 (0)) 10 (0)) 12 (0), s.2) := h
  refine g_aload_n C d_MO_die_0 rfl 0 rfl ?_
  refine g_iconst C 0 d_MO_die_1 (by decide) ?_
  refine g_put C (ws2 := wM ad X (up s.1 8 (0), s.2)) 0 9 iw_MO ty_MO tyok_MO nm_MO rfl rfl (by decide) (gt 740 (by decide +kernel) rfl) rfl rfl (by decide +kernel) (by decide +kernel) (Nat.le_of_ble_eq_true rfl) rfl d_MO_die_2 ?_
  refine g_aload_n C d_MO_die_5 rfl 0 rfl ?_
  refine g_iconst C 0 d_MO_die_6 (by decide) ?_
  refine g_put C (ws2 := wM ad X (up (up s.1 8 (0)) 10 (0), s.2)) 0 11 iw_MO ty_MO tyok_MO nm_MO rfl rfl (by decide) (gt 742 (by decide +kernel) rfl) rfl rfl rfl rfl (Nat.le_of_ble_eq_true rfl) rfl d_MO_die_7 ?_
  refine g_aload_n C d_MO_die_10 rfl 0 rfl ?_
  refine g_iconst C 0 d_MO_die_11 (by decide) ?_
  refine g_put C (ws2 := wM ad X (up (up (up s.1 8 (0)) 10 (0)) 12 (0), s.2)) 0 14 iw_MO ty_MO tyok_MO nm_MO rfl rfl (by decide) (gt 745 (by decide +kernel) rfl) rfl rfl rfl rfl (Nat.le_of_ble_eq_true rfl) rfl d_MO_die_12 ?_
  exact g_vret r d_MO_die_15 (gBv_mk h)
theorem m_M_SpillQueueModel_die (X : gX) (ad : Nat → Nat) (s : gS) (Q : gS → Prop) (h : wp_M_SpillQueueModel_die  s Q) (l : Launch) : gM l X y_MO_die b_MO_die 1 none rm_M_SpillQueueModel_die [.ref (ad 0)] (wM ad X s) (gBv (wM ad X) Q) :=
  gM_of (by decide +kernel) rfl (Nat.le_of_ble_eq_true rfl) rfl (fun E C hRm r => w_M_SpillQueueModel_die X ad  s Q h E C hRm r)
def rm_M_SpillQueueModel_after : Room := { frames := 1, cells := 0, slots := 0, locals := 20 }
def wp_M_SpillQueueModel_after (a1 : Int32) (s : gS) (Q : Int32 → gS → Prop) : Prop := ((¬ (s.1 9) = 0 → wp_M_SpillQueueModel_die (up s.1 9 (0), s.2) (fun s2 => Q (-9) s2)) ∧ ((s.1 9) = 0 → Q a1 s))
set_option maxHeartbeats 4000000 in
set_option maxRecDepth 100000 in
theorem w_M_SpillQueueModel_after (X : gX) (ad : Nat → Nat) (a1 : Int32) (s : gS) (Q : Int32 → gS → Prop) (h : wp_M_SpillQueueModel_after a1 s Q) (E : gE) (C : gC X E b_MO_after 2 R_MO) (hRm : gRm E = rm_M_SpillQueueModel_after) (r : gR X E b_MO_after (some .int) (gBi (wM ad X) Q)) : gW X E 0 0 (wM ad X s) [(0, .ref (ad 0)), (1, .int a1)] 0 [] := by
  have h : ((¬ (s.1 9) = 0 → wp_M_SpillQueueModel_die (up s.1 9 (0), s.2) (fun s2 => Q (-9) s2)) ∧ ((s.1 9) = 0 → Q a1 s)) := h
  refine g_aload_n C d_MO_after_0 rfl 0 rfl ?_
  refine g_get C (v := .int (s.1 9)) 0 10 iw_MO rfl rfl (by decide) (gt 741 (by decide +kernel) rfl) rfl rfl d_MO_after_1 ?_
  refine g_if_ne C 9 d_MO_after_4 (by decide) (fun c1 => ?_) (fun c1 => ?_)
  · have h := h.1 c1
    refine g_aload_n C d_MO_after_9 rfl 0 rfl ?_
    refine g_iconst C 0 d_MO_after_10 (by decide) ?_
    refine g_put C (ws2 := wM ad X (up s.1 9 (0), s.2)) 0 10 iw_MO ty_MO tyok_MO nm_MO rfl rfl (by decide) (gt 741 (by decide +kernel) rfl) rfl rfl (by decide +kernel) (by decide +kernel) (Nat.le_of_ble_eq_true rfl) rfl d_MO_after_11 ?_
    refine g_aload_n C d_MO_after_14 rfl 0 rfl ?_
    refine g_callV C (rest := []) 0 (fun l => m_M_SpillQueueModel_die X ad  (up s.1 9 (0), s.2) _ h l) rfl rfl (gt 924 (by decide +kernel) rfl) cb_MO_die ⟨rfl, rfl⟩ (by rw [hRm]; decide) ⟨Nat.zero_le _, Nat.zero_le _⟩ rfl rfl (Nat.le_of_ble_eq_true rfl) d_MO_after_15 (gkv (fun s2 h => ?_))
    refine g_bipush C (-9) d_MO_after_18 (by decide) ?_
    exact g_iret r rfl d_MO_after_20 (gBi_mk h)
  · have h := h.2 c1
    refine g_iload_n C d_MO_after_7 rfl 1 rfl ?_
    exact g_iret r rfl d_MO_after_8 (gBi_mk h)
theorem m_M_SpillQueueModel_after (X : gX) (ad : Nat → Nat) (a1 : Int32) (s : gS) (Q : Int32 → gS → Prop) (h : wp_M_SpillQueueModel_after a1 s Q) (l : Launch) : gM l X y_MO_after b_MO_after 2 (some .int) rm_M_SpillQueueModel_after [.ref (ad 0), .int a1] (wM ad X s) (gBi (wM ad X) Q) :=
  gM_of (by decide +kernel) rfl (Nat.le_of_ble_eq_true rfl) rfl (fun E C hRm r => w_M_SpillQueueModel_after X ad a1 s Q h E C hRm r)
def rm_M_SpillQueueModel_most : Room := { frames := 0, cells := 0, slots := 0, locals := 0 }
def wp_M_SpillQueueModel_most (s : gS) (Q : Int32 → gS → Prop) : Prop := Q (((s.1 3) - 3) / 4) s
set_option maxHeartbeats 4000000 in
set_option maxRecDepth 100000 in
theorem w_M_SpillQueueModel_most (X : gX) (ad : Nat → Nat) (s : gS) (Q : Int32 → gS → Prop) (h : wp_M_SpillQueueModel_most  s Q) (E : gE) (C : gC X E b_MO_most 1 R_MO) (hRm : gRm E = rm_M_SpillQueueModel_most) (r : gR X E b_MO_most (some .int) (gBi (wM ad X) Q)) : gW X E 0 0 (wM ad X s) [(0, .ref (ad 0))] 0 [] := by
  have h : Q (((s.1 3) - 3) / 4) s := h
  refine g_aload_n C d_MO_most_0 rfl 0 rfl ?_
  refine g_get C (v := .int (s.1 3)) 0 3 iw_MO rfl rfl (by decide) (gt 734 (by decide +kernel) rfl) rfl rfl d_MO_most_1 ?_
  refine g_iconst C 3 d_MO_most_4 (by decide) ?_
  refine g_isub C d_MO_most_5 ?_
  refine g_iconst C 4 d_MO_most_6 (by decide) ?_
  refine g_idiv C (by decide) d_MO_most_7 ?_
  exact g_iret r rfl d_MO_most_8 (gBi_mk h)
theorem m_M_SpillQueueModel_most (X : gX) (ad : Nat → Nat) (s : gS) (Q : Int32 → gS → Prop) (h : wp_M_SpillQueueModel_most  s Q) (l : Launch) : gM l X y_MO_most b_MO_most 1 (some .int) rm_M_SpillQueueModel_most [.ref (ad 0)] (wM ad X s) (gBi (wM ad X) Q) :=
  gM_of (by decide +kernel) rfl (Nat.le_of_ble_eq_true rfl) rfl (fun E C hRm r => w_M_SpillQueueModel_most X ad  s Q h E C hRm r)
def rm_M_SpillQueueModel_isFree : Room := { frames := 0, cells := 0, slots := 0, locals := 0 }
def wp_M_SpillQueueModel_isFree (a1 : Int32) (s : gS) (Q : Int32 → gS → Prop) : Prop := vp_in a1 200 ∧ (((¬ (s.2 7 a1.toNatClampNeg) = 0 → Q 0 s) ∧ ((s.2 7 a1.toNatClampNeg) = 0 → vp_in a1 200 ∧ (((¬ (s.2 6 a1.toNatClampNeg) = 0 → Q 0 s) ∧ ((s.2 6 a1.toNatClampNeg) = 0 → Q 1 s))))))
set_option maxHeartbeats 4000000 in
set_option maxRecDepth 100000 in
theorem w_M_SpillQueueModel_isFree (X : gX) (ad : Nat → Nat) (a1 : Int32) (s : gS) (Q : Int32 → gS → Prop) (h : wp_M_SpillQueueModel_isFree a1 s Q) (E : gE) (C : gC X E b_MO_isFree 2 R_MO) (hRm : gRm E = rm_M_SpillQueueModel_isFree) (r : gR X E b_MO_isFree (some .boolean) (gBi (wM ad X) Q)) : gW X E 0 0 (wM ad X s) [(0, .ref (ad 0)), (1, .int a1)] 0 [] := by
  have h : vp_in a1 200 ∧ (((¬ (s.2 7 a1.toNatClampNeg) = 0 → Q 0 s) ∧ ((s.2 7 a1.toNatClampNeg) = 0 → vp_in a1 200 ∧ (((¬ (s.2 6 a1.toNatClampNeg) = 0 → Q 0 s) ∧ ((s.2 6 a1.toNatClampNeg) = 0 → Q 1 s)))))) := h
  refine g_aload_n C d_MO_isFree_0 rfl 0 rfl ?_
  refine g_get C (v := .ref (ad 8)) 0 20 iw_MO rfl rfl (by decide) (gt 751 (by decide +kernel) rfl) rfl rfl d_MO_isFree_1 ?_
  refine g_iload_n C d_MO_isFree_4 rfl 1 rfl ?_
  obtain ⟨i1, h⟩ := h
  refine g_zald C 8 1 rfl rfl i1 d_MO_isFree_5 ?_
  refine g_if_ne C 22 d_MO_isFree_6 (by decide) (fun c2 => ?_) (fun c2 => ?_)
  · have h := h.1 c2
    refine g_iconst C 0 d_MO_isFree_22 (by decide) ?_
    exact g_iret r rfl d_MO_isFree_23 (gBi_mk h)
  · have h := h.2 c2
    refine g_aload_n C d_MO_isFree_9 rfl 0 rfl ?_
    refine g_get C (v := .ref (ad 7)) 0 19 iw_MO rfl rfl (by decide) (gt 750 (by decide +kernel) rfl) rfl rfl d_MO_isFree_10 ?_
    refine g_iload_n C d_MO_isFree_13 rfl 1 rfl ?_
    obtain ⟨i3, h⟩ := h
    refine g_zald C 7 1 rfl rfl i3 d_MO_isFree_14 ?_
    refine g_if_ne C 22 d_MO_isFree_15 (by decide) (fun c4 => ?_) (fun c4 => ?_)
    · have h := h.1 c4
      refine g_iconst C 0 d_MO_isFree_22 (by decide) ?_
      exact g_iret r rfl d_MO_isFree_23 (gBi_mk h)
    · have h := h.2 c4
      refine g_iconst C 1 d_MO_isFree_18 (by decide) ?_
      refine g_goto C 23 d_MO_isFree_19 (by decide) ?_
      exact g_iret r rfl d_MO_isFree_23 (gBi_mk h)
theorem m_M_SpillQueueModel_isFree (X : gX) (ad : Nat → Nat) (a1 : Int32) (s : gS) (Q : Int32 → gS → Prop) (h : wp_M_SpillQueueModel_isFree a1 s Q) (l : Launch) : gM l X y_MO_isFree b_MO_isFree 2 (some .boolean) rm_M_SpillQueueModel_isFree [.ref (ad 0), .int a1] (wM ad X s) (gBi (wM ad X) Q) :=
  gM_of (by decide +kernel) rfl (Nat.le_of_ble_eq_true rfl) rfl (fun E C hRm r => w_M_SpillQueueModel_isFree X ad a1 s Q h E C hRm r)
def rm_M_SpillQueueModel_free : Room := { frames := 3, cells := 0, slots := 0, locals := 66 }
def wl_M_SpillQueueModel_free_8 (Q : Int32 → gS → Prop) (K : Int32 → Int32 → gS → Prop) : Nat → Int32 → Int32 → gS → Prop
  | 0, _, _, _ => False
  | n + 1, x1, x2, s => (((s.1 2) ≤ x2 → K x1 x2 s) ∧ (¬ (s.1 2) ≤ x2 → wp_M_SpillQueueModel_isFree x2 s (fun r5 s4 => ((r5 = 0 → ∀ v7 : Int32, v7 = x2 + 1 → wl_M_SpillQueueModel_free_8 Q K n x1 v7 s4) ∧ (¬ r5 = 0 → ∀ v8 : Int32, v8 = x1 + 1 → ∀ v9 : Int32, v9 = x2 + 1 → wl_M_SpillQueueModel_free_8 Q K n v8 v9 s4)))))
set_option maxHeartbeats 4000000 in
set_option maxRecDepth 100000 in
theorem w_M_SpillQueueModel_free_8 (X : gX) (ad : Nat → Nat) (Q : Int32 → gS → Prop) (K : Int32 → Int32 → gS → Prop) (E : gE) (C : gC X E b_MO_free 3 R_MO) (hRm : gRm E = rm_M_SpillQueueModel_free) (r : gR X E b_MO_free (some .int) (gBi (wM ad X) Q)) (hK : ∀ (x1 : Int32) (x2 : Int32) (s : gS), K x1 x2 s → gW X E 0 0 (wM ad X s) [(0, .ref (ad 0)), (1, .int x1), (2, .int x2)] 38 []) : ∀ (n : Nat) (x1 : Int32) (x2 : Int32) (s : gS), wl_M_SpillQueueModel_free_8 Q K n x1 x2 s → gW X E 0 0 (wM ad X s) [(0, .ref (ad 0)), (1, .int x1), (2, .int x2)] 8 [] := by
  intro n
  induction n with
  | zero => intro x1 x2 s h; exact False.elim h
  | succ n ih =>
    intro x1 x2 s h
    have h : (((s.1 2) ≤ x2 → K x1 x2 s) ∧ (¬ (s.1 2) ≤ x2 → wp_M_SpillQueueModel_isFree x2 s (fun r5 s4 => ((r5 = 0 → ∀ v7 : Int32, v7 = x2 + 1 → wl_M_SpillQueueModel_free_8 Q K n x1 v7 s4) ∧ (¬ r5 = 0 → ∀ v8 : Int32, v8 = x1 + 1 → ∀ v9 : Int32, v9 = x2 + 1 → wl_M_SpillQueueModel_free_8 Q K n v8 v9 s4))))) := h
    refine g_iload_n C d_MO_free_8 rfl 2 rfl ?_
    refine g_aload_n C d_MO_free_9 rfl 0 rfl ?_
    refine g_get C (v := .int (s.1 2)) 0 2 iw_MO rfl rfl (by decide) (gt 733 (by decide +kernel) rfl) rfl rfl d_MO_free_10 ?_
    refine g_icmp_ge C 38 d_MO_free_13 (by decide) (fun c3 => ?_) (fun c3 => ?_)
    · have h := h.1 c3
      exact hK x1 x2 s h
    · have h := h.2 c3
      refine g_aload_n C d_MO_free_16 rfl 0 rfl ?_
      refine g_iload_n C d_MO_free_17 rfl 2 rfl ?_
      refine g_callV C (rest := []) 0 (fun l => m_M_SpillQueueModel_isFree X ad x2 s _ h l) rfl rfl (gt 884 (by decide +kernel) rfl) cb_MO_isFree ⟨rfl, rfl⟩ (by rw [hRm]; decide) ⟨Nat.zero_le _, Nat.zero_le _⟩ rfl rfl (Nat.le_of_ble_eq_true rfl) d_MO_free_18 (gki (fun r5 s4 h => ?_))
      refine g_if_eq C 30 d_MO_free_21 (by decide) (fun c6 => ?_) (fun c6 => ?_)
      · have h := h.1 c6
        refine g_iload_n C d_MO_free_30 rfl 1 rfl ?_
        refine g_istore_n C (lv2 := [(0, .ref (ad 0)), (1, .int x1), (2, .int x2)]) d_MO_free_31 rfl (by decide) rfl ?_
        obtain ⟨v7, e_v7⟩ : ∃ y : Int32, y = x2 + 1 := ⟨_, rfl⟩
        have h := h v7 e_v7
        refine g_iinc C (v := v7) (lv2 := [(0, .ref (ad 0)), (1, .int x1), (2, .int v7)]) d_MO_free_32 2 rfl (by rw [e_v7]; rfl) (by decide) rfl ?_
        refine g_goto C 8 d_MO_free_35 (by decide) ?_
        exact ih x1 v7 s4 h
      · have h := h.2 c6
        refine g_iload_n C d_MO_free_24 rfl 1 rfl ?_
        refine g_iconst C 1 d_MO_free_25 (by decide) ?_
        refine g_iadd C d_MO_free_26 ?_
        refine g_goto C 31 d_MO_free_27 (by decide) ?_
        refine g_topi (fun v8 e_v8 => ?_)
        have h := h v8 e_v8
        refine g_istore_n C (lv2 := [(0, .ref (ad 0)), (1, .int v8), (2, .int x2)]) d_MO_free_31 rfl (by decide) rfl ?_
        obtain ⟨v9, e_v9⟩ : ∃ y : Int32, y = x2 + 1 := ⟨_, rfl⟩
        have h := h v9 e_v9
        refine g_iinc C (v := v9) (lv2 := [(0, .ref (ad 0)), (1, .int v8), (2, .int v9)]) d_MO_free_32 2 rfl (by rw [e_v9]; rfl) (by decide) rfl ?_
        refine g_goto C 8 d_MO_free_35 (by decide) ?_
        exact ih v8 v9 s4 h
def wp_M_SpillQueueModel_free (s : gS) (Q : Int32 → gS → Prop) : Prop := wp_M_SpillQueueModel_markTaken s (fun s1 => ∃ n10 : Nat, wl_M_SpillQueueModel_free_8 Q (fun v12 v13 s11 => Q v12 s11)  n10 0 2 s1)
set_option maxHeartbeats 4000000 in
set_option maxRecDepth 100000 in
theorem w_M_SpillQueueModel_free (X : gX) (ad : Nat → Nat) (s : gS) (Q : Int32 → gS → Prop) (h : wp_M_SpillQueueModel_free  s Q) (E : gE) (C : gC X E b_MO_free 3 R_MO) (hRm : gRm E = rm_M_SpillQueueModel_free) (r : gR X E b_MO_free (some .int) (gBi (wM ad X) Q)) : gW X E 0 0 (wM ad X s) [(0, .ref (ad 0))] 0 [] := by
  have h : wp_M_SpillQueueModel_markTaken s (fun s1 => ∃ n10 : Nat, wl_M_SpillQueueModel_free_8 Q (fun v12 v13 s11 => Q v12 s11)  n10 0 2 s1) := h
  refine g_aload_n C d_MO_free_0 rfl 0 rfl ?_
  refine g_callV C (rest := []) 0 (fun l => m_M_SpillQueueModel_markTaken X ad  s _ h l) rfl rfl (gt 844 (by decide +kernel) rfl) cb_MO_markTaken ⟨rfl, rfl⟩ (by rw [hRm]; decide) ⟨Nat.zero_le _, Nat.zero_le _⟩ rfl rfl (Nat.le_of_ble_eq_true rfl) d_MO_free_1 (gkv (fun s1 h => ?_))
  refine g_iconst C 0 d_MO_free_4 (by decide) ?_
  refine g_istore_n C (lv2 := [(0, .ref (ad 0)), (1, .int 0)]) d_MO_free_5 rfl (by decide) rfl ?_
  refine g_iconst C 2 d_MO_free_6 (by decide) ?_
  refine g_istore_n C (lv2 := [(0, .ref (ad 0)), (1, .int 0), (2, .int 2)]) d_MO_free_7 rfl (by decide) rfl ?_
  obtain ⟨n10, h⟩ := h
  refine w_M_SpillQueueModel_free_8 X ad Q (_)  E C hRm r ?_ n10 0 2 s1 h
  intro v12 v13 s11 h
  refine g_iload_n C d_MO_free_38 rfl 1 rfl ?_
  exact g_iret r rfl d_MO_free_39 (gBi_mk h)
theorem m_M_SpillQueueModel_free (X : gX) (ad : Nat → Nat) (s : gS) (Q : Int32 → gS → Prop) (h : wp_M_SpillQueueModel_free  s Q) (l : Launch) : gM l X y_MO_free b_MO_free 3 (some .int) rm_M_SpillQueueModel_free [.ref (ad 0)] (wM ad X s) (gBi (wM ad X) Q) :=
  gM_of (by decide +kernel) rfl (Nat.le_of_ble_eq_true rfl) rfl (fun E C hRm r => w_M_SpillQueueModel_free X ad  s Q h E C hRm r)
def rm_M_SpillQueueModel_choose : Room := { frames := 4, cells := 0, slots := 0, locals := 88 }
def wl_M_SpillQueueModel_choose_22 (Q : Int32 → gS → Prop) (K : Int32 → Int32 → gS → Prop) (x1 : Int32) (x2 : Int32) : Nat → Int32 → Int32 → gS → Prop
  | 0, _, _, _ => False
  | n + 1, x3, x4, s => ((x2 ≤ x3 → K x3 x4 s) ∧ (¬ x2 ≤ x3 → wp_M_SpillQueueModel_isFree x4 s (fun r8 s7 => ((r8 = 0 → ∀ v10 : Int32, v10 = x4 + 1 → wl_M_SpillQueueModel_choose_22 Q K x1 x2 n x3 v10 s7) ∧ (¬ r8 = 0 → vp_in x3 200 ∧ (∀ v12 : Int32, v12 = x3 + 1 → ∀ v13 : Int32, v13 = x4 + 1 → wl_M_SpillQueueModel_choose_22 Q K x1 x2 n v12 v13 (s7.1, ua s7.2 9 (upd (s7.2 9) x3.toNatClampNeg x4))))))))
set_option maxHeartbeats 4000000 in
set_option maxRecDepth 100000 in
theorem w_M_SpillQueueModel_choose_22 (X : gX) (ad : Nat → Nat) (Q : Int32 → gS → Prop) (K : Int32 → Int32 → gS → Prop) (x1 : Int32) (x2 : Int32) (E : gE) (C : gC X E b_MO_choose 5 R_MO) (hRm : gRm E = rm_M_SpillQueueModel_choose) (r : gR X E b_MO_choose (some .boolean) (gBi (wM ad X) Q)) (hK : ∀ (x3 : Int32) (x4 : Int32) (s : gS), K x3 x4 s → gW X E 0 0 (wM ad X s) [(0, .ref (ad 0)), (1, .int x1), (2, .int x2), (3, .int x3), (4, .int x4)] 53 []) : ∀ (n : Nat) (x3 : Int32) (x4 : Int32) (s : gS), wl_M_SpillQueueModel_choose_22 Q K x1 x2 n x3 x4 s → gW X E 0 0 (wM ad X s) [(0, .ref (ad 0)), (1, .int x1), (2, .int x2), (3, .int x3), (4, .int x4)] 22 [] := by
  intro n
  induction n with
  | zero => intro x3 x4 s h; exact False.elim h
  | succ n ih =>
    intro x3 x4 s h
    have h : ((x2 ≤ x3 → K x3 x4 s) ∧ (¬ x2 ≤ x3 → wp_M_SpillQueueModel_isFree x4 s (fun r8 s7 => ((r8 = 0 → ∀ v10 : Int32, v10 = x4 + 1 → wl_M_SpillQueueModel_choose_22 Q K x1 x2 n x3 v10 s7) ∧ (¬ r8 = 0 → vp_in x3 200 ∧ (∀ v12 : Int32, v12 = x3 + 1 → ∀ v13 : Int32, v13 = x4 + 1 → wl_M_SpillQueueModel_choose_22 Q K x1 x2 n v12 v13 (s7.1, ua s7.2 9 (upd (s7.2 9) x3.toNatClampNeg x4)))))))) := h
    refine g_iload_n C d_MO_choose_22 rfl 3 rfl ?_
    refine g_iload_n C d_MO_choose_23 rfl 2 rfl ?_
    refine g_icmp_ge C 53 d_MO_choose_24 (by decide) (fun c6 => ?_) (fun c6 => ?_)
    · have h := h.1 c6
      exact hK x3 x4 s h
    · have h := h.2 c6
      refine g_aload_n C d_MO_choose_27 rfl 0 rfl ?_
      refine g_iload C d_MO_choose_28 4 rfl ?_
      refine g_callV C (rest := []) 0 (fun l => m_M_SpillQueueModel_isFree X ad x4 s _ h l) rfl rfl (gt 884 (by decide +kernel) rfl) cb_MO_isFree ⟨rfl, rfl⟩ (by rw [hRm]; decide) ⟨Nat.zero_le _, Nat.zero_le _⟩ rfl rfl (Nat.le_of_ble_eq_true rfl) d_MO_choose_30 (gki (fun r8 s7 h => ?_))
      refine g_if_eq C 47 d_MO_choose_33 (by decide) (fun c9 => ?_) (fun c9 => ?_)
      · have h := h.1 c9
        obtain ⟨v10, e_v10⟩ : ∃ y : Int32, y = x4 + 1 := ⟨_, rfl⟩
        have h := h v10 e_v10
        refine g_iinc C (v := v10) (lv2 := [(0, .ref (ad 0)), (1, .int x1), (2, .int x2), (3, .int x3), (4, .int v10)]) d_MO_choose_47 4 rfl (by rw [e_v10]; rfl) (by decide) rfl ?_
        refine g_goto C 22 d_MO_choose_50 (by decide) ?_
        exact ih x3 v10 s7 h
      · have h := h.2 c9
        refine g_aload_n C d_MO_choose_36 rfl 0 rfl ?_
        refine g_get C (v := .ref (ad 10)) 0 22 iw_MO rfl rfl (by decide) (gt 753 (by decide +kernel) rfl) rfl rfl d_MO_choose_37 ?_
        refine g_iload_n C d_MO_choose_40 rfl 3 rfl ?_
        refine g_iload C d_MO_choose_41 4 rfl ?_
        obtain ⟨i11, h⟩ := h
        refine g_iast C 10 0 (ws2 := wM ad X (s7.1, ua s7.2 9 (upd (s7.2 9) x3.toNatClampNeg x4))) rfl rfl i11 rfl d_MO_choose_43 ?_
        obtain ⟨v12, e_v12⟩ : ∃ y : Int32, y = x3 + 1 := ⟨_, rfl⟩
        have h := h v12 e_v12
        refine g_iinc C (v := v12) (lv2 := [(0, .ref (ad 0)), (1, .int x1), (2, .int x2), (3, .int v12), (4, .int x4)]) d_MO_choose_44 3 rfl (by rw [e_v12]; rfl) (by decide) rfl ?_
        obtain ⟨v13, e_v13⟩ : ∃ y : Int32, y = x4 + 1 := ⟨_, rfl⟩
        have h := h v13 e_v13
        refine g_iinc C (v := v13) (lv2 := [(0, .ref (ad 0)), (1, .int x1), (2, .int x2), (3, .int v12), (4, .int v13)]) d_MO_choose_47 4 rfl (by rw [e_v13]; rfl) (by decide) rfl ?_
        refine g_goto C 22 d_MO_choose_50 (by decide) ?_
        exact ih v12 v13 (s7.1, ua s7.2 9 (upd (s7.2 9) x3.toNatClampNeg x4)) h
def wp_M_SpillQueueModel_choose (a1 : Int32) (s : gS) (Q : Int32 → gS → Prop) : Prop := wp_M_SpillQueueModel_blocksOf 0 a1 s (fun r2 s1 => wp_M_SpillQueueModel_free s1 (fun r4 s3 => ((r2 ≤ r4 → ∃ n14 : Nat, wl_M_SpillQueueModel_choose_22 Q (fun v16 v17 s15 => Q 1 s15) a1 r2 n14 0 2 s3) ∧ (¬ r2 ≤ r4 → Q 0 s3))))
set_option maxHeartbeats 4000000 in
set_option maxRecDepth 100000 in
theorem w_M_SpillQueueModel_choose (X : gX) (ad : Nat → Nat) (a1 : Int32) (s : gS) (Q : Int32 → gS → Prop) (h : wp_M_SpillQueueModel_choose a1 s Q) (E : gE) (C : gC X E b_MO_choose 5 R_MO) (hRm : gRm E = rm_M_SpillQueueModel_choose) (r : gR X E b_MO_choose (some .boolean) (gBi (wM ad X) Q)) : gW X E 0 0 (wM ad X s) [(0, .ref (ad 0)), (1, .int a1)] 0 [] := by
  have h : wp_M_SpillQueueModel_blocksOf 0 a1 s (fun r2 s1 => wp_M_SpillQueueModel_free s1 (fun r4 s3 => ((r2 ≤ r4 → ∃ n14 : Nat, wl_M_SpillQueueModel_choose_22 Q (fun v16 v17 s15 => Q 1 s15) a1 r2 n14 0 2 s3) ∧ (¬ r2 ≤ r4 → Q 0 s3)))) := h
  refine g_aload_n C d_MO_choose_0 rfl 0 rfl ?_
  refine g_iconst C 0 d_MO_choose_1 (by decide) ?_
  refine g_iload_n C d_MO_choose_2 rfl 1 rfl ?_
  refine g_callV C (rest := []) 0 (fun l => m_M_SpillQueueModel_blocksOf X ad 0 a1 s _ h l) rfl rfl (gt 848 (by decide +kernel) rfl) cb_MO_blocksOf ⟨rfl, rfl⟩ (by rw [hRm]; decide) ⟨Nat.zero_le _, Nat.zero_le _⟩ rfl rfl (Nat.le_of_ble_eq_true rfl) d_MO_choose_3 (gki (fun r2 s1 h => ?_))
  refine g_istore_n C (lv2 := [(0, .ref (ad 0)), (1, .int a1), (2, .int r2)]) d_MO_choose_6 rfl (by decide) rfl ?_
  refine g_aload_n C d_MO_choose_7 rfl 0 rfl ?_
  refine g_callV C (rest := []) 0 (fun l => m_M_SpillQueueModel_free X ad  s1 _ h l) rfl rfl (gt 880 (by decide +kernel) rfl) cb_MO_free ⟨rfl, rfl⟩ (by rw [hRm]; decide) ⟨Nat.zero_le _, Nat.zero_le _⟩ rfl rfl (Nat.le_of_ble_eq_true rfl) d_MO_choose_8 (gki (fun r4 s3 h => ?_))
  refine g_iload_n C d_MO_choose_11 rfl 2 rfl ?_
  refine g_icmp_ge C 17 d_MO_choose_12 (by decide) (fun c5 => ?_) (fun c5 => ?_)
  · have h := h.1 c5
    refine g_iconst C 0 d_MO_choose_17 (by decide) ?_
    refine g_istore_n C (lv2 := [(0, .ref (ad 0)), (1, .int a1), (2, .int r2), (3, .int 0)]) d_MO_choose_18 rfl (by decide) rfl ?_
    refine g_iconst C 2 d_MO_choose_19 (by decide) ?_
    refine g_istore C (lv2 := [(0, .ref (ad 0)), (1, .int a1), (2, .int r2), (3, .int 0), (4, .int 2)]) d_MO_choose_20 (by decide) rfl ?_
    obtain ⟨n14, h⟩ := h
    refine w_M_SpillQueueModel_choose_22 X ad Q (_) a1 r2 E C hRm r ?_ n14 0 2 s3 h
    intro v16 v17 s15 h
    refine g_iconst C 1 d_MO_choose_53 (by decide) ?_
    exact g_iret r rfl d_MO_choose_54 (gBi_mk h)
  · have h := h.2 c5
    refine g_iconst C 0 d_MO_choose_15 (by decide) ?_
    exact g_iret r rfl d_MO_choose_16 (gBi_mk h)
theorem m_M_SpillQueueModel_choose (X : gX) (ad : Nat → Nat) (a1 : Int32) (s : gS) (Q : Int32 → gS → Prop) (h : wp_M_SpillQueueModel_choose a1 s Q) (l : Launch) : gM l X y_MO_choose b_MO_choose 5 (some .boolean) rm_M_SpillQueueModel_choose [.ref (ad 0), .int a1] (wM ad X s) (gBi (wM ad X) Q) :=
  gM_of (by decide +kernel) rfl (Nat.le_of_ble_eq_true rfl) rfl (fun E C hRm r => w_M_SpillQueueModel_choose X ad a1 s Q h E C hRm r)
def rm_M_SpillQueueModel_headOf : Room := { frames := 1, cells := 0, slots := 0, locals := 22 }
def wp_M_SpillQueueModel_headOf (a1 : Int32) (s : gS) (Q : Int32 → gS → Prop) : Prop := vp_in a1 16 ∧ (vp_in a1 16 ∧ (wp_M_SpillQueueModel_at (s.2 10 a1.toNatClampNeg) (2 + (s.2 11 a1.toNatClampNeg)) s (fun r4 s3 => Q r4 s3)))
set_option maxHeartbeats 4000000 in
set_option maxRecDepth 100000 in
theorem w_M_SpillQueueModel_headOf (X : gX) (ad : Nat → Nat) (a1 : Int32) (s : gS) (Q : Int32 → gS → Prop) (h : wp_M_SpillQueueModel_headOf a1 s Q) (E : gE) (C : gC X E b_MO_headOf 2 R_MO) (hRm : gRm E = rm_M_SpillQueueModel_headOf) (r : gR X E b_MO_headOf (some .int) (gBi (wM ad X) Q)) : gW X E 0 0 (wM ad X s) [(0, .ref (ad 0)), (1, .int a1)] 0 [] := by
  have h : vp_in a1 16 ∧ (vp_in a1 16 ∧ (wp_M_SpillQueueModel_at (s.2 10 a1.toNatClampNeg) (2 + (s.2 11 a1.toNatClampNeg)) s (fun r4 s3 => Q r4 s3))) := h
  refine g_aload_n C d_MO_headOf_0 rfl 0 rfl ?_
  refine g_aload_n C d_MO_headOf_1 rfl 0 rfl ?_
  refine g_get C (v := .ref (ad 11)) 0 23 iw_MO rfl rfl (by decide) (gt 754 (by decide +kernel) rfl) rfl rfl d_MO_headOf_2 ?_
  refine g_iload_n C d_MO_headOf_5 rfl 1 rfl ?_
  obtain ⟨i1, h⟩ := h
  refine g_iald C 11 0 rfl rfl i1 d_MO_headOf_6 ?_
  refine g_iconst C 2 d_MO_headOf_7 (by decide) ?_
  refine g_aload_n C d_MO_headOf_8 rfl 0 rfl ?_
  refine g_get C (v := .ref (ad 12)) 0 24 iw_MO rfl rfl (by decide) (gt 755 (by decide +kernel) rfl) rfl rfl d_MO_headOf_9 ?_
  refine g_iload_n C d_MO_headOf_12 rfl 1 rfl ?_
  obtain ⟨i2, h⟩ := h
  refine g_iald C 12 0 rfl rfl i2 d_MO_headOf_13 ?_
  refine g_iadd C d_MO_headOf_14 ?_
  refine g_callV C (rest := []) 0 (fun l => m_M_SpillQueueModel_at X ad (s.2 10 a1.toNatClampNeg) (2 + (s.2 11 a1.toNatClampNeg)) s _ h l) rfl rfl (gt 840 (by decide +kernel) rfl) cb_MO_at ⟨rfl, rfl⟩ (by rw [hRm]; decide) ⟨Nat.zero_le _, Nat.zero_le _⟩ rfl rfl (Nat.le_of_ble_eq_true rfl) d_MO_headOf_15 (gki (fun r4 s3 h => ?_))
  exact g_iret r rfl d_MO_headOf_18 (gBi_mk h)
theorem m_M_SpillQueueModel_headOf (X : gX) (ad : Nat → Nat) (a1 : Int32) (s : gS) (Q : Int32 → gS → Prop) (h : wp_M_SpillQueueModel_headOf a1 s Q) (l : Launch) : gM l X y_MO_headOf b_MO_headOf 2 (some .int) rm_M_SpillQueueModel_headOf [.ref (ad 0), .int a1] (wM ad X s) (gBi (wM ad X) Q) :=
  gM_of (by decide +kernel) rfl (Nat.le_of_ble_eq_true rfl) rfl (fun E C hRm r => w_M_SpillQueueModel_headOf X ad a1 s Q h E C hRm r)
def rm_M_SpillQueueModel_takeFromRuns : Room := { frames := 2, cells := 0, slots := 0, locals := 43 }
def wl_M_SpillQueueModel_takeFromRuns_4 (Q : Int32 → gS → Prop) (K : Int32 → Int32 → gS → Prop) : Nat → Int32 → Int32 → gS → Prop
  | 0, _, _, _ => False
  | n + 1, x1, x2, s => (((s.1 12) ≤ x2 → K x1 x2 s) ∧ (¬ (s.1 12) ≤ x2 → vp_in x2 16 ∧ ((((s.2 13 x2.toNatClampNeg) = 0 → ∀ v4 : Int32, v4 = x2 + 1 → wl_M_SpillQueueModel_takeFromRuns_4 Q K n x1 v4 s) ∧ (¬ (s.2 13 x2.toNatClampNeg) = 0 → vp_in x2 16 ∧ ((((s.2 12 x2.toNatClampNeg) ≤ 0 → ∀ v7 : Int32, v7 = x2 + 1 → wl_M_SpillQueueModel_takeFromRuns_4 Q K n x1 v7 s) ∧ (¬ (s.2 12 x2.toNatClampNeg) ≤ 0 → ((x1 < 0 → ∀ v9 : Int32, v9 = x2 + 1 → wl_M_SpillQueueModel_takeFromRuns_4 Q K n x2 v9 s) ∧ (¬ x1 < 0 → wp_M_SpillQueueModel_headOf x2 s (fun r11 s10 => wp_M_SpillQueueModel_headOf x1 s10 (fun r13 s12 => ((r13 ≤ r11 → ∀ v15 : Int32, v15 = x2 + 1 → wl_M_SpillQueueModel_takeFromRuns_4 Q K n x1 v15 s12) ∧ (¬ r13 ≤ r11 → ∀ v16 : Int32, v16 = x2 + 1 → wl_M_SpillQueueModel_takeFromRuns_4 Q K n x2 v16 s12))))))))))))))
set_option maxHeartbeats 4000000 in
set_option maxRecDepth 100000 in
theorem w_M_SpillQueueModel_takeFromRuns_4 (X : gX) (ad : Nat → Nat) (Q : Int32 → gS → Prop) (K : Int32 → Int32 → gS → Prop) (E : gE) (C : gC X E b_MO_takeFromRuns 3 R_MO) (hRm : gRm E = rm_M_SpillQueueModel_takeFromRuns) (r : gR X E b_MO_takeFromRuns (some .int) (gBi (wM ad X) Q)) (hK : ∀ (x1 : Int32) (x2 : Int32) (s : gS), K x1 x2 s → gW X E 0 0 (wM ad X s) [(0, .ref (ad 0)), (1, .int x1), (2, .int x2)] 59 []) : ∀ (n : Nat) (x1 : Int32) (x2 : Int32) (s : gS), wl_M_SpillQueueModel_takeFromRuns_4 Q K n x1 x2 s → gW X E 0 0 (wM ad X s) [(0, .ref (ad 0)), (1, .int x1), (2, .int x2)] 4 [] := by
  intro n
  induction n with
  | zero => intro x1 x2 s h; exact False.elim h
  | succ n ih =>
    intro x1 x2 s h
    have h : (((s.1 12) ≤ x2 → K x1 x2 s) ∧ (¬ (s.1 12) ≤ x2 → vp_in x2 16 ∧ ((((s.2 13 x2.toNatClampNeg) = 0 → ∀ v4 : Int32, v4 = x2 + 1 → wl_M_SpillQueueModel_takeFromRuns_4 Q K n x1 v4 s) ∧ (¬ (s.2 13 x2.toNatClampNeg) = 0 → vp_in x2 16 ∧ ((((s.2 12 x2.toNatClampNeg) ≤ 0 → ∀ v7 : Int32, v7 = x2 + 1 → wl_M_SpillQueueModel_takeFromRuns_4 Q K n x1 v7 s) ∧ (¬ (s.2 12 x2.toNatClampNeg) ≤ 0 → ((x1 < 0 → ∀ v9 : Int32, v9 = x2 + 1 → wl_M_SpillQueueModel_takeFromRuns_4 Q K n x2 v9 s) ∧ (¬ x1 < 0 → wp_M_SpillQueueModel_headOf x2 s (fun r11 s10 => wp_M_SpillQueueModel_headOf x1 s10 (fun r13 s12 => ((r13 ≤ r11 → ∀ v15 : Int32, v15 = x2 + 1 → wl_M_SpillQueueModel_takeFromRuns_4 Q K n x1 v15 s12) ∧ (¬ r13 ≤ r11 → ∀ v16 : Int32, v16 = x2 + 1 → wl_M_SpillQueueModel_takeFromRuns_4 Q K n x2 v16 s12)))))))))))))) := h
    refine g_iload_n C d_MO_takeFromRuns_4 rfl 2 rfl ?_
    refine g_aload_n C d_MO_takeFromRuns_5 rfl 0 rfl ?_
    refine g_get C (v := .int (s.1 12)) 0 14 iw_MO rfl rfl (by decide) (gt 745 (by decide +kernel) rfl) rfl rfl d_MO_takeFromRuns_6 ?_
    refine g_icmp_ge C 59 d_MO_takeFromRuns_9 (by decide) (fun c1 => ?_) (fun c1 => ?_)
    · have h := h.1 c1
      exact hK x1 x2 s h
    · have h := h.2 c1
      refine g_aload_n C d_MO_takeFromRuns_12 rfl 0 rfl ?_
      refine g_get C (v := .ref (ad 14)) 0 26 iw_MO rfl rfl (by decide) (gt 757 (by decide +kernel) rfl) rfl rfl d_MO_takeFromRuns_13 ?_
      refine g_iload_n C d_MO_takeFromRuns_16 rfl 2 rfl ?_
      obtain ⟨i2, h⟩ := h
      refine g_zald C 14 1 rfl rfl i2 d_MO_takeFromRuns_17 ?_
      refine g_if_eq C 51 d_MO_takeFromRuns_18 (by decide) (fun c3 => ?_) (fun c3 => ?_)
      · have h := h.1 c3
        refine g_iload_n C d_MO_takeFromRuns_51 rfl 1 rfl ?_
        refine g_istore_n C (lv2 := [(0, .ref (ad 0)), (1, .int x1), (2, .int x2)]) d_MO_takeFromRuns_52 rfl (by decide) rfl ?_
        obtain ⟨v4, e_v4⟩ : ∃ y : Int32, y = x2 + 1 := ⟨_, rfl⟩
        have h := h v4 e_v4
        refine g_iinc C (v := v4) (lv2 := [(0, .ref (ad 0)), (1, .int x1), (2, .int v4)]) d_MO_takeFromRuns_53 2 rfl (by rw [e_v4]; rfl) (by decide) rfl ?_
        refine g_goto C 4 d_MO_takeFromRuns_56 (by decide) ?_
        exact ih x1 v4 s h
      · have h := h.2 c3
        refine g_aload_n C d_MO_takeFromRuns_21 rfl 0 rfl ?_
        refine g_get C (v := .ref (ad 13)) 0 25 iw_MO rfl rfl (by decide) (gt 756 (by decide +kernel) rfl) rfl rfl d_MO_takeFromRuns_22 ?_
        refine g_iload_n C d_MO_takeFromRuns_25 rfl 2 rfl ?_
        obtain ⟨i5, h⟩ := h
        refine g_iald C 13 0 rfl rfl i5 d_MO_takeFromRuns_26 ?_
        refine g_if_le C 51 d_MO_takeFromRuns_27 (by decide) (fun c6 => ?_) (fun c6 => ?_)
        · have h := h.1 c6
          refine g_iload_n C d_MO_takeFromRuns_51 rfl 1 rfl ?_
          refine g_istore_n C (lv2 := [(0, .ref (ad 0)), (1, .int x1), (2, .int x2)]) d_MO_takeFromRuns_52 rfl (by decide) rfl ?_
          obtain ⟨v7, e_v7⟩ : ∃ y : Int32, y = x2 + 1 := ⟨_, rfl⟩
          have h := h v7 e_v7
          refine g_iinc C (v := v7) (lv2 := [(0, .ref (ad 0)), (1, .int x1), (2, .int v7)]) d_MO_takeFromRuns_53 2 rfl (by rw [e_v7]; rfl) (by decide) rfl ?_
          refine g_goto C 4 d_MO_takeFromRuns_56 (by decide) ?_
          exact ih x1 v7 s h
        · have h := h.2 c6
          refine g_iload_n C d_MO_takeFromRuns_30 rfl 1 rfl ?_
          refine g_if_lt C 47 d_MO_takeFromRuns_31 (by decide) (fun c8 => ?_) (fun c8 => ?_)
          · have h := h.1 c8
            refine g_iload_n C d_MO_takeFromRuns_47 rfl 2 rfl ?_
            refine g_goto C 52 d_MO_takeFromRuns_48 (by decide) ?_
            refine g_istore_n C (lv2 := [(0, .ref (ad 0)), (1, .int x2), (2, .int x2)]) d_MO_takeFromRuns_52 rfl (by decide) rfl ?_
            obtain ⟨v9, e_v9⟩ : ∃ y : Int32, y = x2 + 1 := ⟨_, rfl⟩
            have h := h v9 e_v9
            refine g_iinc C (v := v9) (lv2 := [(0, .ref (ad 0)), (1, .int x2), (2, .int v9)]) d_MO_takeFromRuns_53 2 rfl (by rw [e_v9]; rfl) (by decide) rfl ?_
            refine g_goto C 4 d_MO_takeFromRuns_56 (by decide) ?_
            exact ih x2 v9 s h
          · have h := h.2 c8
            refine g_aload_n C d_MO_takeFromRuns_34 rfl 0 rfl ?_
            refine g_iload_n C d_MO_takeFromRuns_35 rfl 2 rfl ?_
            refine g_callV C (rest := []) 0 (fun l => m_M_SpillQueueModel_headOf X ad x2 s _ h l) rfl rfl (gt 900 (by decide +kernel) rfl) cb_MO_headOf ⟨rfl, rfl⟩ (by rw [hRm]; decide) ⟨Nat.zero_le _, Nat.zero_le _⟩ rfl rfl (Nat.le_of_ble_eq_true rfl) d_MO_takeFromRuns_36 (gki (fun r11 s10 h => ?_))
            refine g_aload_n C d_MO_takeFromRuns_39 rfl 0 rfl ?_
            refine g_iload_n C d_MO_takeFromRuns_40 rfl 1 rfl ?_
            refine g_callV C (rest := [.int r11]) 0 (fun l => m_M_SpillQueueModel_headOf X ad x1 s10 _ h l) rfl rfl (gt 900 (by decide +kernel) rfl) cb_MO_headOf ⟨rfl, rfl⟩ (by rw [hRm]; decide) ⟨Nat.zero_le _, Nat.zero_le _⟩ rfl rfl (Nat.le_of_ble_eq_true rfl) d_MO_takeFromRuns_41 (gki (fun r13 s12 h => ?_))
            refine g_icmp_ge C 51 d_MO_takeFromRuns_44 (by decide) (fun c14 => ?_) (fun c14 => ?_)
            · have h := h.1 c14
              refine g_iload_n C d_MO_takeFromRuns_51 rfl 1 rfl ?_
              refine g_istore_n C (lv2 := [(0, .ref (ad 0)), (1, .int x1), (2, .int x2)]) d_MO_takeFromRuns_52 rfl (by decide) rfl ?_
              obtain ⟨v15, e_v15⟩ : ∃ y : Int32, y = x2 + 1 := ⟨_, rfl⟩
              have h := h v15 e_v15
              refine g_iinc C (v := v15) (lv2 := [(0, .ref (ad 0)), (1, .int x1), (2, .int v15)]) d_MO_takeFromRuns_53 2 rfl (by rw [e_v15]; rfl) (by decide) rfl ?_
              refine g_goto C 4 d_MO_takeFromRuns_56 (by decide) ?_
              exact ih x1 v15 s12 h
            · have h := h.2 c14
              refine g_iload_n C d_MO_takeFromRuns_47 rfl 2 rfl ?_
              refine g_goto C 52 d_MO_takeFromRuns_48 (by decide) ?_
              refine g_istore_n C (lv2 := [(0, .ref (ad 0)), (1, .int x2), (2, .int x2)]) d_MO_takeFromRuns_52 rfl (by decide) rfl ?_
              obtain ⟨v16, e_v16⟩ : ∃ y : Int32, y = x2 + 1 := ⟨_, rfl⟩
              have h := h v16 e_v16
              refine g_iinc C (v := v16) (lv2 := [(0, .ref (ad 0)), (1, .int x2), (2, .int v16)]) d_MO_takeFromRuns_53 2 rfl (by rw [e_v16]; rfl) (by decide) rfl ?_
              refine g_goto C 4 d_MO_takeFromRuns_56 (by decide) ?_
              exact ih x2 v16 s12 h
def wp_M_SpillQueueModel_takeFromRuns (s : gS) (Q : Int32 → gS → Prop) : Prop := ∃ n17 : Nat, wl_M_SpillQueueModel_takeFromRuns_4 Q (fun v19 v20 s18 => wp_M_SpillQueueModel_headOf v19 s18 (fun r22 s21 => vp_in v19 16 ∧ (∀ v24 : Int32, v24 = (s21.2 12 v19.toNatClampNeg) - 1 → vp_in v19 16 ∧ (vp_in v19 16 ∧ (∀ v27 : Int32, v27 = (s21.2 11 v19.toNatClampNeg) + 1 → vp_in v19 16 ∧ (vp_in v19 16 ∧ (wp_M_SpillQueueModel_room (s21.1, ua (ua s21.2 12 (upd (s21.2 12) v19.toNatClampNeg v24)) 11 (upd (s21.2 11) v19.toNatClampNeg v27)) (fun r31 s30 => ((¬ ((upd (s21.2 11) v19.toNatClampNeg v27) v19.toNatClampNeg) = r31 → Q r22 s30) ∧ (((upd (s21.2 11) v19.toNatClampNeg v27) v19.toNatClampNeg) = r31 → vp_in v19 16 ∧ (vp_in v19 16 ∧ (wp_M_SpillQueueModel_at (s30.2 10 v19.toNatClampNeg) 1 (s30.1, ua s30.2 11 (upd (s30.2 11) v19.toNatClampNeg 0)) (fun r36 s35 => vp_in v19 16 ∧ (Q r22 (s35.1, ua s35.2 10 (upd (s35.2 10) v19.toNatClampNeg r36))))))))))))))))  n17 (-1) 0 s
set_option maxHeartbeats 4000000 in
set_option maxRecDepth 100000 in
theorem w_M_SpillQueueModel_takeFromRuns (X : gX) (ad : Nat → Nat) (s : gS) (Q : Int32 → gS → Prop) (h : wp_M_SpillQueueModel_takeFromRuns  s Q) (E : gE) (C : gC X E b_MO_takeFromRuns 3 R_MO) (hRm : gRm E = rm_M_SpillQueueModel_takeFromRuns) (r : gR X E b_MO_takeFromRuns (some .int) (gBi (wM ad X) Q)) : gW X E 0 0 (wM ad X s) [(0, .ref (ad 0))] 0 [] := by
  have h : ∃ n17 : Nat, wl_M_SpillQueueModel_takeFromRuns_4 Q (fun v19 v20 s18 => wp_M_SpillQueueModel_headOf v19 s18 (fun r22 s21 => vp_in v19 16 ∧ (∀ v24 : Int32, v24 = (s21.2 12 v19.toNatClampNeg) - 1 → vp_in v19 16 ∧ (vp_in v19 16 ∧ (∀ v27 : Int32, v27 = (s21.2 11 v19.toNatClampNeg) + 1 → vp_in v19 16 ∧ (vp_in v19 16 ∧ (wp_M_SpillQueueModel_room (s21.1, ua (ua s21.2 12 (upd (s21.2 12) v19.toNatClampNeg v24)) 11 (upd (s21.2 11) v19.toNatClampNeg v27)) (fun r31 s30 => ((¬ ((upd (s21.2 11) v19.toNatClampNeg v27) v19.toNatClampNeg) = r31 → Q r22 s30) ∧ (((upd (s21.2 11) v19.toNatClampNeg v27) v19.toNatClampNeg) = r31 → vp_in v19 16 ∧ (vp_in v19 16 ∧ (wp_M_SpillQueueModel_at (s30.2 10 v19.toNatClampNeg) 1 (s30.1, ua s30.2 11 (upd (s30.2 11) v19.toNatClampNeg 0)) (fun r36 s35 => vp_in v19 16 ∧ (Q r22 (s35.1, ua s35.2 10 (upd (s35.2 10) v19.toNatClampNeg r36))))))))))))))))  n17 (-1) 0 s := h
  refine g_iconst C (-1) d_MO_takeFromRuns_0 (by decide) ?_
  refine g_istore_n C (lv2 := [(0, .ref (ad 0)), (1, .int (-1))]) d_MO_takeFromRuns_1 rfl (by decide) rfl ?_
  refine g_iconst C 0 d_MO_takeFromRuns_2 (by decide) ?_
  refine g_istore_n C (lv2 := [(0, .ref (ad 0)), (1, .int (-1)), (2, .int 0)]) d_MO_takeFromRuns_3 rfl (by decide) rfl ?_
  obtain ⟨n17, h⟩ := h
  refine w_M_SpillQueueModel_takeFromRuns_4 X ad Q (_)  E C hRm r ?_ n17 (-1) 0 s h
  intro v19 v20 s18 h
  refine g_aload_n C d_MO_takeFromRuns_59 rfl 0 rfl ?_
  refine g_iload_n C d_MO_takeFromRuns_60 rfl 1 rfl ?_
  refine g_callV C (rest := []) 0 (fun l => m_M_SpillQueueModel_headOf X ad v19 s18 _ h l) rfl rfl (gt 900 (by decide +kernel) rfl) cb_MO_headOf ⟨rfl, rfl⟩ (by rw [hRm]; decide) ⟨Nat.zero_le _, Nat.zero_le _⟩ rfl rfl (Nat.le_of_ble_eq_true rfl) d_MO_takeFromRuns_61 (gki (fun r22 s21 h => ?_))
  refine g_istore_n C (lv2 := [(0, .ref (ad 0)), (1, .int v19), (2, .int r22)]) d_MO_takeFromRuns_64 rfl (by decide) rfl ?_
  refine g_aload_n C d_MO_takeFromRuns_65 rfl 0 rfl ?_
  refine g_get C (v := .ref (ad 13)) 0 25 iw_MO rfl rfl (by decide) (gt 756 (by decide +kernel) rfl) rfl rfl d_MO_takeFromRuns_66 ?_
  refine g_iload_n C d_MO_takeFromRuns_69 rfl 1 rfl ?_
  refine g_dup2 C rfl rfl d_MO_takeFromRuns_70 ?_
  obtain ⟨i23, h⟩ := h
  refine g_iald C 13 0 rfl rfl i23 d_MO_takeFromRuns_71 ?_
  refine g_iconst C 1 d_MO_takeFromRuns_72 (by decide) ?_
  refine g_isub C d_MO_takeFromRuns_73 ?_
  refine g_topi (fun v24 e_v24 => ?_)
  have h := h v24 e_v24
  obtain ⟨i25, h⟩ := h
  refine g_iast C 13 0 (ws2 := wM ad X (s21.1, ua s21.2 12 (upd (s21.2 12) v19.toNatClampNeg v24))) rfl rfl i25 rfl d_MO_takeFromRuns_74 ?_
  refine g_aload_n C d_MO_takeFromRuns_75 rfl 0 rfl ?_
  refine g_get C (v := .ref (ad 12)) 0 24 iw_MO rfl rfl (by decide) (gt 755 (by decide +kernel) rfl) rfl rfl d_MO_takeFromRuns_76 ?_
  refine g_iload_n C d_MO_takeFromRuns_79 rfl 1 rfl ?_
  refine g_dup2 C rfl rfl d_MO_takeFromRuns_80 ?_
  obtain ⟨i26, h⟩ := h
  refine g_iald C 12 0 rfl rfl i26 d_MO_takeFromRuns_81 ?_
  refine g_iconst C 1 d_MO_takeFromRuns_82 (by decide) ?_
  refine g_iadd C d_MO_takeFromRuns_83 ?_
  refine g_topi (fun v27 e_v27 => ?_)
  have h := h v27 e_v27
  obtain ⟨i28, h⟩ := h
  refine g_iast C 12 0 (ws2 := wM ad X (s21.1, ua (ua s21.2 12 (upd (s21.2 12) v19.toNatClampNeg v24)) 11 (upd (s21.2 11) v19.toNatClampNeg v27))) rfl rfl i28 rfl d_MO_takeFromRuns_84 ?_
  refine g_aload_n C d_MO_takeFromRuns_85 rfl 0 rfl ?_
  refine g_get C (v := .ref (ad 12)) 0 24 iw_MO rfl rfl (by decide) (gt 755 (by decide +kernel) rfl) rfl rfl d_MO_takeFromRuns_86 ?_
  refine g_iload_n C d_MO_takeFromRuns_89 rfl 1 rfl ?_
  obtain ⟨i29, h⟩ := h
  refine g_iald C 12 0 rfl rfl i29 d_MO_takeFromRuns_90 ?_
  refine g_aload_n C d_MO_takeFromRuns_91 rfl 0 rfl ?_
  refine g_callV C (rest := [.int ((upd (s21.2 11) v19.toNatClampNeg v27) v19.toNatClampNeg)]) 0 (fun l => m_M_SpillQueueModel_room X ad  (s21.1, ua (ua s21.2 12 (upd (s21.2 12) v19.toNatClampNeg v24)) 11 (upd (s21.2 11) v19.toNatClampNeg v27)) _ h l) rfl rfl (gt 852 (by decide +kernel) rfl) cb_MO_room ⟨rfl, rfl⟩ (by rw [hRm]; decide) ⟨Nat.zero_le _, Nat.zero_le _⟩ rfl rfl (Nat.le_of_ble_eq_true rfl) d_MO_takeFromRuns_92 (gki (fun r31 s30 h => ?_))
  refine g_icmp_ne C 122 d_MO_takeFromRuns_95 (by decide) (fun c32 => ?_) (fun c32 => ?_)
  · have h := h.1 c32
    refine g_iload_n C d_MO_takeFromRuns_122 rfl 2 rfl ?_
    exact g_iret r rfl d_MO_takeFromRuns_123 (gBi_mk h)
  · have h := h.2 c32
    refine g_aload_n C d_MO_takeFromRuns_98 rfl 0 rfl ?_
    refine g_get C (v := .ref (ad 12)) 0 24 iw_MO rfl rfl (by decide) (gt 755 (by decide +kernel) rfl) rfl rfl d_MO_takeFromRuns_99 ?_
    refine g_iload_n C d_MO_takeFromRuns_102 rfl 1 rfl ?_
    refine g_iconst C 0 d_MO_takeFromRuns_103 (by decide) ?_
    obtain ⟨i33, h⟩ := h
    refine g_iast C 12 0 (ws2 := wM ad X (s30.1, ua s30.2 11 (upd (s30.2 11) v19.toNatClampNeg 0))) rfl rfl i33 rfl d_MO_takeFromRuns_104 ?_
    refine g_aload_n C d_MO_takeFromRuns_105 rfl 0 rfl ?_
    refine g_get C (v := .ref (ad 11)) 0 23 iw_MO rfl rfl (by decide) (gt 754 (by decide +kernel) rfl) rfl rfl d_MO_takeFromRuns_106 ?_
    refine g_iload_n C d_MO_takeFromRuns_109 rfl 1 rfl ?_
    refine g_aload_n C d_MO_takeFromRuns_110 rfl 0 rfl ?_
    refine g_aload_n C d_MO_takeFromRuns_111 rfl 0 rfl ?_
    refine g_get C (v := .ref (ad 11)) 0 23 iw_MO rfl rfl (by decide) (gt 754 (by decide +kernel) rfl) rfl rfl d_MO_takeFromRuns_112 ?_
    refine g_iload_n C d_MO_takeFromRuns_115 rfl 1 rfl ?_
    obtain ⟨i34, h⟩ := h
    refine g_iald C 11 0 rfl rfl i34 d_MO_takeFromRuns_116 ?_
    refine g_iconst C 1 d_MO_takeFromRuns_117 (by decide) ?_
    refine g_callV C (rest := [.int v19, .ref (ad 11)]) 0 (fun l => m_M_SpillQueueModel_at X ad (s30.2 10 v19.toNatClampNeg) 1 (s30.1, ua s30.2 11 (upd (s30.2 11) v19.toNatClampNeg 0)) _ h l) rfl rfl (gt 840 (by decide +kernel) rfl) cb_MO_at ⟨rfl, rfl⟩ (by rw [hRm]; decide) ⟨Nat.zero_le _, Nat.zero_le _⟩ rfl rfl (Nat.le_of_ble_eq_true rfl) d_MO_takeFromRuns_118 (gki (fun r36 s35 h => ?_))
    obtain ⟨i37, h⟩ := h
    refine g_iast C 11 0 (ws2 := wM ad X (s35.1, ua s35.2 10 (upd (s35.2 10) v19.toNatClampNeg r36))) rfl rfl i37 rfl d_MO_takeFromRuns_121 ?_
    refine g_iload_n C d_MO_takeFromRuns_122 rfl 2 rfl ?_
    exact g_iret r rfl d_MO_takeFromRuns_123 (gBi_mk h)
theorem m_M_SpillQueueModel_takeFromRuns (X : gX) (ad : Nat → Nat) (s : gS) (Q : Int32 → gS → Prop) (h : wp_M_SpillQueueModel_takeFromRuns  s Q) (l : Launch) : gM l X y_MO_takeFromRuns b_MO_takeFromRuns 3 (some .int) rm_M_SpillQueueModel_takeFromRuns [.ref (ad 0)] (wM ad X s) (gBi (wM ad X) Q) :=
  gM_of (by decide +kernel) rfl (Nat.le_of_ble_eq_true rfl) rfl (fun E C hRm r => w_M_SpillQueueModel_takeFromRuns X ad  s Q h E C hRm r)
