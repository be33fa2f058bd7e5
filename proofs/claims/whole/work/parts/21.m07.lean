def rm_M_SpillQueueModel_readSuper : Room := { frames := 3, cells := 0, slots := 0, locals := 74 }
def wl_M_SpillQueueModel_readSuper_7 (Q : Int32 → gS → Prop) (K : Int32 → gS → Prop) (x1 : Int32) : Nat → Int32 → gS → Prop
  | 0, _, _ => False
  | n + 1, x2, s => ((200 ≤ x2 → K x2 s) ∧ (¬ 200 ≤ x2 → vp_in x2 200 ∧ (∀ v3 : Int32, v3 = x2 + 1 → wl_M_SpillQueueModel_readSuper_7 Q K x1 n v3 (s.1, ua s.2 7 (upd (s.2 7) x2.toNatClampNeg (vp_nar .boolean 0))))))
set_option maxHeartbeats 4000000 in
set_option maxRecDepth 100000 in
theorem w_M_SpillQueueModel_readSuper_7 (X : gX) (ad : Nat → Nat) (Q : Int32 → gS → Prop) (K : Int32 → gS → Prop) (x1 : Int32) (E : gE) (C : gC X E b_MO_readSuper 6 R_MO) (hRm : gRm E = rm_M_SpillQueueModel_readSuper) (r : gR X E b_MO_readSuper (some .boolean) (gBi (wM ad X) Q)) (hK : ∀ (x2 : Int32) (s : gS), K x2 s → gW X E 0 0 (wM ad X s) [(0, .ref (ad 0)), (1, .int x1), (2, .int x2)] 27 []) : ∀ (n : Nat) (x2 : Int32) (s : gS), wl_M_SpillQueueModel_readSuper_7 Q K x1 n x2 s → gW X E 0 0 (wM ad X s) [(0, .ref (ad 0)), (1, .int x1), (2, .int x2)] 7 [] := by
  intro n
  induction n with
  | zero => intro x2 s h; exact False.elim h
  | succ n ih =>
    intro x2 s h
    have h : ((200 ≤ x2 → K x2 s) ∧ (¬ 200 ≤ x2 → vp_in x2 200 ∧ (∀ v3 : Int32, v3 = x2 + 1 → wl_M_SpillQueueModel_readSuper_7 Q K x1 n v3 (s.1, ua s.2 7 (upd (s.2 7) x2.toNatClampNeg (vp_nar .boolean 0)))))) := h
    refine g_iload_n C d_MO_readSuper_7 rfl 2 rfl ?_
    refine g_sipush C 200 d_MO_readSuper_8 (by decide) ?_
    refine g_icmp_ge C 27 d_MO_readSuper_11 (by decide) (fun c1 => ?_) (fun c1 => ?_)
    · have h := h.1 c1
      exact hK x2 s h
    · have h := h.2 c1
      refine g_aload_n C d_MO_readSuper_14 rfl 0 rfl ?_
      refine g_get C (v := .ref (ad 8)) 0 20 iw_MO rfl rfl (by decide) (gt 751 (by decide +kernel) rfl) rfl rfl d_MO_readSuper_15 ?_
      refine g_iload_n C d_MO_readSuper_18 rfl 2 rfl ?_
      refine g_iconst C 0 d_MO_readSuper_19 (by decide) ?_
      obtain ⟨i2, h⟩ := h
      refine g_zast C 8 1 (ws2 := wM ad X (s.1, ua s.2 7 (upd (s.2 7) x2.toNatClampNeg (vp_nar .boolean 0)))) rfl rfl i2 rfl d_MO_readSuper_20 ?_
      obtain ⟨v3, e_v3⟩ : ∃ y : Int32, y = x2 + 1 := ⟨_, rfl⟩
      have h := h v3 e_v3
      refine g_iinc C (v := v3) (lv2 := [(0, .ref (ad 0)), (1, .int x1), (2, .int v3)]) d_MO_readSuper_21 2 rfl (by rw [e_v3]; rfl) (by decide) rfl ?_
      refine g_goto C 7 d_MO_readSuper_24 (by decide) ?_
      exact ih v3 (s.1, ua s.2 7 (upd (s.2 7) x2.toNatClampNeg (vp_nar .boolean 0))) h
def wl_M_SpillQueueModel_readSuper_87 (Q : Int32 → gS → Prop) (K : Int32 → Int32 → gS → Prop) (x1 : Int32) (x2 : Int32) (x3 : Int32) : Nat → Int32 → Int32 → gS → Prop
  | 0, _, _, _ => False
  | n + 1, x4, x5, s => ((x3 ≤ x5 → K x4 x5 s) ∧ (¬ x3 ≤ x5 → ((x4 = 0 → K x4 x5 s) ∧ (¬ x4 = 0 → wp_M_SpillQueueModel_readRun x1 x5 s (fun r27 s26 => ∀ v28 : Int32, v28 = x5 + 1 → wl_M_SpillQueueModel_readSuper_87 Q K x1 x2 x3 n r27 v28 s26)))))
set_option maxHeartbeats 4000000 in
set_option maxRecDepth 100000 in
theorem w_M_SpillQueueModel_readSuper_87 (X : gX) (ad : Nat → Nat) (Q : Int32 → gS → Prop) (K : Int32 → Int32 → gS → Prop) (x1 : Int32) (x2 : Int32) (x3 : Int32) (E : gE) (C : gC X E b_MO_readSuper 6 R_MO) (hRm : gRm E = rm_M_SpillQueueModel_readSuper) (r : gR X E b_MO_readSuper (some .boolean) (gBi (wM ad X) Q)) (hK : ∀ (x4 : Int32) (x5 : Int32) (s : gS), K x4 x5 s → gW X E 0 0 (wM ad X s) [(0, .ref (ad 0)), (1, .int x1), (2, .int x2), (3, .int x3), (4, .int x4), (5, .int x5)] 113 []) : ∀ (n : Nat) (x4 : Int32) (x5 : Int32) (s : gS), wl_M_SpillQueueModel_readSuper_87 Q K x1 x2 x3 n x4 x5 s → gW X E 0 0 (wM ad X s) [(0, .ref (ad 0)), (1, .int x1), (2, .int x2), (3, .int x3), (4, .int x4), (5, .int x5)] 87 [] := by
  intro n
  induction n with
  | zero => intro x4 x5 s h; exact False.elim h
  | succ n ih =>
    intro x4 x5 s h
    have h : ((x3 ≤ x5 → K x4 x5 s) ∧ (¬ x3 ≤ x5 → ((x4 = 0 → K x4 x5 s) ∧ (¬ x4 = 0 → wp_M_SpillQueueModel_readRun x1 x5 s (fun r27 s26 => ∀ v28 : Int32, v28 = x5 + 1 → wl_M_SpillQueueModel_readSuper_87 Q K x1 x2 x3 n r27 v28 s26))))) := h
    refine g_iload C d_MO_readSuper_87 5 rfl ?_
    refine g_iload_n C d_MO_readSuper_89 rfl 3 rfl ?_
    refine g_icmp_ge C 113 d_MO_readSuper_90 (by decide) (fun c24 => ?_) (fun c24 => ?_)
    · have h := h.1 c24
      exact hK x4 x5 s h
    · have h := h.2 c24
      refine g_iload C d_MO_readSuper_93 4 rfl ?_
      refine g_if_eq C 113 d_MO_readSuper_95 (by decide) (fun c25 => ?_) (fun c25 => ?_)
      · have h := h.1 c25
        exact hK x4 x5 s h
      · have h := h.2 c25
        refine g_aload_n C d_MO_readSuper_98 rfl 0 rfl ?_
        refine g_iload_n C d_MO_readSuper_99 rfl 1 rfl ?_
        refine g_iload C d_MO_readSuper_100 5 rfl ?_
        refine g_callV C (rest := []) 0 (fun l => m_M_SpillQueueModel_readRun X ad x1 x5 s _ h l) rfl rfl (gt 972 (by decide +kernel) rfl) cb_MO_readRun ⟨rfl, rfl⟩ (by rw [hRm]; decide) ⟨Nat.zero_le _, Nat.zero_le _⟩ rfl rfl (Nat.le_of_ble_eq_true rfl) d_MO_readSuper_102 (gki (fun r27 s26 h => ?_))
        refine g_istore C (lv2 := [(0, .ref (ad 0)), (1, .int x1), (2, .int x2), (3, .int x3), (4, .int r27), (5, .int x5)]) d_MO_readSuper_105 (by decide) rfl ?_
        obtain ⟨v28, e_v28⟩ : ∃ y : Int32, y = x5 + 1 := ⟨_, rfl⟩
        have h := h v28 e_v28
        refine g_iinc C (v := v28) (lv2 := [(0, .ref (ad 0)), (1, .int x1), (2, .int x2), (3, .int x3), (4, .int r27), (5, .int v28)]) d_MO_readSuper_107 5 rfl (by rw [e_v28]; rfl) (by decide) rfl ?_
        refine g_goto C 87 d_MO_readSuper_110 (by decide) ?_
        exact ih r27 v28 s26 h
def wp_M_SpillQueueModel_readSuper (a1 : Int32) (s : gS) (Q : Int32 → gS → Prop) : Prop := ∃ n4 : Nat, wl_M_SpillQueueModel_readSuper_7 Q (fun v6 s5 => wp_M_SpillQueueModel_at a1 1 s5 (fun r8 s7 => wp_M_SpillQueueModel_at a1 2 s7 (fun r10 s9 => wp_M_SpillQueueModel_at a1 0 s9 (fun r12 s11 => wp_M_SpillQueueModel_sumOf a1 s11 (fun r14 s13 => ((¬ r12 = r14 → Q 0 s13) ∧ (r12 = r14 → ((r8 < 1 → Q 0 s13) ∧ (¬ r8 < 1 → ((¬ (r8 - r8 / 2 * 2) = a1 → Q 0 s13) ∧ ((r8 - r8 / 2 * 2) = a1 → wp_M_SpillQueueModel_most s13 (fun r20 s19 => wp_M_SpillQueueModel_within r10 0 r20 s19 (fun r22 s21 => ((¬ r22 = 0 → ∃ n29 : Nat, wl_M_SpillQueueModel_readSuper_87 Q (fun v31 v32 s30 => narrow .boolean (.int v31) = .int v31 ∧ (Q v31 s30)) a1 r8 r10 n29 1 0 s21) ∧ (r22 = 0 → Q 0 s21))))))))))))))) a1 n4 0 (up s.1 12 (0), s.2)
set_option maxHeartbeats 4000000 in
set_option maxRecDepth 100000 in
theorem w_M_SpillQueueModel_readSuper (X : gX) (ad : Nat → Nat) (a1 : Int32) (s : gS) (Q : Int32 → gS → Prop) (h : wp_M_SpillQueueModel_readSuper a1 s Q) (E : gE) (C : gC X E b_MO_readSuper 6 R_MO) (hRm : gRm E = rm_M_SpillQueueModel_readSuper) (r : gR X E b_MO_readSuper (some .boolean) (gBi (wM ad X) Q)) : gW X E 0 0 (wM ad X s) [(0, .ref (ad 0)), (1, .int a1)] 0 [] := by
  have h : ∃ n4 : Nat, wl_M_SpillQueueModel_readSuper_7 Q (fun v6 s5 => wp_M_SpillQueueModel_at a1 1 s5 (fun r8 s7 => wp_M_SpillQueueModel_at a1 2 s7 (fun r10 s9 => wp_M_SpillQueueModel_at a1 0 s9 (fun r12 s11 => wp_M_SpillQueueModel_sumOf a1 s11 (fun r14 s13 => ((¬ r12 = r14 → Q 0 s13) ∧ (r12 = r14 → ((r8 < 1 → Q 0 s13) ∧ (¬ r8 < 1 → ((¬ (r8 - r8 / 2 * 2) = a1 → Q 0 s13) ∧ ((r8 - r8 / 2 * 2) = a1 → wp_M_SpillQueueModel_most s13 (fun r20 s19 => wp_M_SpillQueueModel_within r10 0 r20 s19 (fun r22 s21 => ((¬ r22 = 0 → ∃ n29 : Nat, wl_M_SpillQueueModel_readSuper_87 Q (fun v31 v32 s30 => narrow .boolean (.int v31) = .int v31 ∧ (Q v31 s30)) a1 r8 r10 n29 1 0 s21) ∧ (r22 = 0 → Q 0 s21))))))))))))))) a1 n4 0 (up s.1 12 (0), s.2) := h
  refine g_aload_n C d_MO_readSuper_0 rfl 0 rfl ?_
  refine g_iconst C 0 d_MO_readSuper_1 (by decide) ?_
  refine g_put C (ws2 := wM ad X (up s.1 12 (0), s.2)) 0 14 iw_MO ty_MO tyok_MO nm_MO rfl rfl (by decide) (gt 745 (by decide +kernel) rfl) rfl rfl rfl rfl (Nat.le_of_ble_eq_true rfl) rfl d_MO_readSuper_2 ?_
  refine g_iconst C 0 d_MO_readSuper_5 (by decide) ?_
  refine g_istore_n C (lv2 := [(0, .ref (ad 0)), (1, .int a1), (2, .int 0)]) d_MO_readSuper_6 rfl (by decide) rfl ?_
  obtain ⟨n4, h⟩ := h
  refine w_M_SpillQueueModel_readSuper_7 X ad Q (_) a1 E C hRm r ?_ n4 0 (up s.1 12 (0), s.2) h
  intro v6 s5 h
  refine g_aload_n C d_MO_readSuper_27 rfl 0 rfl ?_
  refine g_iload_n C d_MO_readSuper_28 rfl 1 rfl ?_
  refine g_iconst C 1 d_MO_readSuper_29 (by decide) ?_
  refine g_callV C (rest := []) 0 (fun l => m_M_SpillQueueModel_at X ad a1 1 s5 _ h l) rfl rfl (gt 840 (by decide +kernel) rfl) cb_MO_at ⟨rfl, rfl⟩ (by rw [hRm]; decide) ⟨Nat.zero_le _, Nat.zero_le _⟩ rfl rfl (Nat.le_of_ble_eq_true rfl) d_MO_readSuper_30 (gki (fun r8 s7 h => ?_))
  refine g_istore_n C (lv2 := [(0, .ref (ad 0)), (1, .int a1), (2, .int r8)]) d_MO_readSuper_33 rfl (by decide) rfl ?_
  refine g_aload_n C d_MO_readSuper_34 rfl 0 rfl ?_
  refine g_iload_n C d_MO_readSuper_35 rfl 1 rfl ?_
  refine g_iconst C 2 d_MO_readSuper_36 (by decide) ?_
  refine g_callV C (rest := []) 0 (fun l => m_M_SpillQueueModel_at X ad a1 2 s7 _ h l) rfl rfl (gt 840 (by decide +kernel) rfl) cb_MO_at ⟨rfl, rfl⟩ (by rw [hRm]; decide) ⟨Nat.zero_le _, Nat.zero_le _⟩ rfl rfl (Nat.le_of_ble_eq_true rfl) d_MO_readSuper_37 (gki (fun r10 s9 h => ?_))
  refine g_istore_n C (lv2 := [(0, .ref (ad 0)), (1, .int a1), (2, .int r8), (3, .int r10)]) d_MO_readSuper_40 rfl (by decide) rfl ?_
  refine g_aload_n C d_MO_readSuper_41 rfl 0 rfl ?_
  refine g_iload_n C d_MO_readSuper_42 rfl 1 rfl ?_
  refine g_iconst C 0 d_MO_readSuper_43 (by decide) ?_
  refine g_callV C (rest := []) 0 (fun l => m_M_SpillQueueModel_at X ad a1 0 s9 _ h l) rfl rfl (gt 840 (by decide +kernel) rfl) cb_MO_at ⟨rfl, rfl⟩ (by rw [hRm]; decide) ⟨Nat.zero_le _, Nat.zero_le _⟩ rfl rfl (Nat.le_of_ble_eq_true rfl) d_MO_readSuper_44 (gki (fun r12 s11 h => ?_))
  refine g_aload_n C d_MO_readSuper_47 rfl 0 rfl ?_
  refine g_iload_n C d_MO_readSuper_48 rfl 1 rfl ?_
  refine g_callV C (rest := [.int r12]) 0 (fun l => m_M_SpillQueueModel_sumOf X ad a1 s11 _ h l) rfl rfl (gt 836 (by decide +kernel) rfl) cb_MO_sumOf ⟨rfl, rfl⟩ (by rw [hRm]; decide) ⟨Nat.zero_le _, Nat.zero_le _⟩ rfl rfl (Nat.le_of_ble_eq_true rfl) d_MO_readSuper_49 (gki (fun r14 s13 h => ?_))
  refine g_icmp_ne C 79 d_MO_readSuper_52 (by decide) (fun c15 => ?_) (fun c15 => ?_)
  · have h := h.1 c15
    refine g_iconst C 0 d_MO_readSuper_79 (by decide) ?_
    exact g_iret r rfl d_MO_readSuper_80 (gBi_mk h)
  · have h := h.2 c15
    refine g_iload_n C d_MO_readSuper_55 rfl 2 rfl ?_
    refine g_iconst C 1 d_MO_readSuper_56 (by decide) ?_
    refine g_icmp_lt C 79 d_MO_readSuper_57 (by decide) (fun c16 => ?_) (fun c16 => ?_)
    · have h := h.1 c16
      refine g_iconst C 0 d_MO_readSuper_79 (by decide) ?_
      exact g_iret r rfl d_MO_readSuper_80 (gBi_mk h)
    · have h := h.2 c16
      refine g_iload_n C d_MO_readSuper_60 rfl 2 rfl ?_
      refine g_iconst C 2 d_MO_readSuper_61 (by decide) ?_
      refine g_irem C (by decide) d_MO_readSuper_62 ?_
      refine g_iload_n C d_MO_readSuper_63 rfl 1 rfl ?_
      refine g_icmp_ne C 79 d_MO_readSuper_64 (by decide) (fun c18 => ?_) (fun c18 => ?_)
      · have h := h.1 c18
        refine g_iconst C 0 d_MO_readSuper_79 (by decide) ?_
        exact g_iret r rfl d_MO_readSuper_80 (gBi_mk h)
      · have h := h.2 c18
        refine g_iload_n C d_MO_readSuper_67 rfl 3 rfl ?_
        refine g_iconst C 0 d_MO_readSuper_68 (by decide) ?_
        refine g_aload_n C d_MO_readSuper_69 rfl 0 rfl ?_
        refine g_callV C (rest := [.int 0, .int r10]) 0 (fun l => m_M_SpillQueueModel_most X ad  s13 _ h l) rfl rfl (gt 864 (by decide +kernel) rfl) cb_MO_most ⟨rfl, rfl⟩ (by rw [hRm]; decide) ⟨Nat.zero_le _, Nat.zero_le _⟩ rfl rfl (Nat.le_of_ble_eq_true rfl) d_MO_readSuper_70 (gki (fun r20 s19 h => ?_))
        refine g_callS C (rest := []) (fun l => m_M_SpillQueueModel_within X ad r10 0 r20 s19 _ h l) (gt 821 (by decide +kernel) rfl) cb_MO_within ⟨rfl, rfl⟩ (by rw [hRm]; decide) ⟨Nat.zero_le _, Nat.zero_le _⟩ rfl rfl (Nat.le_of_ble_eq_true rfl) d_MO_readSuper_73 (gki (fun r22 s21 h => ?_))
        refine g_if_ne C 81 d_MO_readSuper_76 (by decide) (fun c23 => ?_) (fun c23 => ?_)
        · have h := h.1 c23
          refine g_iconst C 1 d_MO_readSuper_81 (by decide) ?_
          refine g_istore C (lv2 := [(0, .ref (ad 0)), (1, .int a1), (2, .int r8), (3, .int r10), (4, .int 1)]) d_MO_readSuper_82 (by decide) rfl ?_
          refine g_iconst C 0 d_MO_readSuper_84 (by decide) ?_
          refine g_istore C (lv2 := [(0, .ref (ad 0)), (1, .int a1), (2, .int r8), (3, .int r10), (4, .int 1), (5, .int 0)]) d_MO_readSuper_85 (by decide) rfl ?_
          obtain ⟨n29, h⟩ := h
          refine w_M_SpillQueueModel_readSuper_87 X ad Q (_) a1 r8 r10 E C hRm r ?_ n29 1 0 s21 h
          intro v31 v32 s30 h
          refine g_iload C d_MO_readSuper_113 4 rfl ?_
          obtain ⟨b33, h⟩ := h
          exact g_iret r b33 d_MO_readSuper_115 (gBi_mk h)
        · have h := h.2 c23
          refine g_iconst C 0 d_MO_readSuper_79 (by decide) ?_
          exact g_iret r rfl d_MO_readSuper_80 (gBi_mk h)
theorem m_M_SpillQueueModel_readSuper (X : gX) (ad : Nat → Nat) (a1 : Int32) (s : gS) (Q : Int32 → gS → Prop) (h : wp_M_SpillQueueModel_readSuper a1 s Q) (l : Launch) : gM l X y_MO_readSuper b_MO_readSuper 6 (some .boolean) rm_M_SpillQueueModel_readSuper [.ref (ad 0), .int a1] (wM ad X s) (gBi (wM ad X) Q) :=
  gM_of (by decide +kernel) rfl (Nat.le_of_ble_eq_true rfl) rfl (fun E C hRm r => w_M_SpillQueueModel_readSuper X ad a1 s Q h E C hRm r)
def rm_M_SpillQueueModel_size0 : Room := { frames := 0, cells := 0, slots := 0, locals := 0 }
def wl_M_SpillQueueModel_size0_7 (Q : Int32 → gS → Prop) (K : Int32 → Int32 → gS → Prop) : Nat → Int32 → Int32 → gS → Prop
  | 0, _, _, _ => False
  | n + 1, x1, x2, s => (((s.1 12) ≤ x2 → K x1 x2 s) ∧ (¬ (s.1 12) ≤ x2 → vp_in x2 16 ∧ (∀ v4 : Int32, v4 = x1 + (s.2 4 x2.toNatClampNeg) → ∀ v5 : Int32, v5 = x2 + 1 → wl_M_SpillQueueModel_size0_7 Q K n v4 v5 s)))
set_option maxHeartbeats 4000000 in
set_option maxRecDepth 100000 in
theorem w_M_SpillQueueModel_size0_7 (X : gX) (ad : Nat → Nat) (Q : Int32 → gS → Prop) (K : Int32 → Int32 → gS → Prop) (E : gE) (C : gC X E b_MO_size0 3 R_MO) (hRm : gRm E = rm_M_SpillQueueModel_size0) (r : gR X E b_MO_size0 (some .int) (gBi (wM ad X) Q)) (hK : ∀ (x1 : Int32) (x2 : Int32) (s : gS), K x1 x2 s → gW X E 0 0 (wM ad X s) [(0, .ref (ad 0)), (1, .int x1), (2, .int x2)] 30 []) : ∀ (n : Nat) (x1 : Int32) (x2 : Int32) (s : gS), wl_M_SpillQueueModel_size0_7 Q K n x1 x2 s → gW X E 0 0 (wM ad X s) [(0, .ref (ad 0)), (1, .int x1), (2, .int x2)] 7 [] := by
  intro n
  induction n with
  | zero => intro x1 x2 s h; exact False.elim h
  | succ n ih =>
    intro x1 x2 s h
    have h : (((s.1 12) ≤ x2 → K x1 x2 s) ∧ (¬ (s.1 12) ≤ x2 → vp_in x2 16 ∧ (∀ v4 : Int32, v4 = x1 + (s.2 4 x2.toNatClampNeg) → ∀ v5 : Int32, v5 = x2 + 1 → wl_M_SpillQueueModel_size0_7 Q K n v4 v5 s))) := h
    refine g_iload_n C d_MO_size0_7 rfl 2 rfl ?_
    refine g_aload_n C d_MO_size0_8 rfl 0 rfl ?_
    refine g_get C (v := .int (s.1 12)) 0 14 iw_MO rfl rfl (by decide) (gt 745 (by decide +kernel) rfl) rfl rfl d_MO_size0_9 ?_
    refine g_icmp_ge C 30 d_MO_size0_12 (by decide) (fun c2 => ?_) (fun c2 => ?_)
    · have h := h.1 c2
      exact hK x1 x2 s h
    · have h := h.2 c2
      refine g_iload_n C d_MO_size0_15 rfl 1 rfl ?_
      refine g_aload_n C d_MO_size0_16 rfl 0 rfl ?_
      refine g_get C (v := .ref (ad 5)) 0 17 iw_MO rfl rfl (by decide) (gt 748 (by decide +kernel) rfl) rfl rfl d_MO_size0_17 ?_
      refine g_iload_n C d_MO_size0_20 rfl 2 rfl ?_
      obtain ⟨i3, h⟩ := h
      refine g_iald C 5 0 rfl rfl i3 d_MO_size0_21 ?_
      refine g_iadd C d_MO_size0_22 ?_
      refine g_topi (fun v4 e_v4 => ?_)
      have h := h v4 e_v4
      refine g_istore_n C (lv2 := [(0, .ref (ad 0)), (1, .int v4), (2, .int x2)]) d_MO_size0_23 rfl (by decide) rfl ?_
      obtain ⟨v5, e_v5⟩ : ∃ y : Int32, y = x2 + 1 := ⟨_, rfl⟩
      have h := h v5 e_v5
      refine g_iinc C (v := v5) (lv2 := [(0, .ref (ad 0)), (1, .int v4), (2, .int v5)]) d_MO_size0_24 2 rfl (by rw [e_v5]; rfl) (by decide) rfl ?_
      refine g_goto C 7 d_MO_size0_27 (by decide) ?_
      exact ih v4 v5 s h
def wp_M_SpillQueueModel_size0 (s : gS) (Q : Int32 → gS → Prop) : Prop := ∀ v1 : Int32, v1 = s.1 10 → ∃ n6 : Nat, wl_M_SpillQueueModel_size0_7 Q (fun v8 v9 s7 => Q v8 s7)  n6 v1 0 s
set_option maxHeartbeats 4000000 in
set_option maxRecDepth 100000 in
theorem w_M_SpillQueueModel_size0 (X : gX) (ad : Nat → Nat) (s : gS) (Q : Int32 → gS → Prop) (h : wp_M_SpillQueueModel_size0  s Q) (E : gE) (C : gC X E b_MO_size0 3 R_MO) (hRm : gRm E = rm_M_SpillQueueModel_size0) (r : gR X E b_MO_size0 (some .int) (gBi (wM ad X) Q)) : gW X E 0 0 (wM ad X s) [(0, .ref (ad 0))] 0 [] := by
  have h : ∀ v1 : Int32, v1 = s.1 10 → ∃ n6 : Nat, wl_M_SpillQueueModel_size0_7 Q (fun v8 v9 s7 => Q v8 s7)  n6 v1 0 s := h
  refine g_aload_n C d_MO_size0_0 rfl 0 rfl ?_
  refine g_get C (v := .int (s.1 10)) 0 11 iw_MO rfl rfl (by decide) (gt 742 (by decide +kernel) rfl) rfl rfl d_MO_size0_1 ?_
  refine g_topi (fun v1 e_v1 => ?_)
  have h := h v1 e_v1
  refine g_istore_n C (lv2 := [(0, .ref (ad 0)), (1, .int v1)]) d_MO_size0_4 rfl (by decide) rfl ?_
  refine g_iconst C 0 d_MO_size0_5 (by decide) ?_
  refine g_istore_n C (lv2 := [(0, .ref (ad 0)), (1, .int v1), (2, .int 0)]) d_MO_size0_6 rfl (by decide) rfl ?_
  obtain ⟨n6, h⟩ := h
  refine w_M_SpillQueueModel_size0_7 X ad Q (_)  E C hRm r ?_ n6 v1 0 s h
  intro v8 v9 s7 h
  refine g_iload_n C d_MO_size0_30 rfl 1 rfl ?_
  exact g_iret r rfl d_MO_size0_31 (gBi_mk h)
theorem m_M_SpillQueueModel_size0 (X : gX) (ad : Nat → Nat) (s : gS) (Q : Int32 → gS → Prop) (h : wp_M_SpillQueueModel_size0  s Q) (l : Launch) : gM l X y_MO_size0 b_MO_size0 3 (some .int) rm_M_SpillQueueModel_size0 [.ref (ad 0)] (wM ad X s) (gBi (wM ad X) Q) :=
  gM_of (by decide +kernel) rfl (Nat.le_of_ble_eq_true rfl) rfl (fun E C hRm r => w_M_SpillQueueModel_size0 X ad  s Q h E C hRm r)
def rm_M_SpillQueueModel_recover : Room := { frames := 4, cells := 0, slots := 0, locals := 99 }
def wl_M_SpillQueueModel_recover_130 (Q : Int32 → gS → Prop) (K : Int32 → gS → Prop) (x1 : Int32) (x2 : Int32) (x3 : Int32) : Nat → Int32 → gS → Prop
  | 0, _, _ => False
  | n + 1, x4, s => ((200 ≤ x4 → K x4 s) ∧ (¬ 200 ≤ x4 → vp_in x4 200 ∧ (∀ v18 : Int32, v18 = s.2 7 x4.toNatClampNeg → vp_in x4 200 ∧ (∀ v20 : Int32, v20 = x4 + 1 → wl_M_SpillQueueModel_recover_130 Q K x1 x2 x3 n v20 (s.1, ua s.2 6 (upd (s.2 6) x4.toNatClampNeg (vp_nar .boolean v18)))))))
set_option maxHeartbeats 4000000 in
set_option maxRecDepth 100000 in
theorem w_M_SpillQueueModel_recover_130 (X : gX) (ad : Nat → Nat) (Q : Int32 → gS → Prop) (K : Int32 → gS → Prop) (x1 : Int32) (x2 : Int32) (x3 : Int32) (E : gE) (C : gC X E b_MO_recover 5 R_MO) (hRm : gRm E = rm_M_SpillQueueModel_recover) (r : gR X E b_MO_recover (some .int) (gBi (wM ad X) Q)) (hK : ∀ (x4 : Int32) (s : gS), K x4 s → gW X E 0 0 (wM ad X s) [(0, .ref (ad 0)), (1, .int x1), (2, .int x2), (3, .int x3), (4, .int x4)] 158 []) : ∀ (n : Nat) (x4 : Int32) (s : gS), wl_M_SpillQueueModel_recover_130 Q K x1 x2 x3 n x4 s → gW X E 0 0 (wM ad X s) [(0, .ref (ad 0)), (1, .int x1), (2, .int x2), (3, .int x3), (4, .int x4)] 130 [] := by
  intro n
  induction n with
  | zero => intro x4 s h; exact False.elim h
  | succ n ih =>
    intro x4 s h
    have h : ((200 ≤ x4 → K x4 s) ∧ (¬ 200 ≤ x4 → vp_in x4 200 ∧ (∀ v18 : Int32, v18 = s.2 7 x4.toNatClampNeg → vp_in x4 200 ∧ (∀ v20 : Int32, v20 = x4 + 1 → wl_M_SpillQueueModel_recover_130 Q K x1 x2 x3 n v20 (s.1, ua s.2 6 (upd (s.2 6) x4.toNatClampNeg (vp_nar .boolean v18))))))) := h
    refine g_iload C d_MO_recover_130 4 rfl ?_
    refine g_sipush C 200 d_MO_recover_132 (by decide) ?_
    refine g_icmp_ge C 158 d_MO_recover_135 (by decide) (fun c16 => ?_) (fun c16 => ?_)
    · have h := h.1 c16
      exact hK x4 s h
    · have h := h.2 c16
      refine g_aload_n C d_MO_recover_138 rfl 0 rfl ?_
      refine g_get C (v := .ref (ad 7)) 0 19 iw_MO rfl rfl (by decide) (gt 750 (by decide +kernel) rfl) rfl rfl d_MO_recover_139 ?_
      refine g_iload C d_MO_recover_142 4 rfl ?_
      refine g_aload_n C d_MO_recover_144 rfl 0 rfl ?_
      refine g_get C (v := .ref (ad 8)) 0 20 iw_MO rfl rfl (by decide) (gt 751 (by decide +kernel) rfl) rfl rfl d_MO_recover_145 ?_
      refine g_iload C d_MO_recover_148 4 rfl ?_
      obtain ⟨i17, h⟩ := h
      refine g_zald C 8 1 rfl rfl i17 d_MO_recover_150 ?_
      refine g_topi (fun v18 e_v18 => ?_)
      have h := h v18 e_v18
      obtain ⟨i19, h⟩ := h
      refine g_zast C 7 1 (ws2 := wM ad X (s.1, ua s.2 6 (upd (s.2 6) x4.toNatClampNeg (vp_nar .boolean v18)))) rfl rfl i19 rfl d_MO_recover_151 ?_
      obtain ⟨v20, e_v20⟩ : ∃ y : Int32, y = x4 + 1 := ⟨_, rfl⟩
      have h := h v20 e_v20
      refine g_iinc C (v := v20) (lv2 := [(0, .ref (ad 0)), (1, .int x1), (2, .int x2), (3, .int x3), (4, .int v20)]) d_MO_recover_152 4 rfl (by rw [e_v20]; rfl) (by decide) rfl ?_
      refine g_goto C 130 d_MO_recover_155 (by decide) ?_
      exact ih v20 (s.1, ua s.2 6 (upd (s.2 6) x4.toNatClampNeg (vp_nar .boolean v18))) h
def wp_M_SpillQueueModel_recover (s : gS) (Q : Int32 → gS → Prop) : Prop := (((s.1 1) = 0 → Q 0 (up s.1 0 (1), s.2)) ∧ (¬ (s.1 1) = 0 → wp_M_SpillQueueModel_die (up (up (up s.1 0 (0)) 7 (0)) 9 (0), s.2) (fun s2 => wp_M_SpillQueueModel_readSuper 0 s2 (fun r5 s4 => wp_M_SpillQueueModel_readSuper 1 s4 (fun r7 s6 => ((¬ r5 = 0 → ((r5 = 0 → ((r5 = 0 → wp_M_SpillQueueModel_readSuper 1 s6 (fun r12 s11 => (narrow .boolean (.int r12) = .int r12 ∧ fits .boolean (.int r12) = true) ∧ (wp_M_SpillQueueModel_at 1 1 (up s11.1 8 (r12), s11.2) (fun r15 s14 => ∃ n21 : Nat, wl_M_SpillQueueModel_recover_130 Q (fun v23 s22 => wp_M_SpillQueueModel_size0 s22 (fun r25 s24 => Q r25 s24)) r5 r7 1 n21 0 (up s14.1 11 (r15), s14.2))))) ∧ (¬ r5 = 0 → wp_M_SpillQueueModel_readSuper 0 s6 (fun r27 s26 => (narrow .boolean (.int r27) = .int r27 ∧ fits .boolean (.int r27) = true) ∧ (wp_M_SpillQueueModel_at 0 1 (up s26.1 8 (r27), s26.2) (fun r30 s29 => ∃ n31 : Nat, wl_M_SpillQueueModel_recover_130 Q (fun v33 s32 => wp_M_SpillQueueModel_size0 s32 (fun r35 s34 => Q r35 s34)) r5 r7 0 n31 0 (up s29.1 11 (r30), s29.2))))))) ∧ (¬ r5 = 0 → ((r7 = 0 → ((r5 = 0 → wp_M_SpillQueueModel_readSuper 1 s6 (fun r39 s38 => (narrow .boolean (.int r39) = .int r39 ∧ fits .boolean (.int r39) = true) ∧ (wp_M_SpillQueueModel_at 1 1 (up s38.1 8 (r39), s38.2) (fun r42 s41 => ∃ n43 : Nat, wl_M_SpillQueueModel_recover_130 Q (fun v45 s44 => wp_M_SpillQueueModel_size0 s44 (fun r47 s46 => Q r47 s46)) r5 r7 1 n43 0 (up s41.1 11 (r42), s41.2))))) ∧ (¬ r5 = 0 → wp_M_SpillQueueModel_readSuper 0 s6 (fun r49 s48 => (narrow .boolean (.int r49) = .int r49 ∧ fits .boolean (.int r49) = true) ∧ (wp_M_SpillQueueModel_at 0 1 (up s48.1 8 (r49), s48.2) (fun r52 s51 => ∃ n53 : Nat, wl_M_SpillQueueModel_recover_130 Q (fun v55 s54 => wp_M_SpillQueueModel_size0 s54 (fun r57 s56 => Q r57 s56)) r5 r7 0 n53 0 (up s51.1 11 (r52), s51.2))))))) ∧ (¬ r7 = 0 → wp_M_SpillQueueModel_at 0 1 s6 (fun r59 s58 => wp_M_SpillQueueModel_at 1 1 s58 (fun r61 s60 => ((r59 ≤ r61 → wp_M_SpillQueueModel_readSuper 1 s60 (fun r64 s63 => (narrow .boolean (.int r64) = .int r64 ∧ fits .boolean (.int r64) = true) ∧ (wp_M_SpillQueueModel_at 1 1 (up s63.1 8 (r64), s63.2) (fun r67 s66 => ∃ n68 : Nat, wl_M_SpillQueueModel_recover_130 Q (fun v70 s69 => wp_M_SpillQueueModel_size0 s69 (fun r72 s71 => Q r72 s71)) r5 r7 1 n68 0 (up s66.1 11 (r67), s66.2))))) ∧ (¬ r59 ≤ r61 → wp_M_SpillQueueModel_readSuper 0 s60 (fun r74 s73 => (narrow .boolean (.int r74) = .int r74 ∧ fits .boolean (.int r74) = true) ∧ (wp_M_SpillQueueModel_at 0 1 (up s73.1 8 (r74), s73.2) (fun r77 s76 => ∃ n78 : Nat, wl_M_SpillQueueModel_recover_130 Q (fun v80 s79 => wp_M_SpillQueueModel_size0 s79 (fun r82 s81 => Q r82 s81)) r5 r7 0 n78 0 (up s76.1 11 (r77), s76.2))))))))))))) ∧ (r5 = 0 → ((¬ r7 = 0 → ((r5 = 0 → ((r5 = 0 → wp_M_SpillQueueModel_readSuper 1 s6 (fun r87 s86 => (narrow .boolean (.int r87) = .int r87 ∧ fits .boolean (.int r87) = true) ∧ (wp_M_SpillQueueModel_at 1 1 (up s86.1 8 (r87), s86.2) (fun r90 s89 => ∃ n91 : Nat, wl_M_SpillQueueModel_recover_130 Q (fun v93 s92 => wp_M_SpillQueueModel_size0 s92 (fun r95 s94 => Q r95 s94)) r5 r7 1 n91 0 (up s89.1 11 (r90), s89.2))))) ∧ (¬ r5 = 0 → wp_M_SpillQueueModel_readSuper 0 s6 (fun r97 s96 => (narrow .boolean (.int r97) = .int r97 ∧ fits .boolean (.int r97) = true) ∧ (wp_M_SpillQueueModel_at 0 1 (up s96.1 8 (r97), s96.2) (fun r100 s99 => ∃ n101 : Nat, wl_M_SpillQueueModel_recover_130 Q (fun v103 s102 => wp_M_SpillQueueModel_size0 s102 (fun r105 s104 => Q r105 s104)) r5 r7 0 n101 0 (up s99.1 11 (r100), s99.2))))))) ∧ (¬ r5 = 0 → ((r7 = 0 → ((r5 = 0 → wp_M_SpillQueueModel_readSuper 1 s6 (fun r109 s108 => (narrow .boolean (.int r109) = .int r109 ∧ fits .boolean (.int r109) = true) ∧ (wp_M_SpillQueueModel_at 1 1 (up s108.1 8 (r109), s108.2) (fun r112 s111 => ∃ n113 : Nat, wl_M_SpillQueueModel_recover_130 Q (fun v115 s114 => wp_M_SpillQueueModel_size0 s114 (fun r117 s116 => Q r117 s116)) r5 r7 1 n113 0 (up s111.1 11 (r112), s111.2))))) ∧ (¬ r5 = 0 → wp_M_SpillQueueModel_readSuper 0 s6 (fun r119 s118 => (narrow .boolean (.int r119) = .int r119 ∧ fits .boolean (.int r119) = true) ∧ (wp_M_SpillQueueModel_at 0 1 (up s118.1 8 (r119), s118.2) (fun r122 s121 => ∃ n123 : Nat, wl_M_SpillQueueModel_recover_130 Q (fun v125 s124 => wp_M_SpillQueueModel_size0 s124 (fun r127 s126 => Q r127 s126)) r5 r7 0 n123 0 (up s121.1 11 (r122), s121.2))))))) ∧ (¬ r7 = 0 → wp_M_SpillQueueModel_at 0 1 s6 (fun r129 s128 => wp_M_SpillQueueModel_at 1 1 s128 (fun r131 s130 => ((r129 ≤ r131 → wp_M_SpillQueueModel_readSuper 1 s130 (fun r134 s133 => (narrow .boolean (.int r134) = .int r134 ∧ fits .boolean (.int r134) = true) ∧ (wp_M_SpillQueueModel_at 1 1 (up s133.1 8 (r134), s133.2) (fun r137 s136 => ∃ n138 : Nat, wl_M_SpillQueueModel_recover_130 Q (fun v140 s139 => wp_M_SpillQueueModel_size0 s139 (fun r142 s141 => Q r142 s141)) r5 r7 1 n138 0 (up s136.1 11 (r137), s136.2))))) ∧ (¬ r129 ≤ r131 → wp_M_SpillQueueModel_readSuper 0 s130 (fun r144 s143 => (narrow .boolean (.int r144) = .int r144 ∧ fits .boolean (.int r144) = true) ∧ (wp_M_SpillQueueModel_at 0 1 (up s143.1 8 (r144), s143.2) (fun r147 s146 => ∃ n148 : Nat, wl_M_SpillQueueModel_recover_130 Q (fun v150 s149 => wp_M_SpillQueueModel_size0 s149 (fun r152 s151 => Q r152 s151)) r5 r7 0 n148 0 (up s146.1 11 (r147), s146.2))))))))))))) ∧ (r7 = 0 → Q (-3) (up s6.1 12 (0), s6.2))))))))))
set_option maxHeartbeats 4000000 in
set_option maxRecDepth 100000 in
theorem w_M_SpillQueueModel_recover (X : gX) (ad : Nat → Nat) (s : gS) (Q : Int32 → gS → Prop) (h : wp_M_SpillQueueModel_recover  s Q) (E : gE) (C : gC X E b_MO_recover 5 R_MO) (hRm : gRm E = rm_M_SpillQueueModel_recover) (r : gR X E b_MO_recover (some .int) (gBi (wM ad X) Q)) : gW X E 0 0 (wM ad X s) [(0, .ref (ad 0))] 0 [] := by
  have h : (((s.1 1) = 0 → Q 0 (up s.1 0 (1), s.2)) ∧ (¬ (s.1 1) = 0 → wp_M_SpillQueueModel_die (up (up (up s.1 0 (0)) 7 (0)) 9 (0), s.2) (fun s2 => wp_M_SpillQueueModel_readSuper 0 s2 (fun r5 s4 => wp_M_SpillQueueModel_readSuper 1 s4 (fun r7 s6 => ((¬ r5 = 0 → ((r5 = 0 → ((r5 = 0 → wp_M_SpillQueueModel_readSuper 1 s6 (fun r12 s11 => (narrow .boolean (.int r12) = .int r12 ∧ fits .boolean (.int r12) = true) ∧ (wp_M_SpillQueueModel_at 1 1 (up s11.1 8 (r12), s11.2) (fun r15 s14 => ∃ n21 : Nat, wl_M_SpillQueueModel_recover_130 Q (fun v23 s22 => wp_M_SpillQueueModel_size0 s22 (fun r25 s24 => Q r25 s24)) r5 r7 1 n21 0 (up s14.1 11 (r15), s14.2))))) ∧ (¬ r5 = 0 → wp_M_SpillQueueModel_readSuper 0 s6 (fun r27 s26 => (narrow .boolean (.int r27) = .int r27 ∧ fits .boolean (.int r27) = true) ∧ (wp_M_SpillQueueModel_at 0 1 (up s26.1 8 (r27), s26.2) (fun r30 s29 => ∃ n31 : Nat, wl_M_SpillQueueModel_recover_130 Q (fun v33 s32 => wp_M_SpillQueueModel_size0 s32 (fun r35 s34 => Q r35 s34)) r5 r7 0 n31 0 (up s29.1 11 (r30), s29.2))))))) ∧ (¬ r5 = 0 → ((r7 = 0 → ((r5 = 0 → wp_M_SpillQueueModel_readSuper 1 s6 (fun r39 s38 => (narrow .boolean (.int r39) = .int r39 ∧ fits .boolean (.int r39) = true) ∧ (wp_M_SpillQueueModel_at 1 1 (up s38.1 8 (r39), s38.2) (fun r42 s41 => ∃ n43 : Nat, wl_M_SpillQueueModel_recover_130 Q (fun v45 s44 => wp_M_SpillQueueModel_size0 s44 (fun r47 s46 => Q r47 s46)) r5 r7 1 n43 0 (up s41.1 11 (r42), s41.2))))) ∧ (¬ r5 = 0 → wp_M_SpillQueueModel_readSuper 0 s6 (fun r49 s48 => (narrow .boolean (.int r49) = .int r49 ∧ fits .boolean (.int r49) = true) ∧ (wp_M_SpillQueueModel_at 0 1 (up s48.1 8 (r49), s48.2) (fun r52 s51 => ∃ n53 : Nat, wl_M_SpillQueueModel_recover_130 Q (fun v55 s54 => wp_M_SpillQueueModel_size0 s54 (fun r57 s56 => Q r57 s56)) r5 r7 0 n53 0 (up s51.1 11 (r52), s51.2))))))) ∧ (¬ r7 = 0 → wp_M_SpillQueueModel_at 0 1 s6 (fun r59 s58 => wp_M_SpillQueueModel_at 1 1 s58 (fun r61 s60 => ((r59 ≤ r61 → wp_M_SpillQueueModel_readSuper 1 s60 (fun r64 s63 => (narrow .boolean (.int r64) = .int r64 ∧ fits .boolean (.int r64) = true) ∧ (wp_M_SpillQueueModel_at 1 1 (up s63.1 8 (r64), s63.2) (fun r67 s66 => ∃ n68 : Nat, wl_M_SpillQueueModel_recover_130 Q (fun v70 s69 => wp_M_SpillQueueModel_size0 s69 (fun r72 s71 => Q r72 s71)) r5 r7 1 n68 0 (up s66.1 11 (r67), s66.2))))) ∧ (¬ r59 ≤ r61 → wp_M_SpillQueueModel_readSuper 0 s60 (fun r74 s73 => (narrow .boolean (.int r74) = .int r74 ∧ fits .boolean (.int r74) = true) ∧ (wp_M_SpillQueueModel_at 0 1 (up s73.1 8 (r74), s73.2) (fun r77 s76 => ∃ n78 : Nat, wl_M_SpillQueueModel_recover_130 Q (fun v80 s79 => wp_M_SpillQueueModel_size0 s79 (fun r82 s81 => Q r82 s81)) r5 r7 0 n78 0 (up s76.1 11 (r77), s76.2))))))))))))) ∧ (r5 = 0 → ((¬ r7 = 0 → ((r5 = 0 → ((r5 = 0 → wp_M_SpillQueueModel_readSuper 1 s6 (fun r87 s86 => (narrow .boolean (.int r87) = .int r87 ∧ fits .boolean (.int r87) = true) ∧ (wp_M_SpillQueueModel_at 1 1 (up s86.1 8 (r87), s86.2) (fun r90 s89 => ∃ n91 : Nat, wl_M_SpillQueueModel_recover_130 Q (fun v93 s92 => wp_M_SpillQueueModel_size0 s92 (fun r95 s94 => Q r95 s94)) r5 r7 1 n91 0 (up s89.1 11 (r90), s89.2))))) ∧ (¬ r5 = 0 → wp_M_SpillQueueModel_readSuper 0 s6 (fun r97 s96 => (narrow .boolean (.int r97) = .int r97 ∧ fits .boolean (.int r97) = true) ∧ (wp_M_SpillQueueModel_at 0 1 (up s96.1 8 (r97), s96.2) (fun r100 s99 => ∃ n101 : Nat, wl_M_SpillQueueModel_recover_130 Q (fun v103 s102 => wp_M_SpillQueueModel_size0 s102 (fun r105 s104 => Q r105 s104)) r5 r7 0 n101 0 (up s99.1 11 (r100), s99.2))))))) ∧ (¬ r5 = 0 → ((r7 = 0 → ((r5 = 0 → wp_M_SpillQueueModel_readSuper 1 s6 (fun r109 s108 => (narrow .boolean (.int r109) = .int r109 ∧ fits .boolean (.int r109) = true) ∧ (wp_M_SpillQueueModel_at 1 1 (up s108.1 8 (r109), s108.2) (fun r112 s111 => ∃ n113 : Nat, wl_M_SpillQueueModel_recover_130 Q (fun v115 s114 => wp_M_SpillQueueModel_size0 s114 (fun r117 s116 => Q r117 s116)) r5 r7 1 n113 0 (up s111.1 11 (r112), s111.2))))) ∧ (¬ r5 = 0 → wp_M_SpillQueueModel_readSuper 0 s6 (fun r119 s118 => (narrow .boolean (.int r119) = .int r119 ∧ fits .boolean (.int r119) = true) ∧ (wp_M_SpillQueueModel_at 0 1 (up s118.1 8 (r119), s118.2) (fun r122 s121 => ∃ n123 : Nat, wl_M_SpillQueueModel_recover_130 Q (fun v125 s124 => wp_M_SpillQueueModel_size0 s124 (fun r127 s126 => Q r127 s126)) r5 r7 0 n123 0 (up s121.1 11 (r122), s121.2))))))) ∧ (¬ r7 = 0 → wp_M_SpillQueueModel_at 0 1 s6 (fun r129 s128 => wp_M_SpillQueueModel_at 1 1 s128 (fun r131 s130 => ((r129 ≤ r131 → wp_M_SpillQueueModel_readSuper 1 s130 (fun r134 s133 => (narrow .boolean (.int r134) = .int r134 ∧ fits .boolean (.int r134) = true) ∧ (wp_M_SpillQueueModel_at 1 1 (up s133.1 8 (r134), s133.2) (fun r137 s136 => ∃ n138 : Nat, wl_M_SpillQueueModel_recover_130 Q (fun v140 s139 => wp_M_SpillQueueModel_size0 s139 (fun r142 s141 => Q r142 s141)) r5 r7 1 n138 0 (up s136.1 11 (r137), s136.2))))) ∧ (¬ r129 ≤ r131 → wp_M_SpillQueueModel_readSuper 0 s130 (fun r144 s143 => (narrow .boolean (.int r144) = .int r144 ∧ fits .boolean (.int r144) = true) ∧ (wp_M_SpillQueueModel_at 0 1 (up s143.1 8 (r144), s143.2) (fun r147 s146 => ∃ n148 : Nat, wl_M_SpillQueueModel_recover_130 Q (fun v150 s149 => wp_M_SpillQueueModel_size0 s149 (fun r152 s151 => Q r152 s151)) r5 r7 0 n148 0 (up s146.1 11 (r147), s146.2))))))))))))) ∧ (r7 = 0 → Q (-3) (up s6.1 12 (0), s6.2)))))))))) := h
  refine g_aload_n C d_MO_recover_0 rfl 0 rfl ?_
  refine g_aload_n C d_MO_recover_1 rfl 0 rfl ?_
  refine g_get C (v := .int (s.1 1)) 0 1 iw_MO rfl rfl (by decide) (gt 732 (by decide +kernel) rfl) rfl rfl d_MO_recover_2 ?_
  refine g_if_eq C 12 d_MO_recover_5 (by decide) (fun c1 => ?_) (fun c1 => ?_)
  · have h := h.1 c1
    refine g_iconst C 1 d_MO_recover_12 (by decide) ?_
    refine g_put C (ws2 := wM ad X (up s.1 0 (1), s.2)) 0 0 iw_MO ty_MO tyok_MO nm_MO rfl rfl (by decide) (gt 731 (by decide +kernel) rfl) rfl rfl rfl rfl (Nat.le_of_ble_eq_true rfl) rfl d_MO_recover_13 ?_
    refine g_aload_n C d_MO_recover_16 rfl 0 rfl ?_
    refine g_get C (v := .int 1) 0 0 iw_MO rfl rfl (by decide) (gt 731 (by decide +kernel) rfl) rfl rfl d_MO_recover_17 ?_
    refine g_if_le C 25 d_MO_recover_20 (by decide) (fun c9 => absurd c9 (by decide)) (fun _ => ?_)
    refine g_iconst C 0 d_MO_recover_23 (by decide) ?_
    exact g_iret r rfl d_MO_recover_24 (gBi_mk h)
  · have h := h.2 c1
    refine g_iconst C 0 d_MO_recover_8 (by decide) ?_
    refine g_goto C 13 d_MO_recover_9 (by decide) ?_
    refine g_put C (ws2 := wM ad X (up s.1 0 (0), s.2)) 0 0 iw_MO ty_MO tyok_MO nm_MO rfl rfl (by decide) (gt 731 (by decide +kernel) rfl) rfl rfl rfl rfl (Nat.le_of_ble_eq_true rfl) rfl d_MO_recover_13 ?_
    refine g_aload_n C d_MO_recover_16 rfl 0 rfl ?_
    refine g_get C (v := .int 0) 0 0 iw_MO rfl rfl (by decide) (gt 731 (by decide +kernel) rfl) rfl rfl d_MO_recover_17 ?_
    refine g_if_le C 25 d_MO_recover_20 (by decide) (fun _ => ?_) (fun c9 => absurd c9 (by decide))
    refine g_aload_n C d_MO_recover_25 rfl 0 rfl ?_
    refine g_iconst C 0 d_MO_recover_26 (by decide) ?_
    refine g_put C (ws2 := wM ad X (up (up s.1 0 (0)) 7 (0), s.2)) 0 8 iw_MO ty_MO tyok_MO nm_MO rfl rfl (by decide) (gt 739 (by decide +kernel) rfl) rfl rfl rfl rfl (Nat.le_of_ble_eq_true rfl) rfl d_MO_recover_27 ?_
    refine g_aload_n C d_MO_recover_30 rfl 0 rfl ?_
    refine g_iconst C 0 d_MO_recover_31 (by decide) ?_
    refine g_put C (ws2 := wM ad X (up (up (up s.1 0 (0)) 7 (0)) 9 (0), s.2)) 0 10 iw_MO ty_MO tyok_MO nm_MO rfl rfl (by decide) (gt 741 (by decide +kernel) rfl) rfl rfl (by decide +kernel) (by decide +kernel) (Nat.le_of_ble_eq_true rfl) rfl d_MO_recover_32 ?_
    refine g_aload_n C d_MO_recover_35 rfl 0 rfl ?_
    refine g_callV C (rest := []) 0 (fun l => m_M_SpillQueueModel_die X ad  (up (up (up s.1 0 (0)) 7 (0)) 9 (0), s.2) _ h l) rfl rfl (gt 924 (by decide +kernel) rfl) cb_MO_die ⟨rfl, rfl⟩ (by rw [hRm]; decide) ⟨Nat.zero_le _, Nat.zero_le _⟩ rfl rfl (Nat.le_of_ble_eq_true rfl) d_MO_recover_36 (gkv (fun s2 h => ?_))
    refine g_aload_n C d_MO_recover_39 rfl 0 rfl ?_
    refine g_iconst C 0 d_MO_recover_40 (by decide) ?_
    refine g_callV C (rest := []) 0 (fun l => m_M_SpillQueueModel_readSuper X ad 0 s2 _ h l) rfl rfl (gt 968 (by decide +kernel) rfl) cb_MO_readSuper ⟨rfl, rfl⟩ (by rw [hRm]; decide) ⟨Nat.zero_le _, Nat.zero_le _⟩ rfl rfl (Nat.le_of_ble_eq_true rfl) d_MO_recover_41 (gki (fun r5 s4 h => ?_))
    refine g_istore_n C (lv2 := [(0, .ref (ad 0)), (1, .int r5)]) d_MO_recover_44 rfl (by decide) rfl ?_
    refine g_aload_n C d_MO_recover_45 rfl 0 rfl ?_
    refine g_iconst C 1 d_MO_recover_46 (by decide) ?_
    refine g_callV C (rest := []) 0 (fun l => m_M_SpillQueueModel_readSuper X ad 1 s4 _ h l) rfl rfl (gt 968 (by decide +kernel) rfl) cb_MO_readSuper ⟨rfl, rfl⟩ (by rw [hRm]; decide) ⟨Nat.zero_le _, Nat.zero_le _⟩ rfl rfl (Nat.le_of_ble_eq_true rfl) d_MO_recover_47 (gki (fun r7 s6 h => ?_))
    refine g_istore_n C (lv2 := [(0, .ref (ad 0)), (1, .int r5), (2, .int r7)]) d_MO_recover_50 rfl (by decide) rfl ?_
    refine g_iload_n C d_MO_recover_51 rfl 1 rfl ?_
    refine g_if_ne C 67 d_MO_recover_52 (by decide) (fun c8 => ?_) (fun c8 => ?_)
    · have h := h.1 c8
      refine g_iload_n C d_MO_recover_67 rfl 1 rfl ?_
      refine g_if_eq C 98 d_MO_recover_68 (by decide) (fun c9 => ?_) (fun c9 => ?_)
      · have h := h.1 c9
        refine g_iload_n C d_MO_recover_98 rfl 1 rfl ?_
        refine g_if_eq C 106 d_MO_recover_99 (by decide) (fun c10 => ?_) (fun c10 => ?_)
        · have h := h.1 c10
          refine g_iconst C 1 d_MO_recover_106 (by decide) ?_
          refine g_istore_n C (lv2 := [(0, .ref (ad 0)), (1, .int r5), (2, .int r7), (3, .int 1)]) d_MO_recover_107 rfl (by decide) rfl ?_
          refine g_aload_n C d_MO_recover_108 rfl 0 rfl ?_
          refine g_aload_n C d_MO_recover_109 rfl 0 rfl ?_
          refine g_iload_n C d_MO_recover_110 rfl 3 rfl ?_
          refine g_callV C (rest := [.ref (ad 0)]) 0 (fun l => m_M_SpillQueueModel_readSuper X ad 1 s6 _ h l) rfl rfl (gt 968 (by decide +kernel) rfl) cb_MO_readSuper ⟨rfl, rfl⟩ (by rw [hRm]; decide) ⟨Nat.zero_le _, Nat.zero_le _⟩ rfl rfl (Nat.le_of_ble_eq_true rfl) d_MO_recover_111 (gki (fun r12 s11 h => ?_))
          obtain ⟨b13, h⟩ := h
          refine g_put C (ws2 := wM ad X (up s11.1 8 (r12), s11.2)) 0 9 iw_MO ty_MO tyok_MO nm_MO rfl rfl (by decide) (gt 740 (by decide +kernel) rfl) rfl rfl b13.1 b13.2 (Nat.le_of_ble_eq_true rfl) rfl d_MO_recover_114 ?_
          refine g_aload_n C d_MO_recover_117 rfl 0 rfl ?_
          refine g_aload_n C d_MO_recover_118 rfl 0 rfl ?_
          refine g_iload_n C d_MO_recover_119 rfl 3 rfl ?_
          refine g_iconst C 1 d_MO_recover_120 (by decide) ?_
          refine g_callV C (rest := [.ref (ad 0)]) 0 (fun l => m_M_SpillQueueModel_at X ad 1 1 (up s11.1 8 (r12), s11.2) _ h l) rfl rfl (gt 840 (by decide +kernel) rfl) cb_MO_at ⟨rfl, rfl⟩ (by rw [hRm]; decide) ⟨Nat.zero_le _, Nat.zero_le _⟩ rfl rfl (Nat.le_of_ble_eq_true rfl) d_MO_recover_121 (gki (fun r15 s14 h => ?_))
          refine g_put C (ws2 := wM ad X (up s14.1 11 (r15), s14.2)) 0 13 iw_MO ty_MO tyok_MO nm_MO rfl rfl (by decide) (gt 744 (by decide +kernel) rfl) rfl rfl rfl rfl (Nat.le_of_ble_eq_true rfl) rfl d_MO_recover_124 ?_
          refine g_iconst C 0 d_MO_recover_127 (by decide) ?_
          refine g_istore C (lv2 := [(0, .ref (ad 0)), (1, .int r5), (2, .int r7), (3, .int 1), (4, .int 0)]) d_MO_recover_128 (by decide) rfl ?_
          obtain ⟨n21, h⟩ := h
          refine w_M_SpillQueueModel_recover_130 X ad Q (_) r5 r7 1 E C hRm r ?_ n21 0 (up s14.1 11 (r15), s14.2) h
          intro v23 s22 h
          refine g_aload_n C d_MO_recover_158 rfl 0 rfl ?_
          refine g_callV C (rest := []) 0 (fun l => m_M_SpillQueueModel_size0 X ad  s22 _ h l) rfl rfl (gt 976 (by decide +kernel) rfl) cb_MO_size0 ⟨rfl, rfl⟩ (by rw [hRm]; decide) ⟨Nat.zero_le _, Nat.zero_le _⟩ rfl rfl (Nat.le_of_ble_eq_true rfl) d_MO_recover_159 (gki (fun r25 s24 h => ?_))
          exact g_iret r rfl d_MO_recover_162 (gBi_mk h)
        · have h := h.2 c10
          refine g_iconst C 0 d_MO_recover_102 (by decide) ?_
          refine g_goto C 107 d_MO_recover_103 (by decide) ?_
          refine g_istore_n C (lv2 := [(0, .ref (ad 0)), (1, .int r5), (2, .int r7), (3, .int 0)]) d_MO_recover_107 rfl (by decide) rfl ?_
          refine g_aload_n C d_MO_recover_108 rfl 0 rfl ?_
          refine g_aload_n C d_MO_recover_109 rfl 0 rfl ?_
          refine g_iload_n C d_MO_recover_110 rfl 3 rfl ?_
          refine g_callV C (rest := [.ref (ad 0)]) 0 (fun l => m_M_SpillQueueModel_readSuper X ad 0 s6 _ h l) rfl rfl (gt 968 (by decide +kernel) rfl) cb_MO_readSuper ⟨rfl, rfl⟩ (by rw [hRm]; decide) ⟨Nat.zero_le _, Nat.zero_le _⟩ rfl rfl (Nat.le_of_ble_eq_true rfl) d_MO_recover_111 (gki (fun r27 s26 h => ?_))
          obtain ⟨b28, h⟩ := h
          refine g_put C (ws2 := wM ad X (up s26.1 8 (r27), s26.2)) 0 9 iw_MO ty_MO tyok_MO nm_MO rfl rfl (by decide) (gt 740 (by decide +kernel) rfl) rfl rfl b28.1 b28.2 (Nat.le_of_ble_eq_true rfl) rfl d_MO_recover_114 ?_
          refine g_aload_n C d_MO_recover_117 rfl 0 rfl ?_
          refine g_aload_n C d_MO_recover_118 rfl 0 rfl ?_
          refine g_iload_n C d_MO_recover_119 rfl 3 rfl ?_
          refine g_iconst C 1 d_MO_recover_120 (by decide) ?_
          refine g_callV C (rest := [.ref (ad 0)]) 0 (fun l => m_M_SpillQueueModel_at X ad 0 1 (up s26.1 8 (r27), s26.2) _ h l) rfl rfl (gt 840 (by decide +kernel) rfl) cb_MO_at ⟨rfl, rfl⟩ (by rw [hRm]; decide) ⟨Nat.zero_le _, Nat.zero_le _⟩ rfl rfl (Nat.le_of_ble_eq_true rfl) d_MO_recover_121 (gki (fun r30 s29 h => ?_))
          refine g_put C (ws2 := wM ad X (up s29.1 11 (r30), s29.2)) 0 13 iw_MO ty_MO tyok_MO nm_MO rfl rfl (by decide) (gt 744 (by decide +kernel) rfl) rfl rfl rfl rfl (Nat.le_of_ble_eq_true rfl) rfl d_MO_recover_124 ?_
          refine g_iconst C 0 d_MO_recover_127 (by decide) ?_
          refine g_istore C (lv2 := [(0, .ref (ad 0)), (1, .int r5), (2, .int r7), (3, .int 0), (4, .int 0)]) d_MO_recover_128 (by decide) rfl ?_
          obtain ⟨n31, h⟩ := h
          refine w_M_SpillQueueModel_recover_130 X ad Q (_) r5 r7 0 E C hRm r ?_ n31 0 (up s29.1 11 (r30), s29.2) h
          intro v33 s32 h
          refine g_aload_n C d_MO_recover_158 rfl 0 rfl ?_
          refine g_callV C (rest := []) 0 (fun l => m_M_SpillQueueModel_size0 X ad  s32 _ h l) rfl rfl (gt 976 (by decide +kernel) rfl) cb_MO_size0 ⟨rfl, rfl⟩ (by rw [hRm]; decide) ⟨Nat.zero_le _, Nat.zero_le _⟩ rfl rfl (Nat.le_of_ble_eq_true rfl) d_MO_recover_159 (gki (fun r35 s34 h => ?_))
          exact g_iret r rfl d_MO_recover_162 (gBi_mk h)
      · have h := h.2 c9
        refine g_iload_n C d_MO_recover_71 rfl 2 rfl ?_
        refine g_if_eq C 98 d_MO_recover_72 (by decide) (fun c36 => ?_) (fun c36 => ?_)
        · have h := h.1 c36
          refine g_iload_n C d_MO_recover_98 rfl 1 rfl ?_
          refine g_if_eq C 106 d_MO_recover_99 (by decide) (fun c37 => ?_) (fun c37 => ?_)
          · have h := h.1 c37
            refine g_iconst C 1 d_MO_recover_106 (by decide) ?_
            refine g_istore_n C (lv2 := [(0, .ref (ad 0)), (1, .int r5), (2, .int r7), (3, .int 1)]) d_MO_recover_107 rfl (by decide) rfl ?_
            refine g_aload_n C d_MO_recover_108 rfl 0 rfl ?_
            refine g_aload_n C d_MO_recover_109 rfl 0 rfl ?_
            refine g_iload_n C d_MO_recover_110 rfl 3 rfl ?_
            refine g_callV C (rest := [.ref (ad 0)]) 0 (fun l => m_M_SpillQueueModel_readSuper X ad 1 s6 _ h l) rfl rfl (gt 968 (by decide +kernel) rfl) cb_MO_readSuper ⟨rfl, rfl⟩ (by rw [hRm]; decide) ⟨Nat.zero_le _, Nat.zero_le _⟩ rfl rfl (Nat.le_of_ble_eq_true rfl) d_MO_recover_111 (gki (fun r39 s38 h => ?_))
            obtain ⟨b40, h⟩ := h
            refine g_put C (ws2 := wM ad X (up s38.1 8 (r39), s38.2)) 0 9 iw_MO ty_MO tyok_MO nm_MO rfl rfl (by decide) (gt 740 (by decide +kernel) rfl) rfl rfl b40.1 b40.2 (Nat.le_of_ble_eq_true rfl) rfl d_MO_recover_114 ?_
            refine g_aload_n C d_MO_recover_117 rfl 0 rfl ?_
            refine g_aload_n C d_MO_recover_118 rfl 0 rfl ?_
            refine g_iload_n C d_MO_recover_119 rfl 3 rfl ?_
            refine g_iconst C 1 d_MO_recover_120 (by decide) ?_
            refine g_callV C (rest := [.ref (ad 0)]) 0 (fun l => m_M_SpillQueueModel_at X ad 1 1 (up s38.1 8 (r39), s38.2) _ h l) rfl rfl (gt 840 (by decide +kernel) rfl) cb_MO_at ⟨rfl, rfl⟩ (by rw [hRm]; decide) ⟨Nat.zero_le _, Nat.zero_le _⟩ rfl rfl (Nat.le_of_ble_eq_true rfl) d_MO_recover_121 (gki (fun r42 s41 h => ?_))
            refine g_put C (ws2 := wM ad X (up s41.1 11 (r42), s41.2)) 0 13 iw_MO ty_MO tyok_MO nm_MO rfl rfl (by decide) (gt 744 (by decide +kernel) rfl) rfl rfl rfl rfl (Nat.le_of_ble_eq_true rfl) rfl d_MO_recover_124 ?_
            refine g_iconst C 0 d_MO_recover_127 (by decide) ?_
            refine g_istore C (lv2 := [(0, .ref (ad 0)), (1, .int r5), (2, .int r7), (3, .int 1), (4, .int 0)]) d_MO_recover_128 (by decide) rfl ?_
            obtain ⟨n43, h⟩ := h
            refine w_M_SpillQueueModel_recover_130 X ad Q (_) r5 r7 1 E C hRm r ?_ n43 0 (up s41.1 11 (r42), s41.2) h
            intro v45 s44 h
            refine g_aload_n C d_MO_recover_158 rfl 0 rfl ?_
            refine g_callV C (rest := []) 0 (fun l => m_M_SpillQueueModel_size0 X ad  s44 _ h l) rfl rfl (gt 976 (by decide +kernel) rfl) cb_MO_size0 ⟨rfl, rfl⟩ (by rw [hRm]; decide) ⟨Nat.zero_le _, Nat.zero_le _⟩ rfl rfl (Nat.le_of_ble_eq_true rfl) d_MO_recover_159 (gki (fun r47 s46 h => ?_))
            exact g_iret r rfl d_MO_recover_162 (gBi_mk h)
          · have h := h.2 c37
            refine g_iconst C 0 d_MO_recover_102 (by decide) ?_
            refine g_goto C 107 d_MO_recover_103 (by decide) ?_
            refine g_istore_n C (lv2 := [(0, .ref (ad 0)), (1, .int r5), (2, .int r7), (3, .int 0)]) d_MO_recover_107 rfl (by decide) rfl ?_
            refine g_aload_n C d_MO_recover_108 rfl 0 rfl ?_
            refine g_aload_n C d_MO_recover_109 rfl 0 rfl ?_
            refine g_iload_n C d_MO_recover_110 rfl 3 rfl ?_
            refine g_callV C (rest := [.ref (ad 0)]) 0 (fun l => m_M_SpillQueueModel_readSuper X ad 0 s6 _ h l) rfl rfl (gt 968 (by decide +kernel) rfl) cb_MO_readSuper ⟨rfl, rfl⟩ (by rw [hRm]; decide) ⟨Nat.zero_le _, Nat.zero_le _⟩ rfl rfl (Nat.le_of_ble_eq_true rfl) d_MO_recover_111 (gki (fun r49 s48 h => ?_))
            obtain ⟨b50, h⟩ := h
            refine g_put C (ws2 := wM ad X (up s48.1 8 (r49), s48.2)) 0 9 iw_MO ty_MO tyok_MO nm_MO rfl rfl (by decide) (gt 740 (by decide +kernel) rfl) rfl rfl b50.1 b50.2 (Nat.le_of_ble_eq_true rfl) rfl d_MO_recover_114 ?_
            refine g_aload_n C d_MO_recover_117 rfl 0 rfl ?_
            refine g_aload_n C d_MO_recover_118 rfl 0 rfl ?_
            refine g_iload_n C d_MO_recover_119 rfl 3 rfl ?_
            refine g_iconst C 1 d_MO_recover_120 (by decide) ?_
            refine g_callV C (rest := [.ref (ad 0)]) 0 (fun l => m_M_SpillQueueModel_at X ad 0 1 (up s48.1 8 (r49), s48.2) _ h l) rfl rfl (gt 840 (by decide +kernel) rfl) cb_MO_at ⟨rfl, rfl⟩ (by rw [hRm]; decide) ⟨Nat.zero_le _, Nat.zero_le _⟩ rfl rfl (Nat.le_of_ble_eq_true rfl) d_MO_recover_121 (gki (fun r52 s51 h => ?_))
            refine g_put C (ws2 := wM ad X (up s51.1 11 (r52), s51.2)) 0 13 iw_MO ty_MO tyok_MO nm_MO rfl rfl (by decide) (gt 744 (by decide +kernel) rfl) rfl rfl rfl rfl (Nat.le_of_ble_eq_true rfl) rfl d_MO_recover_124 ?_
            refine g_iconst C 0 d_MO_recover_127 (by decide) ?_
            refine g_istore C (lv2 := [(0, .ref (ad 0)), (1, .int r5), (2, .int r7), (3, .int 0), (4, .int 0)]) d_MO_recover_128 (by decide) rfl ?_
            obtain ⟨n53, h⟩ := h
            refine w_M_SpillQueueModel_recover_130 X ad Q (_) r5 r7 0 E C hRm r ?_ n53 0 (up s51.1 11 (r52), s51.2) h
            intro v55 s54 h
            refine g_aload_n C d_MO_recover_158 rfl 0 rfl ?_
            refine g_callV C (rest := []) 0 (fun l => m_M_SpillQueueModel_size0 X ad  s54 _ h l) rfl rfl (gt 976 (by decide +kernel) rfl) cb_MO_size0 ⟨rfl, rfl⟩ (by rw [hRm]; decide) ⟨Nat.zero_le _, Nat.zero_le _⟩ rfl rfl (Nat.le_of_ble_eq_true rfl) d_MO_recover_159 (gki (fun r57 s56 h => ?_))
            exact g_iret r rfl d_MO_recover_162 (gBi_mk h)
        · have h := h.2 c36
          refine g_aload_n C d_MO_recover_75 rfl 0 rfl ?_
          refine g_iconst C 0 d_MO_recover_76 (by decide) ?_
          refine g_iconst C 1 d_MO_recover_77 (by decide) ?_
          refine g_callV C (rest := []) 0 (fun l => m_M_SpillQueueModel_at X ad 0 1 s6 _ h l) rfl rfl (gt 840 (by decide +kernel) rfl) cb_MO_at ⟨rfl, rfl⟩ (by rw [hRm]; decide) ⟨Nat.zero_le _, Nat.zero_le _⟩ rfl rfl (Nat.le_of_ble_eq_true rfl) d_MO_recover_78 (gki (fun r59 s58 h => ?_))
          refine g_aload_n C d_MO_recover_81 rfl 0 rfl ?_
          refine g_iconst C 1 d_MO_recover_82 (by decide) ?_
          refine g_iconst C 1 d_MO_recover_83 (by decide) ?_
          refine g_callV C (rest := [.int r59]) 0 (fun l => m_M_SpillQueueModel_at X ad 1 1 s58 _ h l) rfl rfl (gt 840 (by decide +kernel) rfl) cb_MO_at ⟨rfl, rfl⟩ (by rw [hRm]; decide) ⟨Nat.zero_le _, Nat.zero_le _⟩ rfl rfl (Nat.le_of_ble_eq_true rfl) d_MO_recover_84 (gki (fun r61 s60 h => ?_))
          refine g_icmp_le C 94 d_MO_recover_87 (by decide) (fun c62 => ?_) (fun c62 => ?_)
          · have h := h.1 c62
            refine g_iconst C 1 d_MO_recover_94 (by decide) ?_
            refine g_goto C 107 d_MO_recover_95 (by decide) ?_
            refine g_istore_n C (lv2 := [(0, .ref (ad 0)), (1, .int r5), (2, .int r7), (3, .int 1)]) d_MO_recover_107 rfl (by decide) rfl ?_
            refine g_aload_n C d_MO_recover_108 rfl 0 rfl ?_
            refine g_aload_n C d_MO_recover_109 rfl 0 rfl ?_
            refine g_iload_n C d_MO_recover_110 rfl 3 rfl ?_
            refine g_callV C (rest := [.ref (ad 0)]) 0 (fun l => m_M_SpillQueueModel_readSuper X ad 1 s60 _ h l) rfl rfl (gt 968 (by decide +kernel) rfl) cb_MO_readSuper ⟨rfl, rfl⟩ (by rw [hRm]; decide) ⟨Nat.zero_le _, Nat.zero_le _⟩ rfl rfl (Nat.le_of_ble_eq_true rfl) d_MO_recover_111 (gki (fun r64 s63 h => ?_))
            obtain ⟨b65, h⟩ := h
            refine g_put C (ws2 := wM ad X (up s63.1 8 (r64), s63.2)) 0 9 iw_MO ty_MO tyok_MO nm_MO rfl rfl (by decide) (gt 740 (by decide +kernel) rfl) rfl rfl b65.1 b65.2 (Nat.le_of_ble_eq_true rfl) rfl d_MO_recover_114 ?_
            refine g_aload_n C d_MO_recover_117 rfl 0 rfl ?_
            refine g_aload_n C d_MO_recover_118 rfl 0 rfl ?_
            refine g_iload_n C d_MO_recover_119 rfl 3 rfl ?_
            refine g_iconst C 1 d_MO_recover_120 (by decide) ?_
            refine g_callV C (rest := [.ref (ad 0)]) 0 (fun l => m_M_SpillQueueModel_at X ad 1 1 (up s63.1 8 (r64), s63.2) _ h l) rfl rfl (gt 840 (by decide +kernel) rfl) cb_MO_at ⟨rfl, rfl⟩ (by rw [hRm]; decide) ⟨Nat.zero_le _, Nat.zero_le _⟩ rfl rfl (Nat.le_of_ble_eq_true rfl) d_MO_recover_121 (gki (fun r67 s66 h => ?_))
            refine g_put C (ws2 := wM ad X (up s66.1 11 (r67), s66.2)) 0 13 iw_MO ty_MO tyok_MO nm_MO rfl rfl (by decide) (gt 744 (by decide +kernel) rfl) rfl rfl rfl rfl (Nat.le_of_ble_eq_true rfl) rfl d_MO_recover_124 ?_
            refine g_iconst C 0 d_MO_recover_127 (by decide) ?_
            refine g_istore C (lv2 := [(0, .ref (ad 0)), (1, .int r5), (2, .int r7), (3, .int 1), (4, .int 0)]) d_MO_recover_128 (by decide) rfl ?_
            obtain ⟨n68, h⟩ := h
            refine w_M_SpillQueueModel_recover_130 X ad Q (_) r5 r7 1 E C hRm r ?_ n68 0 (up s66.1 11 (r67), s66.2) h
            intro v70 s69 h
            refine g_aload_n C d_MO_recover_158 rfl 0 rfl ?_
            refine g_callV C (rest := []) 0 (fun l => m_M_SpillQueueModel_size0 X ad  s69 _ h l) rfl rfl (gt 976 (by decide +kernel) rfl) cb_MO_size0 ⟨rfl, rfl⟩ (by rw [hRm]; decide) ⟨Nat.zero_le _, Nat.zero_le _⟩ rfl rfl (Nat.le_of_ble_eq_true rfl) d_MO_recover_159 (gki (fun r72 s71 h => ?_))
            exact g_iret r rfl d_MO_recover_162 (gBi_mk h)
          · have h := h.2 c62
            refine g_iconst C 0 d_MO_recover_90 (by decide) ?_
            refine g_goto C 107 d_MO_recover_91 (by decide) ?_
            refine g_istore_n C (lv2 := [(0, .ref (ad 0)), (1, .int r5), (2, .int r7), (3, .int 0)]) d_MO_recover_107 rfl (by decide) rfl ?_
            refine g_aload_n C d_MO_recover_108 rfl 0 rfl ?_
            refine g_aload_n C d_MO_recover_109 rfl 0 rfl ?_
            refine g_iload_n C d_MO_recover_110 rfl 3 rfl ?_
            refine g_callV C (rest := [.ref (ad 0)]) 0 (fun l => m_M_SpillQueueModel_readSuper X ad 0 s60 _ h l) rfl rfl (gt 968 (by decide +kernel) rfl) cb_MO_readSuper ⟨rfl, rfl⟩ (by rw [hRm]; decide) ⟨Nat.zero_le _, Nat.zero_le _⟩ rfl rfl (Nat.le_of_ble_eq_true rfl) d_MO_recover_111 (gki (fun r74 s73 h => ?_))
            obtain ⟨b75, h⟩ := h
            refine g_put C (ws2 := wM ad X (up s73.1 8 (r74), s73.2)) 0 9 iw_MO ty_MO tyok_MO nm_MO rfl rfl (by decide) (gt 740 (by decide +kernel) rfl) rfl rfl b75.1 b75.2 (Nat.le_of_ble_eq_true rfl) rfl d_MO_recover_114 ?_
            refine g_aload_n C d_MO_recover_117 rfl 0 rfl ?_
            refine g_aload_n C d_MO_recover_118 rfl 0 rfl ?_
            refine g_iload_n C d_MO_recover_119 rfl 3 rfl ?_
            refine g_iconst C 1 d_MO_recover_120 (by decide) ?_
            refine g_callV C (rest := [.ref (ad 0)]) 0 (fun l => m_M_SpillQueueModel_at X ad 0 1 (up s73.1 8 (r74), s73.2) _ h l) rfl rfl (gt 840 (by decide +kernel) rfl) cb_MO_at ⟨rfl, rfl⟩ (by rw [hRm]; decide) ⟨Nat.zero_le _, Nat.zero_le _⟩ rfl rfl (Nat.le_of_ble_eq_true rfl) d_MO_recover_121 (gki (fun r77 s76 h => ?_))
            refine g_put C (ws2 := wM ad X (up s76.1 11 (r77), s76.2)) 0 13 iw_MO ty_MO tyok_MO nm_MO rfl rfl (by decide) (gt 744 (by decide +kernel) rfl) rfl rfl rfl rfl (Nat.le_of_ble_eq_true rfl) rfl d_MO_recover_124 ?_
            refine g_iconst C 0 d_MO_recover_127 (by decide) ?_
            refine g_istore C (lv2 := [(0, .ref (ad 0)), (1, .int r5), (2, .int r7), (3, .int 0), (4, .int 0)]) d_MO_recover_128 (by decide) rfl ?_
            obtain ⟨n78, h⟩ := h
            refine w_M_SpillQueueModel_recover_130 X ad Q (_) r5 r7 0 E C hRm r ?_ n78 0 (up s76.1 11 (r77), s76.2) h
            intro v80 s79 h
            refine g_aload_n C d_MO_recover_158 rfl 0 rfl ?_
            refine g_callV C (rest := []) 0 (fun l => m_M_SpillQueueModel_size0 X ad  s79 _ h l) rfl rfl (gt 976 (by decide +kernel) rfl) cb_MO_size0 ⟨rfl, rfl⟩ (by rw [hRm]; decide) ⟨Nat.zero_le _, Nat.zero_le _⟩ rfl rfl (Nat.le_of_ble_eq_true rfl) d_MO_recover_159 (gki (fun r82 s81 h => ?_))
            exact g_iret r rfl d_MO_recover_162 (gBi_mk h)
    · have h := h.2 c8
      refine g_iload_n C d_MO_recover_55 rfl 2 rfl ?_
      refine g_if_ne C 67 d_MO_recover_56 (by decide) (fun c83 => ?_) (fun c83 => ?_)
      · have h := h.1 c83
        refine g_iload_n C d_MO_recover_67 rfl 1 rfl ?_
        refine g_if_eq C 98 d_MO_recover_68 (by decide) (fun c84 => ?_) (fun c84 => ?_)
        · have h := h.1 c84
          refine g_iload_n C d_MO_recover_98 rfl 1 rfl ?_
          refine g_if_eq C 106 d_MO_recover_99 (by decide) (fun c85 => ?_) (fun c85 => ?_)
          · have h := h.1 c85
            refine g_iconst C 1 d_MO_recover_106 (by decide) ?_
            refine g_istore_n C (lv2 := [(0, .ref (ad 0)), (1, .int r5), (2, .int r7), (3, .int 1)]) d_MO_recover_107 rfl (by decide) rfl ?_
            refine g_aload_n C d_MO_recover_108 rfl 0 rfl ?_
            refine g_aload_n C d_MO_recover_109 rfl 0 rfl ?_
            refine g_iload_n C d_MO_recover_110 rfl 3 rfl ?_
            refine g_callV C (rest := [.ref (ad 0)]) 0 (fun l => m_M_SpillQueueModel_readSuper X ad 1 s6 _ h l) rfl rfl (gt 968 (by decide +kernel) rfl) cb_MO_readSuper ⟨rfl, rfl⟩ (by rw [hRm]; decide) ⟨Nat.zero_le _, Nat.zero_le _⟩ rfl rfl (Nat.le_of_ble_eq_true rfl) d_MO_recover_111 (gki (fun r87 s86 h => ?_))
            obtain ⟨b88, h⟩ := h
            refine g_put C (ws2 := wM ad X (up s86.1 8 (r87), s86.2)) 0 9 iw_MO ty_MO tyok_MO nm_MO rfl rfl (by decide) (gt 740 (by decide +kernel) rfl) rfl rfl b88.1 b88.2 (Nat.le_of_ble_eq_true rfl) rfl d_MO_recover_114 ?_
            refine g_aload_n C d_MO_recover_117 rfl 0 rfl ?_
            refine g_aload_n C d_MO_recover_118 rfl 0 rfl ?_
            refine g_iload_n C d_MO_recover_119 rfl 3 rfl ?_
            refine g_iconst C 1 d_MO_recover_120 (by decide) ?_
            refine g_callV C (rest := [.ref (ad 0)]) 0 (fun l => m_M_SpillQueueModel_at X ad 1 1 (up s86.1 8 (r87), s86.2) _ h l) rfl rfl (gt 840 (by decide +kernel) rfl) cb_MO_at ⟨rfl, rfl⟩ (by rw [hRm]; decide) ⟨Nat.zero_le _, Nat.zero_le _⟩ rfl rfl (Nat.le_of_ble_eq_true rfl) d_MO_recover_121 (gki (fun r90 s89 h => ?_))
            refine g_put C (ws2 := wM ad X (up s89.1 11 (r90), s89.2)) 0 13 iw_MO ty_MO tyok_MO nm_MO rfl rfl (by decide) (gt 744 (by decide +kernel) rfl) rfl rfl rfl rfl (Nat.le_of_ble_eq_true rfl) rfl d_MO_recover_124 ?_
            refine g_iconst C 0 d_MO_recover_127 (by decide) ?_
            refine g_istore C (lv2 := [(0, .ref (ad 0)), (1, .int r5), (2, .int r7), (3, .int 1), (4, .int 0)]) d_MO_recover_128 (by decide) rfl ?_
            obtain ⟨n91, h⟩ := h
            refine w_M_SpillQueueModel_recover_130 X ad Q (_) r5 r7 1 E C hRm r ?_ n91 0 (up s89.1 11 (r90), s89.2) h
            intro v93 s92 h
            refine g_aload_n C d_MO_recover_158 rfl 0 rfl ?_
            refine g_callV C (rest := []) 0 (fun l => m_M_SpillQueueModel_size0 X ad  s92 _ h l) rfl rfl (gt 976 (by decide +kernel) rfl) cb_MO_size0 ⟨rfl, rfl⟩ (by rw [hRm]; decide) ⟨Nat.zero_le _, Nat.zero_le _⟩ rfl rfl (Nat.le_of_ble_eq_true rfl) d_MO_recover_159 (gki (fun r95 s94 h => ?_))
            exact g_iret r rfl d_MO_recover_162 (gBi_mk h)
          · have h := h.2 c85
            refine g_iconst C 0 d_MO_recover_102 (by decide) ?_
            refine g_goto C 107 d_MO_recover_103 (by decide) ?_
            refine g_istore_n C (lv2 := [(0, .ref (ad 0)), (1, .int r5), (2, .int r7), (3, .int 0)]) d_MO_recover_107 rfl (by decide) rfl ?_
            refine g_aload_n C d_MO_recover_108 rfl 0 rfl ?_
            refine g_aload_n C d_MO_recover_109 rfl 0 rfl ?_
            refine g_iload_n C d_MO_recover_110 rfl 3 rfl ?_
            refine g_callV C (rest := [.ref (ad 0)]) 0 (fun l => m_M_SpillQueueModel_readSuper X ad 0 s6 _ h l) rfl rfl (gt 968 (by decide +kernel) rfl) cb_MO_readSuper ⟨rfl, rfl⟩ (by rw [hRm]; decide) ⟨Nat.zero_le _, Nat.zero_le _⟩ rfl rfl (Nat.le_of_ble_eq_true rfl) d_MO_recover_111 (gki (fun r97 s96 h => ?_))
            obtain ⟨b98, h⟩ := h
            refine g_put C (ws2 := wM ad X (up s96.1 8 (r97), s96.2)) 0 9 iw_MO ty_MO tyok_MO nm_MO rfl rfl (by decide) (gt 740 (by decide +kernel) rfl) rfl rfl b98.1 b98.2 (Nat.le_of_ble_eq_true rfl) rfl d_MO_recover_114 ?_
            refine g_aload_n C d_MO_recover_117 rfl 0 rfl ?_
            refine g_aload_n C d_MO_recover_118 rfl 0 rfl ?_
            refine g_iload_n C d_MO_recover_119 rfl 3 rfl ?_
            refine g_iconst C 1 d_MO_recover_120 (by decide) ?_
            refine g_callV C (rest := [.ref (ad 0)]) 0 (fun l => m_M_SpillQueueModel_at X ad 0 1 (up s96.1 8 (r97), s96.2) _ h l) rfl rfl (gt 840 (by decide +kernel) rfl) cb_MO_at ⟨rfl, rfl⟩ (by rw [hRm]; decide) ⟨Nat.zero_le _, Nat.zero_le _⟩ rfl rfl (Nat.le_of_ble_eq_true rfl) d_MO_recover_121 (gki (fun r100 s99 h => ?_))
            refine g_put C (ws2 := wM ad X (up s99.1 11 (r100), s99.2)) 0 13 iw_MO ty_MO tyok_MO nm_MO rfl rfl (by decide) (gt 744 (by decide +kernel) rfl) rfl rfl rfl rfl (Nat.le_of_ble_eq_true rfl) rfl d_MO_recover_124 ?_
            refine g_iconst C 0 d_MO_recover_127 (by decide) ?_
            refine g_istore C (lv2 := [(0, .ref (ad 0)), (1, .int r5), (2, .int r7), (3, .int 0), (4, .int 0)]) d_MO_recover_128 (by decide) rfl ?_
            obtain ⟨n101, h⟩ := h
            refine w_M_SpillQueueModel_recover_130 X ad Q (_) r5 r7 0 E C hRm r ?_ n101 0 (up s99.1 11 (r100), s99.2) h
            intro v103 s102 h
            refine g_aload_n C d_MO_recover_158 rfl 0 rfl ?_
            refine g_callV C (rest := []) 0 (fun l => m_M_SpillQueueModel_size0 X ad  s102 _ h l) rfl rfl (gt 976 (by decide +kernel) rfl) cb_MO_size0 ⟨rfl, rfl⟩ (by rw [hRm]; decide) ⟨Nat.zero_le _, Nat.zero_le _⟩ rfl rfl (Nat.le_of_ble_eq_true rfl) d_MO_recover_159 (gki (fun r105 s104 h => ?_))
            exact g_iret r rfl d_MO_recover_162 (gBi_mk h)
        · have h := h.2 c84
          refine g_iload_n C d_MO_recover_71 rfl 2 rfl ?_
          refine g_if_eq C 98 d_MO_recover_72 (by decide) (fun c106 => ?_) (fun c106 => ?_)
          · have h := h.1 c106
            refine g_iload_n C d_MO_recover_98 rfl 1 rfl ?_
            refine g_if_eq C 106 d_MO_recover_99 (by decide) (fun c107 => ?_) (fun c107 => ?_)
            · have h := h.1 c107
              refine g_iconst C 1 d_MO_recover_106 (by decide) ?_
              refine g_istore_n C (lv2 := [(0, .ref (ad 0)), (1, .int r5), (2, .int r7), (3, .int 1)]) d_MO_recover_107 rfl (by decide) rfl ?_
              refine g_aload_n C d_MO_recover_108 rfl 0 rfl ?_
              refine g_aload_n C d_MO_recover_109 rfl 0 rfl ?_
              refine g_iload_n C d_MO_recover_110 rfl 3 rfl ?_
              refine g_callV C (rest := [.ref (ad 0)]) 0 (fun l => m_M_SpillQueueModel_readSuper X ad 1 s6 _ h l) rfl rfl (gt 968 (by decide +kernel) rfl) cb_MO_readSuper ⟨rfl, rfl⟩ (by rw [hRm]; decide) ⟨Nat.zero_le _, Nat.zero_le _⟩ rfl rfl (Nat.le_of_ble_eq_true rfl) d_MO_recover_111 (gki (fun r109 s108 h => ?_))
              obtain ⟨b110, h⟩ := h
              refine g_put C (ws2 := wM ad X (up s108.1 8 (r109), s108.2)) 0 9 iw_MO ty_MO tyok_MO nm_MO rfl rfl (by decide) (gt 740 (by decide +kernel) rfl) rfl rfl b110.1 b110.2 (Nat.le_of_ble_eq_true rfl) rfl d_MO_recover_114 ?_
              refine g_aload_n C d_MO_recover_117 rfl 0 rfl ?_
              refine g_aload_n C d_MO_recover_118 rfl 0 rfl ?_
              refine g_iload_n C d_MO_recover_119 rfl 3 rfl ?_
              refine g_iconst C 1 d_MO_recover_120 (by decide) ?_
              refine g_callV C (rest := [.ref (ad 0)]) 0 (fun l => m_M_SpillQueueModel_at X ad 1 1 (up s108.1 8 (r109), s108.2) _ h l) rfl rfl (gt 840 (by decide +kernel) rfl) cb_MO_at ⟨rfl, rfl⟩ (by rw [hRm]; decide) ⟨Nat.zero_le _, Nat.zero_le _⟩ rfl rfl (Nat.le_of_ble_eq_true rfl) d_MO_recover_121 (gki (fun r112 s111 h => ?_))
              refine g_put C (ws2 := wM ad X (up s111.1 11 (r112), s111.2)) 0 13 iw_MO ty_MO tyok_MO nm_MO rfl rfl (by decide) (gt 744 (by decide +kernel) rfl) rfl rfl rfl rfl (Nat.le_of_ble_eq_true rfl) rfl d_MO_recover_124 ?_
              refine g_iconst C 0 d_MO_recover_127 (by decide) ?_
              refine g_istore C (lv2 := [(0, .ref (ad 0)), (1, .int r5), (2, .int r7), (3, .int 1), (4, .int 0)]) d_MO_recover_128 (by decide) rfl ?_
              obtain ⟨n113, h⟩ := h
              refine w_M_SpillQueueModel_recover_130 X ad Q (_) r5 r7 1 E C hRm r ?_ n113 0 (up s111.1 11 (r112), s111.2) h
              intro v115 s114 h
              refine g_aload_n C d_MO_recover_158 rfl 0 rfl ?_
              refine g_callV C (rest := []) 0 (fun l => m_M_SpillQueueModel_size0 X ad  s114 _ h l) rfl rfl (gt 976 (by decide +kernel) rfl) cb_MO_size0 ⟨rfl, rfl⟩ (by rw [hRm]; decide) ⟨Nat.zero_le _, Nat.zero_le _⟩ rfl rfl (Nat.le_of_ble_eq_true rfl) d_MO_recover_159 (gki (fun r117 s116 h => ?_))
              exact g_iret r rfl d_MO_recover_162 (gBi_mk h)
            · have h := h.2 c107
              refine g_iconst C 0 d_MO_recover_102 (by decide) ?_
              refine g_goto C 107 d_MO_recover_103 (by decide) ?_
              refine g_istore_n C (lv2 := [(0, .ref (ad 0)), (1, .int r5), (2, .int r7), (3, .int 0)]) d_MO_recover_107 rfl (by decide) rfl ?_
              refine g_aload_n C d_MO_recover_108 rfl 0 rfl ?_
              refine g_aload_n C d_MO_recover_109 rfl 0 rfl ?_
              refine g_iload_n C d_MO_recover_110 rfl 3 rfl ?_
              refine g_callV C (rest := [.ref (ad 0)]) 0 (fun l => m_M_SpillQueueModel_readSuper X ad 0 s6 _ h l) rfl rfl (gt 968 (by decide +kernel) rfl) cb_MO_readSuper ⟨rfl, rfl⟩ (by rw [hRm]; decide) ⟨Nat.zero_le _, Nat.zero_le _⟩ rfl rfl (Nat.le_of_ble_eq_true rfl) d_MO_recover_111 (gki (fun r119 s118 h => ?_))
              obtain ⟨b120, h⟩ := h
              refine g_put C (ws2 := wM ad X (up s118.1 8 (r119), s118.2)) 0 9 iw_MO ty_MO tyok_MO nm_MO rfl rfl (by decide) (gt 740 (by decide +kernel) rfl) rfl rfl b120.1 b120.2 (Nat.le_of_ble_eq_true rfl) rfl d_MO_recover_114 ?_
              refine g_aload_n C d_MO_recover_117 rfl 0 rfl ?_
              refine g_aload_n C d_MO_recover_118 rfl 0 rfl ?_
              refine g_iload_n C d_MO_recover_119 rfl 3 rfl ?_
              refine g_iconst C 1 d_MO_recover_120 (by decide) ?_
              refine g_callV C (rest := [.ref (ad 0)]) 0 (fun l => m_M_SpillQueueModel_at X ad 0 1 (up s118.1 8 (r119), s118.2) _ h l) rfl rfl (gt 840 (by decide +kernel) rfl) cb_MO_at ⟨rfl, rfl⟩ (by rw [hRm]; decide) ⟨Nat.zero_le _, Nat.zero_le _⟩ rfl rfl (Nat.le_of_ble_eq_true rfl) d_MO_recover_121 (gki (fun r122 s121 h => ?_))
              refine g_put C (ws2 := wM ad X (up s121.1 11 (r122), s121.2)) 0 13 iw_MO ty_MO tyok_MO nm_MO rfl rfl (by decide) (gt 744 (by decide +kernel) rfl) rfl rfl rfl rfl (Nat.le_of_ble_eq_true rfl) rfl d_MO_recover_124 ?_
              refine g_iconst C 0 d_MO_recover_127 (by decide) ?_
              refine g_istore C (lv2 := [(0, .ref (ad 0)), (1, .int r5), (2, .int r7), (3, .int 0), (4, .int 0)]) d_MO_recover_128 (by decide) rfl ?_
              obtain ⟨n123, h⟩ := h
              refine w_M_SpillQueueModel_recover_130 X ad Q (_) r5 r7 0 E C hRm r ?_ n123 0 (up s121.1 11 (r122), s121.2) h
              intro v125 s124 h
              refine g_aload_n C d_MO_recover_158 rfl 0 rfl ?_
              refine g_callV C (rest := []) 0 (fun l => m_M_SpillQueueModel_size0 X ad  s124 _ h l) rfl rfl (gt 976 (by decide +kernel) rfl) cb_MO_size0 ⟨rfl, rfl⟩ (by rw [hRm]; decide) ⟨Nat.zero_le _, Nat.zero_le _⟩ rfl rfl (Nat.le_of_ble_eq_true rfl) d_MO_recover_159 (gki (fun r127 s126 h => ?_))
              exact g_iret r rfl d_MO_recover_162 (gBi_mk h)
          · have h := h.2 c106
            refine g_aload_n C d_MO_recover_75 rfl 0 rfl ?_
            refine g_iconst C 0 d_MO_recover_76 (by decide) ?_
            refine g_iconst C 1 d_MO_recover_77 (by decide) ?_
            refine g_callV C (rest := []) 0 (fun l => m_M_SpillQueueModel_at X ad 0 1 s6 _ h l) rfl rfl (gt 840 (by decide +kernel) rfl) cb_MO_at ⟨rfl, rfl⟩ (by rw [hRm]; decide) ⟨Nat.zero_le _, Nat.zero_le _⟩ rfl rfl (Nat.le_of_ble_eq_true rfl) d_MO_recover_78 (gki (fun r129 s128 h => ?_))
            refine g_aload_n C d_MO_recover_81 rfl 0 rfl ?_
            refine g_iconst C 1 d_MO_recover_82 (by decide) ?_
            refine g_iconst C 1 d_MO_recover_83 (by decide) ?_
            refine g_callV C (rest := [.int r129]) 0 (fun l => m_M_SpillQueueModel_at X ad 1 1 s128 _ h l) rfl rfl (gt 840 (by decide +kernel) rfl) cb_MO_at ⟨rfl, rfl⟩ (by rw [hRm]; decide) ⟨Nat.zero_le _, Nat.zero_le _⟩ rfl rfl (Nat.le_of_ble_eq_true rfl) d_MO_recover_84 (gki (fun r131 s130 h => ?_))
            refine g_icmp_le C 94 d_MO_recover_87 (by decide) (fun c132 => ?_) (fun c132 => ?_)
            · have h := h.1 c132
              refine g_iconst C 1 d_MO_recover_94 (by decide) ?_
              refine g_goto C 107 d_MO_recover_95 (by decide) ?_
              refine g_istore_n C (lv2 := [(0, .ref (ad 0)), (1, .int r5), (2, .int r7), (3, .int 1)]) d_MO_recover_107 rfl (by decide) rfl ?_
              refine g_aload_n C d_MO_recover_108 rfl 0 rfl ?_
              refine g_aload_n C d_MO_recover_109 rfl 0 rfl ?_
              refine g_iload_n C d_MO_recover_110 rfl 3 rfl ?_
              refine g_callV C (rest := [.ref (ad 0)]) 0 (fun l => m_M_SpillQueueModel_readSuper X ad 1 s130 _ h l) rfl rfl (gt 968 (by decide +kernel) rfl) cb_MO_readSuper ⟨rfl, rfl⟩ (by rw [hRm]; decide) ⟨Nat.zero_le _, Nat.zero_le _⟩ rfl rfl (Nat.le_of_ble_eq_true rfl) d_MO_recover_111 (gki (fun r134 s133 h => ?_))
              obtain ⟨b135, h⟩ := h
              refine g_put C (ws2 := wM ad X (up s133.1 8 (r134), s133.2)) 0 9 iw_MO ty_MO tyok_MO nm_MO rfl rfl (by decide) (gt 740 (by decide +kernel) rfl) rfl rfl b135.1 b135.2 (Nat.le_of_ble_eq_true rfl) rfl d_MO_recover_114 ?_
              refine g_aload_n C d_MO_recover_117 rfl 0 rfl ?_
              refine g_aload_n C d_MO_recover_118 rfl 0 rfl ?_
              refine g_iload_n C d_MO_recover_119 rfl 3 rfl ?_
              refine g_iconst C 1 d_MO_recover_120 (by decide) ?_
              refine g_callV C (rest := [.ref (ad 0)]) 0 (fun l => m_M_SpillQueueModel_at X ad 1 1 (up s133.1 8 (r134), s133.2) _ h l) rfl rfl (gt 840 (by decide +kernel) rfl) cb_MO_at ⟨rfl, rfl⟩ (by rw [hRm]; decide) ⟨Nat.zero_le _, Nat.zero_le _⟩ rfl rfl (Nat.le_of_ble_eq_true rfl) d_MO_recover_121 (gki (fun r137 s136 h => ?_))
              refine g_put C (ws2 := wM ad X (up s136.1 11 (r137), s136.2)) 0 13 iw_MO ty_MO tyok_MO nm_MO rfl rfl (by decide) (gt 744 (by decide +kernel) rfl) rfl rfl rfl rfl (Nat.le_of_ble_eq_true rfl) rfl d_MO_recover_124 ?_
              refine g_iconst C 0 d_MO_recover_127 (by decide) ?_
              refine g_istore C (lv2 := [(0, .ref (ad 0)), (1, .int r5), (2, .int r7), (3, .int 1), (4, .int 0)]) d_MO_recover_128 (by decide) rfl ?_
              obtain ⟨n138, h⟩ := h
              refine w_M_SpillQueueModel_recover_130 X ad Q (_) r5 r7 1 E C hRm r ?_ n138 0 (up s136.1 11 (r137), s136.2) h
              intro v140 s139 h
              refine g_aload_n C d_MO_recover_158 rfl 0 rfl ?_
              refine g_callV C (rest := []) 0 (fun l => m_M_SpillQueueModel_size0 X ad  s139 _ h l) rfl rfl (gt 976 (by decide +kernel) rfl) cb_MO_size0 ⟨rfl, rfl⟩ (by rw [hRm]; decide) ⟨Nat.zero_le _, Nat.zero_le _⟩ rfl rfl (Nat.le_of_ble_eq_true rfl) d_MO_recover_159 (gki (fun r142 s141 h => ?_))
              exact g_iret r rfl d_MO_recover_162 (gBi_mk h)
            · have h := h.2 c132
              refine g_iconst C 0 d_MO_recover_90 (by decide) ?_
              refine g_goto C 107 d_MO_recover_91 (by decide) ?_
              refine g_istore_n C (lv2 := [(0, .ref (ad 0)), (1, .int r5), (2, .int r7), (3, .int 0)]) d_MO_recover_107 rfl (by decide) rfl ?_
              refine g_aload_n C d_MO_recover_108 rfl 0 rfl ?_
              refine g_aload_n C d_MO_recover_109 rfl 0 rfl ?_
              refine g_iload_n C d_MO_recover_110 rfl 3 rfl ?_
              refine g_callV C (rest := [.ref (ad 0)]) 0 (fun l => m_M_SpillQueueModel_readSuper X ad 0 s130 _ h l) rfl rfl (gt 968 (by decide +kernel) rfl) cb_MO_readSuper ⟨rfl, rfl⟩ (by rw [hRm]; decide) ⟨Nat.zero_le _, Nat.zero_le _⟩ rfl rfl (Nat.le_of_ble_eq_true rfl) d_MO_recover_111 (gki (fun r144 s143 h => ?_))
              obtain ⟨b145, h⟩ := h
              refine g_put C (ws2 := wM ad X (up s143.1 8 (r144), s143.2)) 0 9 iw_MO ty_MO tyok_MO nm_MO rfl rfl (by decide) (gt 740 (by decide +kernel) rfl) rfl rfl b145.1 b145.2 (Nat.le_of_ble_eq_true rfl) rfl d_MO_recover_114 ?_
              refine g_aload_n C d_MO_recover_117 rfl 0 rfl ?_
              refine g_aload_n C d_MO_recover_118 rfl 0 rfl ?_
              refine g_iload_n C d_MO_recover_119 rfl 3 rfl ?_
              refine g_iconst C 1 d_MO_recover_120 (by decide) ?_
              refine g_callV C (rest := [.ref (ad 0)]) 0 (fun l => m_M_SpillQueueModel_at X ad 0 1 (up s143.1 8 (r144), s143.2) _ h l) rfl rfl (gt 840 (by decide +kernel) rfl) cb_MO_at ⟨rfl, rfl⟩ (by rw [hRm]; decide) ⟨Nat.zero_le _, Nat.zero_le _⟩ rfl rfl (Nat.le_of_ble_eq_true rfl) d_MO_recover_121 (gki (fun r147 s146 h => ?_))
              refine g_put C (ws2 := wM ad X (up s146.1 11 (r147), s146.2)) 0 13 iw_MO ty_MO tyok_MO nm_MO rfl rfl (by decide) (gt 744 (by decide +kernel) rfl) rfl rfl rfl rfl (Nat.le_of_ble_eq_true rfl) rfl d_MO_recover_124 ?_
              refine g_iconst C 0 d_MO_recover_127 (by decide) ?_
              refine g_istore C (lv2 := [(0, .ref (ad 0)), (1, .int r5), (2, .int r7), (3, .int 0), (4, .int 0)]) d_MO_recover_128 (by decide) rfl ?_
              obtain ⟨n148, h⟩ := h
              refine w_M_SpillQueueModel_recover_130 X ad Q (_) r5 r7 0 E C hRm r ?_ n148 0 (up s146.1 11 (r147), s146.2) h
              intro v150 s149 h
              refine g_aload_n C d_MO_recover_158 rfl 0 rfl ?_
              refine g_callV C (rest := []) 0 (fun l => m_M_SpillQueueModel_size0 X ad  s149 _ h l) rfl rfl (gt 976 (by decide +kernel) rfl) cb_MO_size0 ⟨rfl, rfl⟩ (by rw [hRm]; decide) ⟨Nat.zero_le _, Nat.zero_le _⟩ rfl rfl (Nat.le_of_ble_eq_true rfl) d_MO_recover_159 (gki (fun r152 s151 h => ?_))
              exact g_iret r rfl d_MO_recover_162 (gBi_mk h)
      · have h := h.2 c83
        refine g_aload_n C d_MO_recover_59 rfl 0 rfl ?_
        refine g_iconst C 0 d_MO_recover_60 (by decide) ?_
        refine g_put C (ws2 := wM ad X (up s6.1 12 (0), s6.2)) 0 14 iw_MO ty_MO tyok_MO nm_MO rfl rfl (by decide) (gt 745 (by decide +kernel) rfl) rfl rfl rfl rfl (Nat.le_of_ble_eq_true rfl) rfl d_MO_recover_61 ?_
        refine g_bipush C (-3) d_MO_recover_64 (by decide) ?_
        exact g_iret r rfl d_MO_recover_66 (gBi_mk h)
theorem m_M_SpillQueueModel_recover (X : gX) (ad : Nat → Nat) (s : gS) (Q : Int32 → gS → Prop) (h : wp_M_SpillQueueModel_recover  s Q) (l : Launch) : gM l X y_MO_recover b_MO_recover 5 (some .int) rm_M_SpillQueueModel_recover [.ref (ad 0)] (wM ad X s) (gBi (wM ad X) Q) :=
  gM_of (by decide +kernel) rfl (Nat.le_of_ble_eq_true rfl) rfl (fun E C hRm r => w_M_SpillQueueModel_recover X ad  s Q h E C hRm r)
